set_option maxRecDepth 100000 in
set_option maxHeartbeats 4000000 in
theorem c_J6_bitCount_0f7a4 (l : Launch) (G : Gx) {K : Kx} (hK : K = kP) {x0 : Int} {M : Mem} {res : Int × Mem} (hM : OkM M) (ha : okS [aI x0]) (hF : j_bitCount_0f7a4 x0 M = some res) : Ct l G K yJ6_bitCount_0f7a4 (wsM yJ6_bitCount_0f7a4 cJ6_bitCount_0f7a4 1 (some .int)) rmJ6_bitCount_0f7a4 [aI x0] M (some (aI res.1)) res.2 := by
  refine ct_of RJ6 (by decide +kernel) rfl (hK ▸ kP_ok) hM ha (Nat.le_of_ble_eq_true rfl) hF ?_
  intro X C hl hG hX0 hN hR hq
  have hX : xK X = kP := hX0.trans hK
  show Im X 0 0 0 [(0, aI x0)] [] M res (j_bitCount_0f7a4 x0 M)
  unfold j_bitCount_0f7a4
  have hl0 : 0 < xn X := by rw [hN]; decide
  refine i_iload_n C dJ6_bitCount_0f7a4_0 rfl (q := 0) rfl ?_
  refine i_iload_n C dJ6_bitCount_0f7a4_1 rfl (q := 0) rfl ?_
  refine i_iconst C dJ6_bitCount_0f7a4_2 kI_1 ?_
  refine i_iushr C dJ6_bitCount_0f7a4_3 ?_
  refine i_ldc_w C dJ6_bitCount_0f7a4_4 kc_J6_265 kI_1431655765 ?_
  refine i_iand C dJ6_bitCount_0f7a4_7 ?_
  refine i_isub C dJ6_bitCount_0f7a4_8 ?_
  refine i_nm (fun v1 => ?_)
  refine i_istore_n C dJ6_bitCount_0f7a4_9 rfl hl0 (L' := [(0, aI v1)]) rfl ?_
  refine i_iload_n C dJ6_bitCount_0f7a4_10 rfl (q := 0) rfl ?_
  refine i_ldc_w C dJ6_bitCount_0f7a4_11 kc_J6_266 kI_858993459 ?_
  refine i_iand C dJ6_bitCount_0f7a4_14 ?_
  refine i_iload_n C dJ6_bitCount_0f7a4_15 rfl (q := 0) rfl ?_
  refine i_iconst C dJ6_bitCount_0f7a4_16 kI_2 ?_
  refine i_iushr C dJ6_bitCount_0f7a4_17 ?_
  refine i_ldc_w C dJ6_bitCount_0f7a4_18 kc_J6_266 kI_858993459 ?_
  refine i_iand C dJ6_bitCount_0f7a4_21 ?_
  refine i_iadd C dJ6_bitCount_0f7a4_22 ?_
  refine i_nm (fun v2 => ?_)
  refine i_istore_n C dJ6_bitCount_0f7a4_23 rfl hl0 (L' := [(0, aI v2)]) rfl ?_
  refine i_iload_n C dJ6_bitCount_0f7a4_24 rfl (q := 0) rfl ?_
  refine i_iload_n C dJ6_bitCount_0f7a4_25 rfl (q := 0) rfl ?_
  refine i_iconst C dJ6_bitCount_0f7a4_26 kI_4 ?_
  refine i_iushr C dJ6_bitCount_0f7a4_27 ?_
  refine i_iadd C dJ6_bitCount_0f7a4_28 ?_
  refine i_ldc_w C dJ6_bitCount_0f7a4_29 kc_J6_267 kI_252645135 ?_
  refine i_iand C dJ6_bitCount_0f7a4_32 ?_
  refine i_nm (fun v3 => ?_)
  refine i_istore_n C dJ6_bitCount_0f7a4_33 rfl hl0 (L' := [(0, aI v3)]) rfl ?_
  refine i_iload_n C dJ6_bitCount_0f7a4_34 rfl (q := 0) rfl ?_
  refine i_iload_n C dJ6_bitCount_0f7a4_35 rfl (q := 0) rfl ?_
  refine i_bipush C dJ6_bitCount_0f7a4_36 kB_8 ?_
  refine i_iushr C dJ6_bitCount_0f7a4_38 ?_
  refine i_iadd C dJ6_bitCount_0f7a4_39 ?_
  refine i_nm (fun v4 => ?_)
  refine i_istore_n C dJ6_bitCount_0f7a4_40 rfl hl0 (L' := [(0, aI v4)]) rfl ?_
  refine i_iload_n C dJ6_bitCount_0f7a4_41 rfl (q := 0) rfl ?_
  refine i_iload_n C dJ6_bitCount_0f7a4_42 rfl (q := 0) rfl ?_
  refine i_bipush C dJ6_bitCount_0f7a4_43 kB_16 ?_
  refine i_iushr C dJ6_bitCount_0f7a4_45 ?_
  refine i_iadd C dJ6_bitCount_0f7a4_46 ?_
  refine i_nm (fun v5 => ?_)
  refine i_istore_n C dJ6_bitCount_0f7a4_47 rfl hl0 (L' := [(0, aI v5)]) rfl ?_
  refine i_iload_n C dJ6_bitCount_0f7a4_48 rfl (q := 0) rfl ?_
  refine i_bipush C dJ6_bitCount_0f7a4_49 kB_63 ?_
  refine i_iand C dJ6_bitCount_0f7a4_51 ?_
  exact i_iret C hq dJ6_bitCount_0f7a4_52
set_option maxRecDepth 100000 in
set_option maxHeartbeats 4000000 in
theorem c_J7_rangeCheck_23922 (l : Launch) (G : Gx) {K : Kx} (hK : K = kP) {x0 : Int} {x1 : Int} {x2 : Int} {M : Mem} {res : Mem} (hM : OkM M) (ha : okS [aI x0, aI x1, aI x2]) (hF : j_rangeCheck_23922 x0 x1 x2 M = some res) : Ct l G K yJ7_rangeCheck_23922 (wsM yJ7_rangeCheck_23922 cJ7_rangeCheck_23922 3 none) rmJ7_rangeCheck_23922 [aI x0, aI x1, aI x2] M none res := by
  refine ct_of RJ7 (by decide +kernel) rfl (hK ▸ kP_ok) hM ha (Nat.le_of_ble_eq_true rfl) hF ?_
  intro X C hl hG hX0 hN hR hq
  have hX : xK X = kP := hX0.trans hK
  show Im X 0 0 0 [(0, aI x0), (1, aI x1), (2, aI x2)] [] M res (j_rangeCheck_23922 x0 x1 x2 M)
  unfold j_rangeCheck_23922
  refine i_iload_n C dJ7_rangeCheck_23922_0 rfl (q := 1) rfl ?_
  refine i_iload_n C dJ7_rangeCheck_23922_1 rfl (q := 2) rfl ?_
  refine i_icmp_le (tgt := 46) C dJ7_rangeCheck_23922_2 (by decide) ?_ ?_
  · refine i_iload_n C dJ7_rangeCheck_23922_46 rfl (q := 1) rfl ?_
    refine i_if_ge (tgt := 59) C dJ7_rangeCheck_23922_47 (by decide) ?_ ?_
    · refine i_iload_n C dJ7_rangeCheck_23922_59 rfl (q := 2) rfl ?_
      refine i_iload_n C dJ7_rangeCheck_23922_60 rfl (q := 0) rfl ?_
      refine i_icmp_le (tgt := 73) C dJ7_rangeCheck_23922_61 (by decide) ?_ ?_
      · exact i_vret C hq dJ7_rangeCheck_23922_73
      · exact i_none
    · exact i_none
  · exact i_none
set_option maxRecDepth 100000 in
set_option maxHeartbeats 4000000 in
theorem w_J7_fill_53178_5 {X : Xc} (C : Cx X RJ7 cJ7_fill_53178 none) (hX : xK X = kP) (hN : xn X = 4) (hR : xR X = rmJ7_fill_53178) {f0 : Nat} {n0 : Nat} (sf0 : Sh X f0 (.inl n0)) {res : Mem} (hq : Rq X none res) (y1 : Int) (y3 : Int) : ∀ (n : Nat) (u2 : Int) (M : Mem), Im X 0 0 5 [(0, aR f0), (1, aI y1), (2, aI u2), (3, aI y3)] [] M res (lpJ7_fill_53178_5 f0 n0 y1 y3 n u2 M) := by
  have hl2 : 2 < xn X := by rw [hN]; decide
  have hl3 : 3 < xn X := by rw [hN]; decide
  intro n
  induction n with
  | zero => intro _ _; exact i_none
  | succ n ih =>
    intro u2 M
    unfold lpJ7_fill_53178_5
    refine i_iload_n C dJ7_fill_53178_5 rfl (q := 2) rfl ?_
    refine i_iload_n C dJ7_fill_53178_6 rfl (q := 3) rfl ?_
    refine i_icmp_ge (tgt := 20) C dJ7_fill_53178_7 (by decide) ?_ ?_
    · exact i_vret C hq dJ7_fill_53178_20
    · refine i_aload_n C dJ7_fill_53178_10 rfl (q := 0) rfl ?_
      refine i_iload_n C dJ7_fill_53178_11 rfl (q := 2) rfl ?_
      refine i_iload_n C dJ7_fill_53178_12 rfl (q := 1) rfl ?_
      refine i_ast C dJ7_fill_53178_13 sf0 (fun M2 => ?_)
      refine i_iincN (L' := fun v3 => [(0, aR f0), (1, aI y1), (2, aI v3), (3, aI y3)]) C dJ7_fill_53178_14 (q := 2) rfl hl2 (fun _ => rfl) (fun v3 => ?_)
      refine i_goto (tgt := 5) C dJ7_fill_53178_17 (by decide) ?_
      exact (ih v3 M2)
set_option maxRecDepth 100000 in
set_option maxHeartbeats 4000000 in
theorem c_J7_fill_53178 (l : Launch) (G : Gx) {K : Kx} (hK : K = kP) {f0 : Nat} {n0 : Nat} {x1 : Int} (hf0 : f0 ∈ K.1 ∧ K.2.2 f0 = .inl n0) {M : Mem} {res : Mem} (hM : OkM M) (ha : okS [aR f0, aI x1]) (hF : j_fill_53178 f0 n0 x1 M = some res) : Ct l G K yJ7_fill_53178 (wsM yJ7_fill_53178 cJ7_fill_53178 4 none) rmJ7_fill_53178 [aR f0, aI x1] M none res := by
  refine ct_of RJ7 (by decide +kernel) rfl (hK ▸ kP_ok) hM ha (Nat.le_of_ble_eq_true rfl) hF ?_
  intro X C hl hG hX0 hN hR hq
  have hX : xK X = kP := hX0.trans hK
  have sf0 : Sh X f0 (.inl n0) := by unfold Sh; rw [hX0]; exact hf0
  show Im X 0 0 0 [(0, aR f0), (1, aI x1)] [] M res (j_fill_53178 f0 n0 x1 M)
  unfold j_fill_53178
  have hl2 : 2 < xn X := by rw [hN]; decide
  have hl3 : 3 < xn X := by rw [hN]; decide
  refine i_iconst C dJ7_fill_53178_0 kI_0 ?_
  refine i_istore_n C dJ7_fill_53178_1 rfl hl2 (L' := [(0, aR f0), (1, aI x1), (2, aI 0)]) rfl ?_
  refine i_aload_n C dJ7_fill_53178_2 rfl (q := 0) rfl ?_
  refine i_alenG C hX dJ7_fill_53178_3 sf0 ?_
  refine i_nm (fun v1 => ?_)
  refine i_istore_n C dJ7_fill_53178_4 rfl hl3 (L' := [(0, aR f0), (1, aI x1), (2, aI 0), (3, aI v1)]) rfl ?_
  exact (w_J7_fill_53178_5 C hX hN hR sf0 hq x1 v1 FU 0 M)
set_option maxRecDepth 100000 in
set_option maxHeartbeats 4000000 in
theorem w_J7_fill_fda19_10 {X : Xc} (C : Cx X RJ7 cJ7_fill_fda19 none) (hX : xK X = kP) (hN : xn X = 5) (hR : xR X = rmJ7_fill_fda19) {f0 : Nat} {n0 : Nat} (sf0 : Sh X f0 (.inl n0)) {res : Mem} (hq : Rq X none res) (y2 : Int) (y3 : Int) : ∀ (n : Nat) (u4 : Int) (M : Mem), Im X 0 0 10 [(0, aR f0), (2, aI y2), (3, aI y3), (4, aI u4)] [] M res (lpJ7_fill_fda19_10 f0 n0 y2 y3 n u4 M) := by
  have hl4 : 4 < xn X := by rw [hN]; decide
  have hRm : ∀ {rm : Room} {ny : Nat}, RmOk rmJ7_fill_fda19 rm ny → RmOk (xR X) rm ny := fun h => by rw [hR]; exact h
  intro n
  induction n with
  | zero => intro _ _; exact i_none
  | succ n ih =>
    intro u4 M
    unfold lpJ7_fill_fda19_10
    refine i_iload C dJ7_fill_fda19_10 (q := 3) rfl ?_
    refine i_iload_n C dJ7_fill_fda19_12 rfl (q := 1) rfl ?_
    refine i_icmp_ge (tgt := 27) C dJ7_fill_fda19_13 (by decide) ?_ ?_
    · exact i_vret C hq dJ7_fill_fda19_27
    · refine i_aload_n C dJ7_fill_fda19_16 rfl (q := 0) rfl ?_
      refine i_iload C dJ7_fill_fda19_17 (q := 3) rfl ?_
      refine i_iload_n C dJ7_fill_fda19_19 rfl (q := 2) rfl ?_
      refine i_ast C dJ7_fill_fda19_20 sf0 (fun M2 => ?_)
      refine i_iincN (L' := fun v3 => [(0, aR f0), (2, aI y2), (3, aI y3), (4, aI v3)]) C dJ7_fill_fda19_21 (q := 3) rfl hl4 (fun _ => rfl) (fun v3 => ?_)
      refine i_goto (tgt := 10) C dJ7_fill_fda19_24 (by decide) ?_
      exact (ih v3 M2)
set_option maxRecDepth 100000 in
set_option maxHeartbeats 4000000 in
theorem c_J7_fill_fda19 (l : Launch) (G : Gx) {K : Kx} (hK : K = kP) {f0 : Nat} {n0 : Nat} {x1 : Int} {x2 : Int} {x3 : Int} (hf0 : f0 ∈ K.1 ∧ K.2.2 f0 = .inl n0) {M : Mem} {res : Mem} (hM : OkM M) (ha : okS [aR f0, aI x1, aI x2, aI x3]) (hF : j_fill_fda19 f0 n0 x1 x2 x3 M = some res) : Ct l G K yJ7_fill_fda19 (wsM yJ7_fill_fda19 cJ7_fill_fda19 5 none) rmJ7_fill_fda19 [aR f0, aI x1, aI x2, aI x3] M none res := by
  refine ct_of RJ7 (by decide +kernel) rfl (hK ▸ kP_ok) hM ha (Nat.le_of_ble_eq_true rfl) hF ?_
  intro X C hl hG hX0 hN hR hq
  have hX : xK X = kP := hX0.trans hK
  have sf0 : Sh X f0 (.inl n0) := by unfold Sh; rw [hX0]; exact hf0
  show Im X 0 0 0 [(0, aR f0), (1, aI x1), (2, aI x2), (3, aI x3)] [] M res (j_fill_fda19 f0 n0 x1 x2 x3 M)
  unfold j_fill_fda19
  have hl4 : 4 < xn X := by rw [hN]; decide
  have hRm : ∀ {rm : Room} {ny : Nat}, RmOk rmJ7_fill_fda19 rm ny → RmOk (xR X) rm ny := fun h => by rw [hR]; exact h
  refine i_aload_n C dJ7_fill_fda19_0 rfl (q := 0) rfl ?_
  refine i_alenG C hX dJ7_fill_fda19_1 sf0 ?_
  refine i_iload_n C dJ7_fill_fda19_2 rfl (q := 1) rfl ?_
  refine i_iload_n C dJ7_fill_fda19_3 rfl (q := 2) rfl ?_
  refine i_cV (kc' := 0) (ks' := 0) 0 0 3 (fun q hq hM hS => crS C (as := [aI ((n0 : Nat) : Int), aI x1, aI x2]) dJ7_fill_fda19_4.1 ml_J7_13 cal_J7_rangeCheck_23922 st_J7_rangeCheck_23922 (hRm ⟨Nat.le_of_ble_eq_true rfl, Nat.le_of_ble_eq_true rfl⟩) rfl (Nat.le_of_ble_eq_true rfl) (c_J7_rangeCheck_23922 (xl X) (xG X) hX hM ⟨hS.2.2.1, hS.2.1, hS.1, trivial⟩ hq)) (Nat.le_of_ble_eq_true rfl) (Nat.le_of_ble_eq_true rfl) rfl rfl rfl (fun M1 => ?_)
  refine i_iload_n C dJ7_fill_fda19_7 rfl (q := 1) rfl ?_
  refine i_istore C dJ7_fill_fda19_8 hl4 (L' := [(0, aR f0), (1, aI x1), (2, aI x2), (3, aI x3), (4, aI x1)]) rfl ?_
  exact i_sub [0, 2, 3, 4] rfl (w_J7_fill_fda19_10 C hX hN hR sf0 hq x2 x3 FU x1 M1)
set_option maxRecDepth 100000 in
set_option maxHeartbeats 4000000 in
theorem w_J7_fillB_10 {X : Xc} (C : Cx X RJ7 cJ7_fillB none) (hX : xK X = kP) (hN : xn X = 5) (hR : xR X = rmJ7_fillB) {b : Nat} (hb : isC b) {res : Mem} (hq : Rq X none res) (y2 : Int) (y3 : Int) : ∀ (n : Nat) (u4 : Int) (M : Mem), Im X 0 0 10 [(0, aB b), (2, aI y2), (3, aI y3), (4, aI u4)] [] M res (lpJ7_fillB_10 b y2 y3 n u4 M) := by
  have hl4 : 4 < xn X := by rw [hN]; decide
  have hRm : ∀ {rm : Room} {ny : Nat}, RmOk rmJ7_fillB rm ny → RmOk (xR X) rm ny := fun h => by rw [hR]; exact h
  intro n
  induction n with
  | zero => intro _ _; exact i_none
  | succ n ih =>
    intro u4 M
    unfold lpJ7_fillB_10
    refine i_iload C dJ7_fillB_10 (q := 3) rfl ?_
    refine i_iload_n C dJ7_fillB_12 rfl (q := 1) rfl ?_
    refine i_icmp_ge (tgt := 27) C dJ7_fillB_13 (by decide) ?_ ?_
    · exact i_vret C hq dJ7_fillB_27
    · refine i_aload_nB C dJ7_fillB_16 rfl (q := 0) rfl ?_
      refine i_iload C dJ7_fillB_17 (q := 3) rfl ?_
      refine i_iload_n C dJ7_fillB_19 rfl (q := 2) rfl ?_
      refine i_astB C dJ7_fillB_20 (inBa hX hb) (fun M2 => ?_)
      refine i_iincN (L' := fun v3 => [(0, aB b), (2, aI y2), (3, aI y3), (4, aI v3)]) C dJ7_fillB_21 (q := 3) rfl hl4 (fun _ => rfl) (fun v3 => ?_)
      refine i_goto (tgt := 10) C dJ7_fillB_24 (by decide) ?_
      exact (ih v3 M2)
set_option maxRecDepth 100000 in
set_option maxHeartbeats 4000000 in
theorem c_J7_fillB (l : Launch) (G : Gx) {K : Kx} (hK : K = kP) {b : Nat} {x1 : Int} {x2 : Int} {x3 : Int} (hb : isC b) {M : Mem} {res : Mem} (hM : OkM M) (ha : okS [aB b, aI x1, aI x2, aI x3]) (hF : j_fillB b x1 x2 x3 M = some res) : Ct l G K yJ7_fillB (wsM yJ7_fillB cJ7_fillB 5 none) rmJ7_fillB [aB b, aI x1, aI x2, aI x3] M none res := by
  refine ct_of RJ7 (by decide +kernel) rfl (hK ▸ kP_ok) hM ha (Nat.le_of_ble_eq_true rfl) hF ?_
  intro X C hl hG hX0 hN hR hq
  have hX : xK X = kP := hX0.trans hK
  show Im X 0 0 0 [(0, aB b), (1, aI x1), (2, aI x2), (3, aI x3)] [] M res (j_fillB b x1 x2 x3 M)
  unfold j_fillB
  have hl4 : 4 < xn X := by rw [hN]; decide
  have hRm : ∀ {rm : Room} {ny : Nat}, RmOk rmJ7_fillB rm ny → RmOk (xR X) rm ny := fun h => by rw [hR]; exact h
  refine i_aload_nB C dJ7_fillB_0 rfl (q := 0) rfl ?_
  refine i_alenB C dJ7_fillB_1 (inBa hX hb) ?_
  refine i_iload_n C dJ7_fillB_2 rfl (q := 1) rfl ?_
  refine i_iload_n C dJ7_fillB_3 rfl (q := 2) rfl ?_
  refine i_cV (kc' := 0) (ks' := 0) 0 0 3 (fun q hq hM hS => crS C (as := [aI ((M (b + 63) (-1)).toNat : Nat), aI x1, aI x2]) dJ7_fillB_4.1 ml_J7_13 cal_J7_rangeCheck_23922 st_J7_rangeCheck_23922 (hRm ⟨Nat.le_of_ble_eq_true rfl, Nat.le_of_ble_eq_true rfl⟩) rfl (Nat.le_of_ble_eq_true rfl) (c_J7_rangeCheck_23922 (xl X) (xG X) hX hM ⟨hS.2.2.1, hS.2.1, hS.1, trivial⟩ hq)) (Nat.le_of_ble_eq_true rfl) (Nat.le_of_ble_eq_true rfl) rfl rfl rfl (fun M1 => ?_)
  refine i_iload_n C dJ7_fillB_7 rfl (q := 1) rfl ?_
  refine i_istore C dJ7_fillB_8 hl4 (L' := [(0, aB b), (1, aI x1), (2, aI x2), (3, aI x3), (4, aI x1)]) rfl ?_
  exact i_sub [0, 2, 3, 4] rfl (w_J7_fillB_10 C hX hN hR hb hq x2 x3 FU x1 M1)
set_option maxRecDepth 100000 in
set_option maxHeartbeats 4000000 in
theorem c_J0_coder_7d493 (l : Launch) (G : Gx) {K : Kx} (hK : K = kP) {w : Nat} (hw : w < 11) {M : Mem} {res : Int × Mem} (hM : OkM M) (ha : okS [aR (9000 + w)]) (hF : j_coder_7d493 w M = some res) : Ct l G K yJ0_coder_7d493 (wsM yJ0_coder_7d493 cJ0_coder_7d493 1 (some .byte)) rmJ0_coder_7d493 [aR (9000 + w)] M (some (aI res.1)) res.2 := by
  refine ct_of RJ0 (by decide +kernel) rfl (hK ▸ kP_ok) hM ha (Nat.le_of_ble_eq_true rfl) hF ?_
  intro X C hl hG hX0 hN hR hq
  have hX : xK X = kP := hX0.trans hK
  show Im X 0 0 0 [(0, aR (9000 + w))] [] M res (j_coder_7d493 w M)
  unfold j_coder_7d493
  refine i_gstK C dJ0_coder_7d493_0 fl_J0_38 ?_
  refine i_if_eq_f (tgt := 13) C dJ0_coder_7d493_3 (by decide) (by decide) ?_
  refine i_aload_n C dJ0_coder_7d493_6 rfl (q := 0) rfl ?_
  refine i_strC C hw dJ0_coder_7d493_7 fl_J0_15 ?_
  refine i_goto (tgt := 14) C dJ0_coder_7d493_10 (by decide) ?_
  exact i_nret C hq dJ0_coder_7d493_14 (by decide)
set_option maxRecDepth 100000 in
set_option maxHeartbeats 4000000 in
theorem c_J0_isLatin1_aae02 (l : Launch) (G : Gx) {K : Kx} (hK : K = kP) {w : Nat} (hw : w < 11) {M : Mem} {res : Int × Mem} (hM : OkM M) (ha : okS [aR (9000 + w)]) (hF : j_isLatin1_aae02 w M = some res) : Ct l G K yJ0_isLatin1_aae02 (wsM yJ0_isLatin1_aae02 cJ0_isLatin1_aae02 1 (some .boolean)) rmJ0_isLatin1_aae02 [aR (9000 + w)] M (some (aI res.1)) res.2 := by
  refine ct_of RJ0 (by decide +kernel) rfl (hK ▸ kP_ok) hM ha (Nat.le_of_ble_eq_true rfl) hF ?_
  intro X C hl hG hX0 hN hR hq
  have hX : xK X = kP := hX0.trans hK
  show Im X 0 0 0 [(0, aR (9000 + w))] [] M res (j_isLatin1_aae02 w M)
  unfold j_isLatin1_aae02
  refine i_gstK C dJ0_isLatin1_aae02_0 fl_J0_38 ?_
  refine i_if_eq_f (tgt := 17) C dJ0_isLatin1_aae02_3 (by decide) (by decide) ?_
  refine i_aload_n C dJ0_isLatin1_aae02_6 rfl (q := 0) rfl ?_
  refine i_strC C hw dJ0_isLatin1_aae02_7 fl_J0_15 ?_
  refine i_if_ne_f (tgt := 17) C dJ0_isLatin1_aae02_10 (by decide) (by decide) ?_
  refine i_iconst C dJ0_isLatin1_aae02_13 kI_1 ?_
  refine i_goto (tgt := 18) C dJ0_isLatin1_aae02_14 (by decide) ?_
  exact i_zret C hq dJ0_isLatin1_aae02_18 (Or.inr rfl)
set_option maxRecDepth 100000 in
set_option maxHeartbeats 4000000 in
theorem c_J0_length_8abf5 (l : Launch) (G : Gx) {K : Kx} (hK : K = kP) {w : Nat} (hw : w < 11) {M : Mem} {res : Int × Mem} (hM : OkM M) (ha : okS [aR (9000 + w)]) (hF : j_length_8abf5 w M = some res) : Ct l G K yJ0_length_8abf5 (wsM yJ0_length_8abf5 cJ0_length_8abf5 1 (some .int)) rmJ0_length_8abf5 [aR (9000 + w)] M (some (aI res.1)) res.2 := by
  refine ct_of RJ0 (by decide +kernel) rfl (hK ▸ kP_ok) hM ha (Nat.le_of_ble_eq_true rfl) hF ?_
  intro X C hl hG hX0 hN hR hq
  have hX : xK X = kP := hX0.trans hK
  show Im X 0 0 0 [(0, aR (9000 + w))] [] M res (j_length_8abf5 w M)
  unfold j_length_8abf5
  have hRm : ∀ {rm : Room} {ny : Nat}, RmOk rmJ0_length_8abf5 rm ny → RmOk (xR X) rm ny := fun h => by rw [hR]; exact h
  refine i_aload_n C dJ0_length_8abf5_0 rfl (q := 0) rfl ?_
  refine i_strV C hw dJ0_length_8abf5_1 fl_J0_9 ?_
  refine i_lenS C hw dJ0_length_8abf5_4 ?_
  refine i_aload_n C dJ0_length_8abf5_5 rfl (q := 0) rfl ?_
  refine i_cI (kc' := 0) (ks' := 0) 0 0 1 (fun q hq hM hS => crVS C (as := []) dJ0_length_8abf5_6.1 hw ml_J0_335 cal_J0_coder_7d493 cv_J0_coder_7d493 (hRm ⟨Nat.le_of_ble_eq_true rfl, Nat.le_of_ble_eq_true rfl⟩) rfl (Nat.le_of_ble_eq_true rfl) (c_J0_coder_7d493 (xl X) (xG X) hX hw hM ⟨hS.1, trivial⟩ hq)) (Nat.le_of_ble_eq_true rfl) (Nat.le_of_ble_eq_true rfl) rfl rfl rfl (fun v2 M1 => ?_)
  refine i_ishr C dJ0_length_8abf5_9 ?_
  exact i_iret C hq dJ0_length_8abf5_10
set_option maxRecDepth 100000 in
set_option maxHeartbeats 4000000 in
theorem c_J3_checkIndex_8e157 (l : Launch) (G : Gx) {K : Kx} (hK : K = kP) {x0 : Int} {x1 : Int} {ox : Option Nat} {M : Mem} {res : Int × Mem} (hM : OkM M) (ha : okS [aI x0, aI x1, aX ox]) (hF : j_checkIndex_8e157 x0 x1 M = some res) : Ct l G K yJ3_checkIndex_8e157 (wsM yJ3_checkIndex_8e157 cJ3_checkIndex_8e157 3 (some .int)) rmJ3_checkIndex_8e157 [aI x0, aI x1, aX ox] M (some (aI res.1)) res.2 := by
  refine ct_of RJ3 (by decide +kernel) rfl (hK ▸ kP_ok) hM ha (Nat.le_of_ble_eq_true rfl) hF ?_
  intro X C hl hG hX0 hN hR hq
  have hX : xK X = kP := hX0.trans hK
  show Im X 0 0 0 [(0, aI x0), (1, aI x1), (2, aX ox)] [] M res (j_checkIndex_8e157 x0 x1 M)
  unfold j_checkIndex_8e157
  refine i_iload_n C dJ3_checkIndex_8e157_0 rfl (q := 0) rfl ?_
  refine i_jn (fun j => ∀  (M2 : Mem), Im X 0 0 9 [] [] M2 res (j  M2)) ?_ (fun j1 hj1 => ?_)
  · intro  M2
    exact i_none
  refine i_if_lt (tgt := 9) C dJ3_checkIndex_8e157_1 (by decide) ?_ ?_
  · exact i_sub [] rfl (hj1  M)
  · refine i_iload_n C dJ3_checkIndex_8e157_4 rfl (q := 0) rfl ?_
    refine i_iload_n C dJ3_checkIndex_8e157_5 rfl (q := 1) rfl ?_
    refine i_icmp_lt (tgt := 16) C dJ3_checkIndex_8e157_6 (by decide) ?_ ?_
    · refine i_iload_n C dJ3_checkIndex_8e157_16 rfl (q := 0) rfl ?_
      exact i_iret C hq dJ3_checkIndex_8e157_17
    · exact i_sub [] rfl (hj1  M)
set_option maxRecDepth 100000 in
set_option maxHeartbeats 4000000 in
theorem c_J0_checkIndex_df160 (l : Launch) (G : Gx) {K : Kx} (hK : K = kP) {x0 : Int} {x1 : Int} {M : Mem} {res : Mem} (hM : OkM M) (ha : okS [aI x0, aI x1]) (hF : j_checkIndex_df160 x0 x1 M = some res) : Ct l G K yJ0_checkIndex_df160 (wsM yJ0_checkIndex_df160 cJ0_checkIndex_df160 2 none) rmJ0_checkIndex_df160 [aI x0, aI x1] M none res := by
  refine ct_of RJ0 (by decide +kernel) rfl (hK ▸ kP_ok) hM ha (Nat.le_of_ble_eq_true rfl) hF ?_
  intro X C hl hG hX0 hN hR hq
  have hX : xK X = kP := hX0.trans hK
  show Im X 0 0 0 [(0, aI x0), (1, aI x1)] [] M res (j_checkIndex_df160 x0 x1 M)
  unfold j_checkIndex_df160
  have hRm : ∀ {rm : Room} {ny : Nat}, RmOk rmJ0_checkIndex_df160 rm ny → RmOk (xR X) rm ny := fun h => by rw [hR]; exact h
  refine i_iload_n C dJ0_checkIndex_df160_0 rfl (q := 0) rfl ?_
  refine i_iload_n C dJ0_checkIndex_df160_1 rfl (q := 1) rfl ?_
  refine i_gstX C dJ0_checkIndex_df160_2 fl_J0_1053 (fun o1 => ?_)
  refine i_cI (kc' := 0) (ks' := 0) 0 0 3 (fun q hq hM hS => crS C (as := [aI x0, aI x1, aX o1]) dJ0_checkIndex_df160_5.1 ml_J0_1059 cal_J3_checkIndex_8e157 st_J3_checkIndex_8e157 (hRm ⟨Nat.le_of_ble_eq_true rfl, Nat.le_of_ble_eq_true rfl⟩) rfl (Nat.le_of_ble_eq_true rfl) (c_J3_checkIndex_8e157 (xl X) (xG X) hX hM ⟨hS.2.2.1, hS.2.1, hS.1, trivial⟩ hq)) (Nat.le_of_ble_eq_true rfl) (Nat.le_of_ble_eq_true rfl) rfl rfl rfl (fun v3 M2 => ?_)
  refine i_pop C dJ0_checkIndex_df160_8 rfl ?_
  exact i_vret C hq dJ0_checkIndex_df160_9
set_option maxRecDepth 100000 in
set_option maxHeartbeats 4000000 in
theorem c_J1_charAt_3b067 (l : Launch) (G : Gx) {K : Kx} (hK : K = kP) {w : Nat} {x1 : Int} (hw : w < 11) {M : Mem} {res : Int × Mem} (hM : OkM M) (ha : okS [aR (9200 + w), aI x1]) (hF : j_charAt_3b067 w x1 M = some res) : Ct l G K yJ1_charAt_3b067 (wsM yJ1_charAt_3b067 cJ1_charAt_3b067 2 (some .char)) rmJ1_charAt_3b067 [aR (9200 + w), aI x1] M (some (aI res.1)) res.2 := by
  refine ct_of RJ1 (by decide +kernel) rfl (hK ▸ kP_ok) hM ha (Nat.le_of_ble_eq_true rfl) hF ?_
  intro X C hl hG hX0 hN hR hq
  have hX : xK X = kP := hX0.trans hK
  show Im X 0 0 0 [(0, aR (9200 + w)), (1, aI x1)] [] M res (j_charAt_3b067 w x1 M)
  unfold j_charAt_3b067
  have hRm : ∀ {rm : Room} {ny : Nat}, RmOk rmJ1_charAt_3b067 rm ny → RmOk (xR X) rm ny := fun h => by rw [hR]; exact h
  refine i_iload_n C dJ1_charAt_3b067_0 rfl (q := 1) rfl ?_
  refine i_aload_n C dJ1_charAt_3b067_1 rfl (q := 0) rfl ?_
  refine i_lenS C hw dJ1_charAt_3b067_2 ?_
  refine i_cV (kc' := 0) (ks' := 0) 0 0 2 (fun q hq hM hS => crS C (as := [aI x1, aI ((sLen.getD w 0 : Nat) : Int)]) dJ1_charAt_3b067_3.1 ml_J1_9 cal_J0_checkIndex_df160 st_J0_checkIndex_df160 (hRm ⟨Nat.le_of_ble_eq_true rfl, Nat.le_of_ble_eq_true rfl⟩) rfl (Nat.le_of_ble_eq_true rfl) (c_J0_checkIndex_df160 (xl X) (xG X) hX hM ⟨hS.2.1, hS.1, trivial⟩ hq)) (Nat.le_of_ble_eq_true rfl) (Nat.le_of_ble_eq_true rfl) rfl rfl rfl (fun M1 => ?_)
  refine i_aload_n C dJ1_charAt_3b067_6 rfl (q := 0) rfl ?_
  refine i_iload_n C dJ1_charAt_3b067_7 rfl (q := 1) rfl ?_
  refine i_bald C hw dJ1_charAt_3b067_8 (fun v2 => ?_)
  refine i_sipush C dJ1_charAt_3b067_9 kS_255 ?_
  refine i_iand C dJ1_charAt_3b067_12 ?_
  refine i_i2c C dJ1_charAt_3b067_13 ?_
  exact i_cretQ C hq dJ1_charAt_3b067_14
set_option maxRecDepth 100000 in
set_option maxHeartbeats 4000000 in
theorem c_J0_charAt_5068e (l : Launch) (G : Gx) {K : Kx} (hK : K = kP) {w : Nat} {x1 : Int} (hw : w < 11) {M : Mem} {res : Int × Mem} (hM : OkM M) (ha : okS [aR (9000 + w), aI x1]) (hF : j_charAt_5068e w x1 M = some res) : Ct l G K yJ0_charAt_5068e (wsM yJ0_charAt_5068e cJ0_charAt_5068e 2 (some .char)) rmJ0_charAt_5068e [aR (9000 + w), aI x1] M (some (aI res.1)) res.2 := by
  refine ct_of RJ0 (by decide +kernel) rfl (hK ▸ kP_ok) hM ha (Nat.le_of_ble_eq_true rfl) hF ?_
  intro X C hl hG hX0 hN hR hq
  have hX : xK X = kP := hX0.trans hK
  show Im X 0 0 0 [(0, aR (9000 + w)), (1, aI x1)] [] M res (j_charAt_5068e w x1 M)
  unfold j_charAt_5068e
  have hRm : ∀ {rm : Room} {ny : Nat}, RmOk rmJ0_charAt_5068e rm ny → RmOk (xR X) rm ny := fun h => by rw [hR]; exact h
  refine i_aload_n C dJ0_charAt_5068e_0 rfl (q := 0) rfl ?_
  refine i_cI (kc' := 0) (ks' := 0) 0 0 1 (fun q hq hM hS => crVS C (as := []) dJ0_charAt_5068e_1.1 hw ml_J0_492 cal_J0_isLatin1_aae02 cv_J0_isLatin1_aae02 (hRm ⟨Nat.le_of_ble_eq_true rfl, Nat.le_of_ble_eq_true rfl⟩) rfl (Nat.le_of_ble_eq_true rfl) (c_J0_isLatin1_aae02 (xl X) (xG X) hX hw hM ⟨hS.1, trivial⟩ hq)) (Nat.le_of_ble_eq_true rfl) (Nat.le_of_ble_eq_true rfl) rfl rfl rfl (fun v2 M1 => ?_)
  refine i_if_eq (tgt := 16) C dJ0_charAt_5068e_4 (by decide) ?_ ?_
  · exact i_none
  · refine i_aload_n C dJ0_charAt_5068e_7 rfl (q := 0) rfl ?_
    refine i_strV C hw dJ0_charAt_5068e_8 fl_J0_9 ?_
    refine i_iload_n C dJ0_charAt_5068e_11 rfl (q := 1) rfl ?_
    refine i_cI (kc' := 0) (ks' := 0) 0 0 2 (fun q hq hM hS => crS C (as := [aR (9200 + w), aI x1]) dJ0_charAt_5068e_12.1 ml_J0_495 cal_J1_charAt_3b067 st_J1_charAt_3b067 (hRm ⟨Nat.le_of_ble_eq_true rfl, Nat.le_of_ble_eq_true rfl⟩) rfl (Nat.le_of_ble_eq_true rfl) (c_J1_charAt_3b067 (xl X) (xG X) hX hw hM ⟨hS.2.1, hS.1, trivial⟩ hq)) (Nat.le_of_ble_eq_true rfl) (Nat.le_of_ble_eq_true rfl) rfl rfl rfl (fun v4 M3 => ?_)
    exact i_cretQ C hq dJ0_charAt_5068e_15
set_option maxRecDepth 100000 in
set_option maxHeartbeats 4000000 in
theorem c_J1_canEncode_9a6ad (l : Launch) (G : Gx) {K : Kx} (hK : K = kP) {x0 : Int} {M : Mem} {res : Int × Mem} (hM : OkM M) (ha : okS [aI x0]) (hF : j_canEncode_9a6ad x0 M = some res) : Ct l G K yJ1_canEncode_9a6ad (wsM yJ1_canEncode_9a6ad cJ1_canEncode_9a6ad 1 (some .boolean)) rmJ1_canEncode_9a6ad [aI x0] M (some (aI res.1)) res.2 := by
  refine ct_of RJ1 (by decide +kernel) rfl (hK ▸ kP_ok) hM ha (Nat.le_of_ble_eq_true rfl) hF ?_
  intro X C hl hG hX0 hN hR hq
  have hX : xK X = kP := hX0.trans hK
  show Im X 0 0 0 [(0, aI x0)] [] M res (j_canEncode_9a6ad x0 M)
  unfold j_canEncode_9a6ad
  refine i_iload_n C dJ1_canEncode_9a6ad_0 rfl (q := 0) rfl ?_
  refine i_if_lt (tgt := 15) C dJ1_canEncode_9a6ad_1 (by decide) ?_ ?_
  · refine i_iconst C dJ1_canEncode_9a6ad_15 kI_0 ?_
    exact i_zret C hq dJ1_canEncode_9a6ad_16 (Or.inl rfl)
  · refine i_iload_n C dJ1_canEncode_9a6ad_4 rfl (q := 0) rfl ?_
    refine i_sipush C dJ1_canEncode_9a6ad_5 kS_255 ?_
    refine i_icmp_gt (tgt := 15) C dJ1_canEncode_9a6ad_8 (by decide) ?_ ?_
    · refine i_iconst C dJ1_canEncode_9a6ad_15 kI_0 ?_
      exact i_zret C hq dJ1_canEncode_9a6ad_16 (Or.inl rfl)
    · refine i_iconst C dJ1_canEncode_9a6ad_11 kI_1 ?_
      refine i_goto (tgt := 16) C dJ1_canEncode_9a6ad_12 (by decide) ?_
      exact i_zret C hq dJ1_canEncode_9a6ad_16 (Or.inr rfl)
set_option maxRecDepth 100000 in
set_option maxHeartbeats 4000000 in
theorem w_J1_indexOfChar_4cfef_7 {X : Xc} (C : Cx X RJ1 cJ1_indexOfChar_4cfef (some .int)) (hX : xK X = kP) (hN : xn X = 6) (hR : xR X = rmJ1_indexOfChar_4cfef) {w : Nat} (hw : w < 11) {res : Int × Mem} (hq : Rq X (some (aI res.1)) res.2) (y3 : Int) (y4 : Int) : ∀ (n : Nat) (u5 : Int) (M : Mem), Im X 0 0 7 [(0, aR (9200 + w)), (3, aI y3), (4, aI y4), (5, aI u5)] [] M res (lpJ1_indexOfChar_4cfef_7 w y3 y4 n u5 M) := by
  have hl4 : 4 < xn X := by rw [hN]; decide
  have hl5 : 5 < xn X := by rw [hN]; decide
  intro n
  induction n with
  | zero => intro _ _; exact i_none
  | succ n ih =>
    intro u5 M
    unfold lpJ1_indexOfChar_4cfef_7
    refine i_iload C dJ1_indexOfChar_4cfef_7 (q := 3) rfl ?_
    refine i_iload_n C dJ1_indexOfChar_4cfef_9 rfl (q := 1) rfl ?_
    refine i_icmp_ge (tgt := 31) C dJ1_indexOfChar_4cfef_10 (by decide) ?_ ?_
    · refine i_iconst C dJ1_indexOfChar_4cfef_31 kI_m1 ?_
      exact i_iret C hq dJ1_indexOfChar_4cfef_32
    · refine i_aload_n C dJ1_indexOfChar_4cfef_13 rfl (q := 0) rfl ?_
      refine i_iload C dJ1_indexOfChar_4cfef_14 (q := 3) rfl ?_
      refine i_bald C hw dJ1_indexOfChar_4cfef_16 (fun v2 => ?_)
      refine i_iload C dJ1_indexOfChar_4cfef_17 (q := 2) rfl ?_
      refine i_icmp_ne (tgt := 25) C dJ1_indexOfChar_4cfef_19 (by decide) ?_ ?_
      · refine i_iincN (L' := fun v3 => [(0, aR (9200 + w)), (3, aI y3), (4, aI y4), (5, aI v3)]) C dJ1_indexOfChar_4cfef_25 (q := 3) rfl hl5 (fun _ => rfl) (fun v3 => ?_)
        refine i_goto (tgt := 7) C dJ1_indexOfChar_4cfef_28 (by decide) ?_
        exact (ih v3 M)
      · refine i_iload C dJ1_indexOfChar_4cfef_22 (q := 3) rfl ?_
        exact i_iret C hq dJ1_indexOfChar_4cfef_24
set_option maxRecDepth 100000 in
set_option maxHeartbeats 4000000 in
theorem c_J1_indexOfChar_4cfef (l : Launch) (G : Gx) {K : Kx} (hK : K = kP) {w : Nat} {x1 : Int} {x2 : Int} {x3 : Int} (hw : w < 11) {M : Mem} {res : Int × Mem} (hM : OkM M) (ha : okS [aR (9200 + w), aI x1, aI x2, aI x3]) (hF : j_indexOfChar_4cfef w x1 x2 x3 M = some res) : Ct l G K yJ1_indexOfChar_4cfef (wsM yJ1_indexOfChar_4cfef cJ1_indexOfChar_4cfef 6 (some .int)) rmJ1_indexOfChar_4cfef [aR (9200 + w), aI x1, aI x2, aI x3] M (some (aI res.1)) res.2 := by
  refine ct_of RJ1 (by decide +kernel) rfl (hK ▸ kP_ok) hM ha (Nat.le_of_ble_eq_true rfl) hF ?_
  intro X C hl hG hX0 hN hR hq
  have hX : xK X = kP := hX0.trans hK
  show Im X 0 0 0 [(0, aR (9200 + w)), (1, aI x1), (2, aI x2), (3, aI x3)] [] M res (j_indexOfChar_4cfef w x1 x2 x3 M)
  unfold j_indexOfChar_4cfef
  have hl4 : 4 < xn X := by rw [hN]; decide
  have hl5 : 5 < xn X := by rw [hN]; decide
  refine i_iload_n C dJ1_indexOfChar_4cfef_0 rfl (q := 1) rfl ?_
  refine i_i2b C dJ1_indexOfChar_4cfef_1 ?_
  refine i_nm (fun v1 => ?_)
  refine i_istore C dJ1_indexOfChar_4cfef_2 hl4 (L' := [(0, aR (9200 + w)), (1, aI x1), (2, aI x2), (3, aI x3), (4, aI v1)]) rfl ?_
  refine i_iload_n C dJ1_indexOfChar_4cfef_4 rfl (q := 2) rfl ?_
  refine i_istore C dJ1_indexOfChar_4cfef_5 hl5 (L' := [(0, aR (9200 + w)), (1, aI x1), (2, aI x2), (3, aI x3), (4, aI v1), (5, aI x2)]) rfl ?_
  exact i_sub [0, 3, 4, 5] rfl (w_J1_indexOfChar_4cfef_7 C hX hN hR hw hq x3 v1 FU x2 M)
set_option maxRecDepth 100000 in
set_option maxHeartbeats 4000000 in
theorem c_J1_indexOf_4cfef (l : Launch) (G : Gx) {K : Kx} (hK : K = kP) {w : Nat} {x1 : Int} {x2 : Int} {x3 : Int} (hw : w < 11) {M : Mem} {res : Int × Mem} (hM : OkM M) (ha : okS [aR (9200 + w), aI x1, aI x2, aI x3]) (hF : j_indexOf_4cfef w x1 x2 x3 M = some res) : Ct l G K yJ1_indexOf_4cfef (wsM yJ1_indexOf_4cfef cJ1_indexOf_4cfef 4 (some .int)) rmJ1_indexOf_4cfef [aR (9200 + w), aI x1, aI x2, aI x3] M (some (aI res.1)) res.2 := by
  refine ct_of RJ1 (by decide +kernel) rfl (hK ▸ kP_ok) hM ha (Nat.le_of_ble_eq_true rfl) hF ?_
  intro X C hl hG hX0 hN hR hq
  have hX : xK X = kP := hX0.trans hK
  show Im X 0 0 0 [(0, aR (9200 + w)), (1, aI x1), (2, aI x2), (3, aI x3)] [] M res (j_indexOf_4cfef w x1 x2 x3 M)
  unfold j_indexOf_4cfef
  have hl2 : 2 < xn X := by rw [hN]; decide
  have hl3 : 3 < xn X := by rw [hN]; decide
  have hRj : 1 ≤ (xR X).frames ∧ 60 ≤ (xR X).locals := by rw [hR]; exact ⟨Nat.le_of_ble_eq_true rfl, Nat.le_of_ble_eq_true rfl⟩
  have hRm : ∀ {rm : Room} {ny : Nat}, RmOk rmJ1_indexOf_4cfef rm ny → RmOk (xR X) rm ny := fun h => by rw [hR]; exact h
  refine i_iload_n C dJ1_indexOf_4cfef_0 rfl (q := 1) rfl ?_
  refine i_cI (kc' := 0) (ks' := 0) 0 0 1 (fun q hq hM hS => crS C (as := [aI x1]) dJ1_indexOf_4cfef_1.1 ml_J1_88 cal_J1_canEncode_9a6ad st_J1_canEncode_9a6ad (hRm ⟨Nat.le_of_ble_eq_true rfl, Nat.le_of_ble_eq_true rfl⟩) rfl (Nat.le_of_ble_eq_true rfl) (c_J1_canEncode_9a6ad (xl X) (xG X) hX hM ⟨hS.1, trivial⟩ hq)) (Nat.le_of_ble_eq_true rfl) (Nat.le_of_ble_eq_true rfl) rfl rfl rfl (fun v2 M1 => ?_)
  refine i_if_ne (tgt := 9) C dJ1_indexOf_4cfef_4 (by decide) ?_ ?_
  · refine i_iload_n C dJ1_indexOf_4cfef_9 rfl (q := 2) rfl ?_
    refine i_iconst C dJ1_indexOf_4cfef_10 kI_0 ?_
    refine i_mmax C hRj ml_J1_92 dJ1_indexOf_4cfef_11 (Nat.le_of_ble_eq_true rfl) ?_
    refine i_nm (fun v3 => ?_)
    refine i_istore_n C dJ1_indexOf_4cfef_14 rfl hl2 (L' := [(0, aR (9200 + w)), (1, aI x1), (2, aI v3), (3, aI x3)]) rfl ?_
    refine i_iload_n C dJ1_indexOf_4cfef_15 rfl (q := 3) rfl ?_
    refine i_aload_n C dJ1_indexOf_4cfef_16 rfl (q := 0) rfl ?_
    refine i_lenS C hw dJ1_indexOf_4cfef_17 ?_
    refine i_mmin C hRj ml_J1_38 dJ1_indexOf_4cfef_18 (Nat.le_of_ble_eq_true rfl) ?_
    refine i_nm (fun v4 => ?_)
    refine i_istore_n C dJ1_indexOf_4cfef_21 rfl hl3 (L' := [(0, aR (9200 + w)), (1, aI x1), (2, aI v3), (3, aI v4)]) rfl ?_
    refine i_iload_n C dJ1_indexOf_4cfef_22 rfl (q := 2) rfl ?_
    refine i_iload_n C dJ1_indexOf_4cfef_23 rfl (q := 3) rfl ?_
    refine i_icmp_lt (tgt := 29) C dJ1_indexOf_4cfef_24 (by decide) ?_ ?_
    · refine i_aload_n C dJ1_indexOf_4cfef_29 rfl (q := 0) rfl ?_
      refine i_iload_n C dJ1_indexOf_4cfef_30 rfl (q := 1) rfl ?_
      refine i_iload_n C dJ1_indexOf_4cfef_31 rfl (q := 2) rfl ?_
      refine i_iload_n C dJ1_indexOf_4cfef_32 rfl (q := 3) rfl ?_
      refine i_cI (kc' := 0) (ks' := 0) 0 0 4 (fun q hq hM hS => crS C (as := [aR (9200 + w), aI x1, aI v3, aI v4]) dJ1_indexOf_4cfef_33.1 ml_J1_95 cal_J1_indexOfChar_4cfef st_J1_indexOfChar_4cfef (hRm ⟨Nat.le_of_ble_eq_true rfl, Nat.le_of_ble_eq_true rfl⟩) rfl (Nat.le_of_ble_eq_true rfl) (c_J1_indexOfChar_4cfef (xl X) (xG X) hX hw hM ⟨hS.2.2.2.1, hS.2.2.1, hS.2.1, hS.1, trivial⟩ hq)) (Nat.le_of_ble_eq_true rfl) (Nat.le_of_ble_eq_true rfl) rfl rfl rfl (fun v6 M5 => ?_)
      exact i_iret C hq dJ1_indexOf_4cfef_36
    · refine i_iconst C dJ1_indexOf_4cfef_27 kI_m1 ?_
      exact i_iret C hq dJ1_indexOf_4cfef_28
  · refine i_iconst C dJ1_indexOf_4cfef_7 kI_m1 ?_
    exact i_iret C hq dJ1_indexOf_4cfef_8
set_option maxRecDepth 100000 in
set_option maxHeartbeats 4000000 in
theorem c_J0_indexOf_7cf53 (l : Launch) (G : Gx) {K : Kx} (hK : K = kP) {w : Nat} {x1 : Int} {x2 : Int} (hw : w < 11) {M : Mem} {res : Int × Mem} (hM : OkM M) (ha : okS [aR (9000 + w), aI x1, aI x2]) (hF : j_indexOf_7cf53 w x1 x2 M = some res) : Ct l G K yJ0_indexOf_7cf53 (wsM yJ0_indexOf_7cf53 cJ0_indexOf_7cf53 3 (some .int)) rmJ0_indexOf_7cf53 [aR (9000 + w), aI x1, aI x2] M (some (aI res.1)) res.2 := by
  refine ct_of RJ0 (by decide +kernel) rfl (hK ▸ kP_ok) hM ha (Nat.le_of_ble_eq_true rfl) hF ?_
  intro X C hl hG hX0 hN hR hq
  have hX : xK X = kP := hX0.trans hK
  show Im X 0 0 0 [(0, aR (9000 + w)), (1, aI x1), (2, aI x2)] [] M res (j_indexOf_7cf53 w x1 x2 M)
  unfold j_indexOf_7cf53
  have hRm : ∀ {rm : Room} {ny : Nat}, RmOk rmJ0_indexOf_7cf53 rm ny → RmOk (xR X) rm ny := fun h => by rw [hR]; exact h
  refine i_aload_n C dJ0_indexOf_7cf53_0 rfl (q := 0) rfl ?_
  refine i_cI (kc' := 0) (ks' := 0) 0 0 1 (fun q hq hM hS => crVS C (as := []) dJ0_indexOf_7cf53_1.1 hw ml_J0_492 cal_J0_isLatin1_aae02 cv_J0_isLatin1_aae02 (hRm ⟨Nat.le_of_ble_eq_true rfl, Nat.le_of_ble_eq_true rfl⟩) rfl (Nat.le_of_ble_eq_true rfl) (c_J0_isLatin1_aae02 (xl X) (xG X) hX hw hM ⟨hS.1, trivial⟩ hq)) (Nat.le_of_ble_eq_true rfl) (Nat.le_of_ble_eq_true rfl) rfl rfl rfl (fun v2 M1 => ?_)
  refine i_if_eq (tgt := 23) C dJ0_indexOf_7cf53_4 (by decide) ?_ ?_
  · exact i_none
  · refine i_aload_n C dJ0_indexOf_7cf53_7 rfl (q := 0) rfl ?_
    refine i_strV C hw dJ0_indexOf_7cf53_8 fl_J0_9 ?_
    refine i_iload_n C dJ0_indexOf_7cf53_11 rfl (q := 1) rfl ?_
    refine i_iload_n C dJ0_indexOf_7cf53_12 rfl (q := 2) rfl ?_
    refine i_aload_n C dJ0_indexOf_7cf53_13 rfl (q := 0) rfl ?_
    refine i_cI (kc' := 0) (ks' := 0) 0 0 1 (fun q hq hM hS => crVS C (as := []) dJ0_indexOf_7cf53_14.1 hw ml_J0_505 cal_J0_length_8abf5 cv_J0_length_8abf5 (hRm ⟨Nat.le_of_ble_eq_true rfl, Nat.le_of_ble_eq_true rfl⟩) rfl (Nat.le_of_ble_eq_true rfl) (c_J0_length_8abf5 (xl X) (xG X) hX hw hM ⟨hS.1, trivial⟩ hq)) (Nat.le_of_ble_eq_true rfl) (Nat.le_of_ble_eq_true rfl) rfl rfl rfl (fun v4 M3 => ?_)
    refine i_cI (kc' := 0) (ks' := 0) 0 0 4 (fun q hq hM hS => crS C (as := [aR (9200 + w), aI x1, aI x2, aI v4]) dJ0_indexOf_7cf53_17.1 ml_J0_637 cal_J1_indexOf_4cfef st_J1_indexOf_4cfef (hRm ⟨Nat.le_of_ble_eq_true rfl, Nat.le_of_ble_eq_true rfl⟩) rfl (Nat.le_of_ble_eq_true rfl) (c_J1_indexOf_4cfef (xl X) (xG X) hX hw hM ⟨hS.2.2.2.1, hS.2.2.1, hS.2.1, hS.1, trivial⟩ hq)) (Nat.le_of_ble_eq_true rfl) (Nat.le_of_ble_eq_true rfl) rfl rfl rfl (fun v6 M5 => ?_)
    refine i_goto (tgt := 36) C dJ0_indexOf_7cf53_20 (by decide) ?_
    exact i_iret C hq dJ0_indexOf_7cf53_36
set_option maxRecDepth 100000 in
set_option maxHeartbeats 4000000 in
theorem c_J0_indexOf_0f7a4 (l : Launch) (G : Gx) {K : Kx} (hK : K = kP) {w : Nat} {x1 : Int} (hw : w < 11) {M : Mem} {res : Int × Mem} (hM : OkM M) (ha : okS [aR (9000 + w), aI x1]) (hF : j_indexOf_0f7a4 w x1 M = some res) : Ct l G K yJ0_indexOf_0f7a4 (wsM yJ0_indexOf_0f7a4 cJ0_indexOf_0f7a4 2 (some .int)) rmJ0_indexOf_0f7a4 [aR (9000 + w), aI x1] M (some (aI res.1)) res.2 := by
  refine ct_of RJ0 (by decide +kernel) rfl (hK ▸ kP_ok) hM ha (Nat.le_of_ble_eq_true rfl) hF ?_
  intro X C hl hG hX0 hN hR hq
  have hX : xK X = kP := hX0.trans hK
  show Im X 0 0 0 [(0, aR (9000 + w)), (1, aI x1)] [] M res (j_indexOf_0f7a4 w x1 M)
  unfold j_indexOf_0f7a4
  have hRm : ∀ {rm : Room} {ny : Nat}, RmOk rmJ0_indexOf_0f7a4 rm ny → RmOk (xR X) rm ny := fun h => by rw [hR]; exact h
  refine i_aload_n C dJ0_indexOf_0f7a4_0 rfl (q := 0) rfl ?_
  refine i_iload_n C dJ0_indexOf_0f7a4_1 rfl (q := 1) rfl ?_
  refine i_iconst C dJ0_indexOf_0f7a4_2 kI_0 ?_
  refine i_cI (kc' := 0) (ks' := 0) 0 0 3 (fun q hq hM hS => crVS C (as := [aI x1, aI 0]) dJ0_indexOf_0f7a4_3.1 hw ml_J0_633 cal_J0_indexOf_7cf53 cv_J0_indexOf_7cf53 (hRm ⟨Nat.le_of_ble_eq_true rfl, Nat.le_of_ble_eq_true rfl⟩) rfl (Nat.le_of_ble_eq_true rfl) (c_J0_indexOf_7cf53 (xl X) (xG X) hX hw hM ⟨hS.2.2.1, hS.2.1, hS.1, trivial⟩ hq)) (Nat.le_of_ble_eq_true rfl) (Nat.le_of_ble_eq_true rfl) rfl rfl rfl (fun v2 M1 => ?_)
  exact i_iret C hq dJ0_indexOf_0f7a4_6
set_option maxRecDepth 100000 in
set_option maxHeartbeats 4000000 in
theorem c_X11_carryOver (l : Launch) (G : Gx) {K : Kx} (hK : K = kP) {f0 : Nat} {n0 : Nat} {f1 : Nat} {n1 : Nat} (hf0 : f0 ∈ K.1 ∧ K.2.2 f0 = .inl n0) (hf1 : f1 ∈ K.1 ∧ K.2.2 f1 = .inl n1) {M : Mem} {res : Mem} (hM : OkM M) (ha : okS [aR f0, aR f1]) (hF : pTop_carryOver f0 n0 f1 n1 M = some res) : Ct l G K yX11_carryOver (wsM yX11_carryOver cX11_carryOver 2 none) rmX11_carryOver [aR f0, aR f1] M none res := by
  refine ct_of RX11 (by decide +kernel) rfl (hK ▸ kP_ok) hM ha (Nat.le_of_ble_eq_true rfl) hF ?_
  intro X C hl hG hX0 hN hR hq
  have hX : xK X = kP := hX0.trans hK
  have sf0 : Sh X f0 (.inl n0) := by unfold Sh; rw [hX0]; exact hf0
  have sf1 : Sh X f1 (.inl n1) := by unfold Sh; rw [hX0]; exact hf1
  show Im X 0 0 0 [(0, aR f0), (1, aR f1)] [] M res (pTop_carryOver f0 n0 f1 n1 M)
  unfold pTop_carryOver
  have hRj : 1 ≤ (xR X).frames ∧ 60 ≤ (xR X).locals := by rw [hR]; exact ⟨Nat.le_of_ble_eq_true rfl, Nat.le_of_ble_eq_true rfl⟩
  refine i_aload_n C dX11_carryOver_0 rfl (q := 0) rfl ?_
  refine i_iconst C dX11_carryOver_1 kI_0 ?_
  refine i_aload_n C dX11_carryOver_2 rfl (q := 1) rfl ?_
  refine i_iconst C dX11_carryOver_3 kI_0 ?_
  refine i_aload_n C dX11_carryOver_4 rfl (q := 0) rfl ?_
  refine i_alenG C hX dX11_carryOver_5 sf0 ?_
  refine i_aload_n C dX11_carryOver_6 rfl (q := 1) rfl ?_
  refine i_alenG C hX dX11_carryOver_7 sf1 ?_
  refine i_mmin C hRj ml_X11_58 dX11_carryOver_8 (Nat.le_of_ble_eq_true rfl) ?_
  refine i_copy C hRj ml_X11_64 dX11_carryOver_11 (Nat.le_of_ble_eq_true rfl) sf0 sf1 (fun M1 => ?_)
  exact i_vret C hq dX11_carryOver_14
set_option maxRecDepth 100000 in
set_option maxHeartbeats 4000000 in
theorem c_X6_become (l : Launch) (G : Gx) {K : Kx} (hK : K = kP) {b : Nat} {c : Nat} (hb : isC b) (hc : isC c) {M : Mem} {res : Mem} (hM : OkM M) (ha : okS [aR (b + 6), aR (c + 6)]) (hF : pPersons_become b c M = some res) : Ct l G K yX6_become (wsM yX6_become cX6_become 2 none) rmX6_become [aR (b + 6), aR (c + 6)] M none res := by
  refine ct_of RX6 (by decide +kernel) rfl (hK ▸ kP_ok) hM ha (Nat.le_of_ble_eq_true rfl) hF ?_
  intro X C hl hG hX0 hN hR hq
  have hX : xK X = kP := hX0.trans hK
  show Im X 0 0 0 [(0, aR (b + 6)), (1, aR (c + 6))] [] M res (pPersons_become b c M)
  unfold pPersons_become
  have hRm : ∀ {rm : Room} {ny : Nat}, RmOk rmX6_become rm ny → RmOk (xR X) rm ny := fun h => by rw [hR]; exact h
  refine i_aload_n C dX6_become_0 rfl (q := 0) rfl ?_
  refine i_aload_n C dX6_become_1 rfl (q := 1) rfl ?_
  refine i_getI C (k := 0) kX6 dX6_become_2 (shP_6 hX hc) rfl (by decide) fl_X6_9 rfl ?_
  refine i_putI C (k := 0) kX6 dX6_become_5 (shP_6 hX hb) rfl (by decide) fl_X6_9 rfl rfl rfl rfl (fun M1 => ?_)
  refine i_aload_n C dX6_become_8 rfl (q := 1) rfl ?_
  refine i_getR C (k := 1) kX6 dX6_become_9 (shP_6 hX hc) rfl (by decide) fl_X6_15 ?_
  refine i_aload_n C dX6_become_12 rfl (q := 0) rfl ?_
  refine i_getR C (k := 1) kX6 dX6_become_13 (shP_6 hX hb) rfl (by decide) fl_X6_15 ?_
  refine i_cV (kc' := 0) (ks' := 0) 0 0 2 (fun q hq hM hS => crN C (as := [aR (c + 7), aR (b + 7)]) dX6_become_16.1 (by decide) cal_X11_carryOver st_X11_carryOver (hRm ⟨Nat.le_of_ble_eq_true rfl, Nat.le_of_ble_eq_true rfl⟩) rfl (Nat.le_of_ble_eq_true rfl) (c_X11_carryOver (xl X) (xG X) hX (shP_7 hX hc) (shP_7 hX hb) hM ⟨hS.2.1, hS.1, trivial⟩ hq)) (Nat.le_of_ble_eq_true rfl) (Nat.le_of_ble_eq_true rfl) rfl rfl rfl (fun M2 => ?_)
  refine i_aload_n C dX6_become_19 rfl (q := 1) rfl ?_
  refine i_getR C (k := 2) kX6 dX6_become_20 (shP_6 hX hc) rfl (by decide) fl_X6_19 ?_
  refine i_aload_n C dX6_become_23 rfl (q := 0) rfl ?_
  refine i_getR C (k := 2) kX6 dX6_become_24 (shP_6 hX hb) rfl (by decide) fl_X6_19 ?_
  refine i_cV (kc' := 0) (ks' := 0) 0 0 2 (fun q hq hM hS => crN C (as := [aR (c + 8), aR (b + 8)]) dX6_become_27.1 (by decide) cal_X11_carryOver st_X11_carryOver (hRm ⟨Nat.le_of_ble_eq_true rfl, Nat.le_of_ble_eq_true rfl⟩) rfl (Nat.le_of_ble_eq_true rfl) (c_X11_carryOver (xl X) (xG X) hX (shP_8 hX hc) (shP_8 hX hb) hM ⟨hS.2.1, hS.1, trivial⟩ hq)) (Nat.le_of_ble_eq_true rfl) (Nat.le_of_ble_eq_true rfl) rfl rfl rfl (fun M3 => ?_)
  refine i_aload_n C dX6_become_30 rfl (q := 1) rfl ?_
  refine i_getR C (k := 3) kX6 dX6_become_31 (shP_6 hX hc) rfl (by decide) fl_X6_22 ?_
  refine i_aload_n C dX6_become_34 rfl (q := 0) rfl ?_
  refine i_getR C (k := 3) kX6 dX6_become_35 (shP_6 hX hb) rfl (by decide) fl_X6_22 ?_
  refine i_cV (kc' := 0) (ks' := 0) 0 0 2 (fun q hq hM hS => crN C (as := [aR (c + 9), aR (b + 9)]) dX6_become_38.1 (by decide) cal_X11_carryOver st_X11_carryOver (hRm ⟨Nat.le_of_ble_eq_true rfl, Nat.le_of_ble_eq_true rfl⟩) rfl (Nat.le_of_ble_eq_true rfl) (c_X11_carryOver (xl X) (xG X) hX (shP_9 hX hc) (shP_9 hX hb) hM ⟨hS.2.1, hS.1, trivial⟩ hq)) (Nat.le_of_ble_eq_true rfl) (Nat.le_of_ble_eq_true rfl) rfl rfl rfl (fun M4 => ?_)
  refine i_aload_n C dX6_become_41 rfl (q := 1) rfl ?_
  refine i_getR C (k := 4) kX6 dX6_become_42 (shP_6 hX hc) rfl (by decide) fl_X6_25 ?_
  refine i_aload_n C dX6_become_45 rfl (q := 0) rfl ?_
  refine i_getR C (k := 4) kX6 dX6_become_46 (shP_6 hX hb) rfl (by decide) fl_X6_25 ?_
  refine i_cV (kc' := 0) (ks' := 0) 0 0 2 (fun q hq hM hS => crN C (as := [aR (c + 10), aR (b + 10)]) dX6_become_49.1 (by decide) cal_X11_carryOver st_X11_carryOver (hRm ⟨Nat.le_of_ble_eq_true rfl, Nat.le_of_ble_eq_true rfl⟩) rfl (Nat.le_of_ble_eq_true rfl) (c_X11_carryOver (xl X) (xG X) hX (shP_10 hX hc) (shP_10 hX hb) hM ⟨hS.2.1, hS.1, trivial⟩ hq)) (Nat.le_of_ble_eq_true rfl) (Nat.le_of_ble_eq_true rfl) rfl rfl rfl (fun M5 => ?_)
  refine i_aload_n C dX6_become_52 rfl (q := 1) rfl ?_
  refine i_getR C (k := 5) kX6 dX6_become_53 (shP_6 hX hc) rfl (by decide) fl_X6_28 ?_
  refine i_aload_n C dX6_become_56 rfl (q := 0) rfl ?_
  refine i_getR C (k := 5) kX6 dX6_become_57 (shP_6 hX hb) rfl (by decide) fl_X6_28 ?_
  refine i_cV (kc' := 0) (ks' := 0) 0 0 2 (fun q hq hM hS => crN C (as := [aR (c + 11), aR (b + 11)]) dX6_become_60.1 (by decide) cal_X11_carryOver st_X11_carryOver (hRm ⟨Nat.le_of_ble_eq_true rfl, Nat.le_of_ble_eq_true rfl⟩) rfl (Nat.le_of_ble_eq_true rfl) (c_X11_carryOver (xl X) (xG X) hX (shP_11 hX hc) (shP_11 hX hb) hM ⟨hS.2.1, hS.1, trivial⟩ hq)) (Nat.le_of_ble_eq_true rfl) (Nat.le_of_ble_eq_true rfl) rfl rfl rfl (fun M6 => ?_)
  refine i_aload_n C dX6_become_63 rfl (q := 1) rfl ?_
  refine i_getR C (k := 6) kX6 dX6_become_64 (shP_6 hX hc) rfl (by decide) fl_X6_31 ?_
  refine i_aload_n C dX6_become_67 rfl (q := 0) rfl ?_
  refine i_getR C (k := 6) kX6 dX6_become_68 (shP_6 hX hb) rfl (by decide) fl_X6_31 ?_
  refine i_cV (kc' := 0) (ks' := 0) 0 0 2 (fun q hq hM hS => crN C (as := [aR (c + 12), aR (b + 12)]) dX6_become_71.1 (by decide) cal_X11_carryOver st_X11_carryOver (hRm ⟨Nat.le_of_ble_eq_true rfl, Nat.le_of_ble_eq_true rfl⟩) rfl (Nat.le_of_ble_eq_true rfl) (c_X11_carryOver (xl X) (xG X) hX (shP_12 hX hc) (shP_12 hX hb) hM ⟨hS.2.1, hS.1, trivial⟩ hq)) (Nat.le_of_ble_eq_true rfl) (Nat.le_of_ble_eq_true rfl) rfl rfl rfl (fun M7 => ?_)
  refine i_aload_n C dX6_become_74 rfl (q := 1) rfl ?_
  refine i_getR C (k := 7) kX6 dX6_become_75 (shP_6 hX hc) rfl (by decide) fl_X6_34 ?_
  refine i_aload_n C dX6_become_78 rfl (q := 0) rfl ?_
  refine i_getR C (k := 7) kX6 dX6_become_79 (shP_6 hX hb) rfl (by decide) fl_X6_34 ?_
  refine i_cV (kc' := 0) (ks' := 0) 0 0 2 (fun q hq hM hS => crN C (as := [aR (c + 13), aR (b + 13)]) dX6_become_82.1 (by decide) cal_X11_carryOver st_X11_carryOver (hRm ⟨Nat.le_of_ble_eq_true rfl, Nat.le_of_ble_eq_true rfl⟩) rfl (Nat.le_of_ble_eq_true rfl) (c_X11_carryOver (xl X) (xG X) hX (shP_13 hX hc) (shP_13 hX hb) hM ⟨hS.2.1, hS.1, trivial⟩ hq)) (Nat.le_of_ble_eq_true rfl) (Nat.le_of_ble_eq_true rfl) rfl rfl rfl (fun M8 => ?_)
  refine i_aload_n C dX6_become_85 rfl (q := 0) rfl ?_
  refine i_aload_n C dX6_become_86 rfl (q := 1) rfl ?_
  refine i_getI C (k := 8) kX6 dX6_become_87 (shP_6 hX hc) rfl (by decide) fl_X6_37 rfl ?_
  refine i_putI C (k := 8) kX6 dX6_become_90 (shP_6 hX hb) rfl (by decide) fl_X6_37 rfl rfl rfl rfl (fun M9 => ?_)
  refine i_aload_n C dX6_become_93 rfl (q := 0) rfl ?_
  refine i_aload_n C dX6_become_94 rfl (q := 1) rfl ?_
  refine i_getI C (k := 9) kX6 dX6_become_95 (shP_6 hX hc) rfl (by decide) fl_X6_40 rfl ?_
  refine i_putI C (k := 9) kX6 dX6_become_98 (shP_6 hX hb) rfl (by decide) fl_X6_40 rfl rfl rfl rfl (fun M10 => ?_)
  refine i_aload_n C dX6_become_101 rfl (q := 1) rfl ?_
  refine i_getR C (k := 10) kX6 dX6_become_102 (shP_6 hX hc) rfl (by decide) fl_X6_43 ?_
  refine i_aload_n C dX6_become_105 rfl (q := 0) rfl ?_
  refine i_getR C (k := 10) kX6 dX6_become_106 (shP_6 hX hb) rfl (by decide) fl_X6_43 ?_
  refine i_cV (kc' := 0) (ks' := 0) 0 0 2 (fun q hq hM hS => crN C (as := [aR (c + 14), aR (b + 14)]) dX6_become_109.1 (by decide) cal_X11_carryOver st_X11_carryOver (hRm ⟨Nat.le_of_ble_eq_true rfl, Nat.le_of_ble_eq_true rfl⟩) rfl (Nat.le_of_ble_eq_true rfl) (c_X11_carryOver (xl X) (xG X) hX (shP_14 hX hc) (shP_14 hX hb) hM ⟨hS.2.1, hS.1, trivial⟩ hq)) (Nat.le_of_ble_eq_true rfl) (Nat.le_of_ble_eq_true rfl) rfl rfl rfl (fun M11 => ?_)
  exact i_vret C hq dX6_become_112
set_option maxRecDepth 100000 in
set_option maxHeartbeats 4000000 in
theorem c_X9_become (l : Launch) (G : Gx) {K : Kx} (hK : K = kP) {b : Nat} {c : Nat} (hb : isC b) (hc : isC c) {M : Mem} {res : Mem} (hM : OkM M) (ha : okS [aR (b + 15), aR (c + 15)]) (hF : pTies_become b c M = some res) : Ct l G K yX9_become (wsM yX9_become cX9_become 2 none) rmX9_become [aR (b + 15), aR (c + 15)] M none res := by
  refine ct_of RX9 (by decide +kernel) rfl (hK ▸ kP_ok) hM ha (Nat.le_of_ble_eq_true rfl) hF ?_
  intro X C hl hG hX0 hN hR hq
  have hX : xK X = kP := hX0.trans hK
  show Im X 0 0 0 [(0, aR (b + 15)), (1, aR (c + 15))] [] M res (pTies_become b c M)
  unfold pTies_become
  have hRm : ∀ {rm : Room} {ny : Nat}, RmOk rmX9_become rm ny → RmOk (xR X) rm ny := fun h => by rw [hR]; exact h
  refine i_aload_n C dX9_become_0 rfl (q := 0) rfl ?_
  refine i_aload_n C dX9_become_1 rfl (q := 1) rfl ?_
  refine i_getI C (k := 0) kX9 dX9_become_2 (shP_15 hX hc) rfl (by decide) fl_X9_9 rfl ?_
  refine i_putI C (k := 0) kX9 dX9_become_5 (shP_15 hX hb) rfl (by decide) fl_X9_9 rfl rfl rfl rfl (fun M1 => ?_)
  refine i_aload_n C dX9_become_8 rfl (q := 1) rfl ?_
  refine i_getR C (k := 1) kX9 dX9_become_9 (shP_15 hX hc) rfl (by decide) fl_X9_15 ?_
  refine i_aload_n C dX9_become_12 rfl (q := 0) rfl ?_
  refine i_getR C (k := 1) kX9 dX9_become_13 (shP_15 hX hb) rfl (by decide) fl_X9_15 ?_
  refine i_cV (kc' := 0) (ks' := 0) 0 0 2 (fun q hq hM hS => crN C (as := [aR (c + 16), aR (b + 16)]) dX9_become_16.1 (by decide) cal_X11_carryOver st_X11_carryOver (hRm ⟨Nat.le_of_ble_eq_true rfl, Nat.le_of_ble_eq_true rfl⟩) rfl (Nat.le_of_ble_eq_true rfl) (c_X11_carryOver (xl X) (xG X) hX (shP_16 hX hc) (shP_16 hX hb) hM ⟨hS.2.1, hS.1, trivial⟩ hq)) (Nat.le_of_ble_eq_true rfl) (Nat.le_of_ble_eq_true rfl) rfl rfl rfl (fun M2 => ?_)
  refine i_aload_n C dX9_become_19 rfl (q := 1) rfl ?_
  refine i_getR C (k := 2) kX9 dX9_become_20 (shP_15 hX hc) rfl (by decide) fl_X9_19 ?_
  refine i_aload_n C dX9_become_23 rfl (q := 0) rfl ?_
  refine i_getR C (k := 2) kX9 dX9_become_24 (shP_15 hX hb) rfl (by decide) fl_X9_19 ?_
  refine i_cV (kc' := 0) (ks' := 0) 0 0 2 (fun q hq hM hS => crN C (as := [aR (c + 17), aR (b + 17)]) dX9_become_27.1 (by decide) cal_X11_carryOver st_X11_carryOver (hRm ⟨Nat.le_of_ble_eq_true rfl, Nat.le_of_ble_eq_true rfl⟩) rfl (Nat.le_of_ble_eq_true rfl) (c_X11_carryOver (xl X) (xG X) hX (shP_17 hX hc) (shP_17 hX hb) hM ⟨hS.2.1, hS.1, trivial⟩ hq)) (Nat.le_of_ble_eq_true rfl) (Nat.le_of_ble_eq_true rfl) rfl rfl rfl (fun M3 => ?_)
  refine i_aload_n C dX9_become_30 rfl (q := 1) rfl ?_
  refine i_getR C (k := 3) kX9 dX9_become_31 (shP_15 hX hc) rfl (by decide) fl_X9_22 ?_
  refine i_aload_n C dX9_become_34 rfl (q := 0) rfl ?_
  refine i_getR C (k := 3) kX9 dX9_become_35 (shP_15 hX hb) rfl (by decide) fl_X9_22 ?_
  refine i_cV (kc' := 0) (ks' := 0) 0 0 2 (fun q hq hM hS => crN C (as := [aR (c + 18), aR (b + 18)]) dX9_become_38.1 (by decide) cal_X11_carryOver st_X11_carryOver (hRm ⟨Nat.le_of_ble_eq_true rfl, Nat.le_of_ble_eq_true rfl⟩) rfl (Nat.le_of_ble_eq_true rfl) (c_X11_carryOver (xl X) (xG X) hX (shP_18 hX hc) (shP_18 hX hb) hM ⟨hS.2.1, hS.1, trivial⟩ hq)) (Nat.le_of_ble_eq_true rfl) (Nat.le_of_ble_eq_true rfl) rfl rfl rfl (fun M4 => ?_)
  refine i_aload_n C dX9_become_41 rfl (q := 1) rfl ?_
  refine i_getR C (k := 4) kX9 dX9_become_42 (shP_15 hX hc) rfl (by decide) fl_X9_25 ?_
  refine i_aload_n C dX9_become_45 rfl (q := 0) rfl ?_
  refine i_getR C (k := 4) kX9 dX9_become_46 (shP_15 hX hb) rfl (by decide) fl_X9_25 ?_
  refine i_cV (kc' := 0) (ks' := 0) 0 0 2 (fun q hq hM hS => crN C (as := [aR (c + 19), aR (b + 19)]) dX9_become_49.1 (by decide) cal_X11_carryOver st_X11_carryOver (hRm ⟨Nat.le_of_ble_eq_true rfl, Nat.le_of_ble_eq_true rfl⟩) rfl (Nat.le_of_ble_eq_true rfl) (c_X11_carryOver (xl X) (xG X) hX (shP_19 hX hc) (shP_19 hX hb) hM ⟨hS.2.1, hS.1, trivial⟩ hq)) (Nat.le_of_ble_eq_true rfl) (Nat.le_of_ble_eq_true rfl) rfl rfl rfl (fun M5 => ?_)
  refine i_aload_n C dX9_become_52 rfl (q := 1) rfl ?_
  refine i_getR C (k := 5) kX9 dX9_become_53 (shP_15 hX hc) rfl (by decide) fl_X9_28 ?_
  refine i_aload_n C dX9_become_56 rfl (q := 0) rfl ?_
  refine i_getR C (k := 5) kX9 dX9_become_57 (shP_15 hX hb) rfl (by decide) fl_X9_28 ?_
  refine i_cV (kc' := 0) (ks' := 0) 0 0 2 (fun q hq hM hS => crN C (as := [aR (c + 20), aR (b + 20)]) dX9_become_60.1 (by decide) cal_X11_carryOver st_X11_carryOver (hRm ⟨Nat.le_of_ble_eq_true rfl, Nat.le_of_ble_eq_true rfl⟩) rfl (Nat.le_of_ble_eq_true rfl) (c_X11_carryOver (xl X) (xG X) hX (shP_20 hX hc) (shP_20 hX hb) hM ⟨hS.2.1, hS.1, trivial⟩ hq)) (Nat.le_of_ble_eq_true rfl) (Nat.le_of_ble_eq_true rfl) rfl rfl rfl (fun M6 => ?_)
  refine i_aload_n C dX9_become_63 rfl (q := 1) rfl ?_
  refine i_getR C (k := 6) kX9 dX9_become_64 (shP_15 hX hc) rfl (by decide) fl_X9_31 ?_
  refine i_aload_n C dX9_become_67 rfl (q := 0) rfl ?_
  refine i_getR C (k := 6) kX9 dX9_become_68 (shP_15 hX hb) rfl (by decide) fl_X9_31 ?_
  refine i_cV (kc' := 0) (ks' := 0) 0 0 2 (fun q hq hM hS => crN C (as := [aR (c + 21), aR (b + 21)]) dX9_become_71.1 (by decide) cal_X11_carryOver st_X11_carryOver (hRm ⟨Nat.le_of_ble_eq_true rfl, Nat.le_of_ble_eq_true rfl⟩) rfl (Nat.le_of_ble_eq_true rfl) (c_X11_carryOver (xl X) (xG X) hX (shP_21 hX hc) (shP_21 hX hb) hM ⟨hS.2.1, hS.1, trivial⟩ hq)) (Nat.le_of_ble_eq_true rfl) (Nat.le_of_ble_eq_true rfl) rfl rfl rfl (fun M7 => ?_)
  refine i_aload_n C dX9_become_74 rfl (q := 1) rfl ?_
  refine i_getR C (k := 7) kX9 dX9_become_75 (shP_15 hX hc) rfl (by decide) fl_X9_34 ?_
  refine i_aload_n C dX9_become_78 rfl (q := 0) rfl ?_
  refine i_getR C (k := 7) kX9 dX9_become_79 (shP_15 hX hb) rfl (by decide) fl_X9_34 ?_
  refine i_cV (kc' := 0) (ks' := 0) 0 0 2 (fun q hq hM hS => crN C (as := [aR (c + 22), aR (b + 22)]) dX9_become_82.1 (by decide) cal_X11_carryOver st_X11_carryOver (hRm ⟨Nat.le_of_ble_eq_true rfl, Nat.le_of_ble_eq_true rfl⟩) rfl (Nat.le_of_ble_eq_true rfl) (c_X11_carryOver (xl X) (xG X) hX (shP_22 hX hc) (shP_22 hX hb) hM ⟨hS.2.1, hS.1, trivial⟩ hq)) (Nat.le_of_ble_eq_true rfl) (Nat.le_of_ble_eq_true rfl) rfl rfl rfl (fun M8 => ?_)
  refine i_aload_n C dX9_become_85 rfl (q := 1) rfl ?_
  refine i_getR C (k := 8) kX9 dX9_become_86 (shP_15 hX hc) rfl (by decide) fl_X9_37 ?_
  refine i_aload_n C dX9_become_89 rfl (q := 0) rfl ?_
  refine i_getR C (k := 8) kX9 dX9_become_90 (shP_15 hX hb) rfl (by decide) fl_X9_37 ?_
  refine i_cV (kc' := 0) (ks' := 0) 0 0 2 (fun q hq hM hS => crN C (as := [aR (c + 23), aR (b + 23)]) dX9_become_93.1 (by decide) cal_X11_carryOver st_X11_carryOver (hRm ⟨Nat.le_of_ble_eq_true rfl, Nat.le_of_ble_eq_true rfl⟩) rfl (Nat.le_of_ble_eq_true rfl) (c_X11_carryOver (xl X) (xG X) hX (shP_23 hX hc) (shP_23 hX hb) hM ⟨hS.2.1, hS.1, trivial⟩ hq)) (Nat.le_of_ble_eq_true rfl) (Nat.le_of_ble_eq_true rfl) rfl rfl rfl (fun M9 => ?_)
  refine i_aload_n C dX9_become_96 rfl (q := 1) rfl ?_
  refine i_getR C (k := 9) kX9 dX9_become_97 (shP_15 hX hc) rfl (by decide) fl_X9_40 ?_
  refine i_aload_n C dX9_become_100 rfl (q := 0) rfl ?_
  refine i_getR C (k := 9) kX9 dX9_become_101 (shP_15 hX hb) rfl (by decide) fl_X9_40 ?_
  refine i_cV (kc' := 0) (ks' := 0) 0 0 2 (fun q hq hM hS => crN C (as := [aR (c + 24), aR (b + 24)]) dX9_become_104.1 (by decide) cal_X11_carryOver st_X11_carryOver (hRm ⟨Nat.le_of_ble_eq_true rfl, Nat.le_of_ble_eq_true rfl⟩) rfl (Nat.le_of_ble_eq_true rfl) (c_X11_carryOver (xl X) (xG X) hX (shP_24 hX hc) (shP_24 hX hb) hM ⟨hS.2.1, hS.1, trivial⟩ hq)) (Nat.le_of_ble_eq_true rfl) (Nat.le_of_ble_eq_true rfl) rfl rfl rfl (fun M10 => ?_)
  refine i_aload_n C dX9_become_107 rfl (q := 1) rfl ?_
  refine i_getR C (k := 10) kX9 dX9_become_108 (shP_15 hX hc) rfl (by decide) fl_X9_43 ?_
  refine i_aload_n C dX9_become_111 rfl (q := 0) rfl ?_
  refine i_getR C (k := 10) kX9 dX9_become_112 (shP_15 hX hb) rfl (by decide) fl_X9_43 ?_
  refine i_cV (kc' := 0) (ks' := 0) 0 0 2 (fun q hq hM hS => crN C (as := [aR (c + 25), aR (b + 25)]) dX9_become_115.1 (by decide) cal_X11_carryOver st_X11_carryOver (hRm ⟨Nat.le_of_ble_eq_true rfl, Nat.le_of_ble_eq_true rfl⟩) rfl (Nat.le_of_ble_eq_true rfl) (c_X11_carryOver (xl X) (xG X) hX (shP_25 hX hc) (shP_25 hX hb) hM ⟨hS.2.1, hS.1, trivial⟩ hq)) (Nat.le_of_ble_eq_true rfl) (Nat.le_of_ble_eq_true rfl) rfl rfl rfl (fun M11 => ?_)
  refine i_aload_n C dX9_become_118 rfl (q := 1) rfl ?_
  refine i_getR C (k := 11) kX9 dX9_become_119 (shP_15 hX hc) rfl (by decide) fl_X9_46 ?_
  refine i_aload_n C dX9_become_122 rfl (q := 0) rfl ?_
  refine i_getR C (k := 11) kX9 dX9_become_123 (shP_15 hX hb) rfl (by decide) fl_X9_46 ?_
  refine i_cV (kc' := 0) (ks' := 0) 0 0 2 (fun q hq hM hS => crN C (as := [aR (c + 26), aR (b + 26)]) dX9_become_126.1 (by decide) cal_X11_carryOver st_X11_carryOver (hRm ⟨Nat.le_of_ble_eq_true rfl, Nat.le_of_ble_eq_true rfl⟩) rfl (Nat.le_of_ble_eq_true rfl) (c_X11_carryOver (xl X) (xG X) hX (shP_26 hX hc) (shP_26 hX hb) hM ⟨hS.2.1, hS.1, trivial⟩ hq)) (Nat.le_of_ble_eq_true rfl) (Nat.le_of_ble_eq_true rfl) rfl rfl rfl (fun M12 => ?_)
  refine i_aload_n C dX9_become_129 rfl (q := 1) rfl ?_
  refine i_getR C (k := 12) kX9 dX9_become_130 (shP_15 hX hc) rfl (by decide) fl_X9_49 ?_
  refine i_aload_n C dX9_become_133 rfl (q := 0) rfl ?_
  refine i_getR C (k := 12) kX9 dX9_become_134 (shP_15 hX hb) rfl (by decide) fl_X9_49 ?_
  refine i_cV (kc' := 0) (ks' := 0) 0 0 2 (fun q hq hM hS => crN C (as := [aR (c + 27), aR (b + 27)]) dX9_become_137.1 (by decide) cal_X11_carryOver st_X11_carryOver (hRm ⟨Nat.le_of_ble_eq_true rfl, Nat.le_of_ble_eq_true rfl⟩) rfl (Nat.le_of_ble_eq_true rfl) (c_X11_carryOver (xl X) (xG X) hX (shP_27 hX hc) (shP_27 hX hb) hM ⟨hS.2.1, hS.1, trivial⟩ hq)) (Nat.le_of_ble_eq_true rfl) (Nat.le_of_ble_eq_true rfl) rfl rfl rfl (fun M13 => ?_)
  refine i_aload_n C dX9_become_140 rfl (q := 1) rfl ?_
  refine i_getR C (k := 13) kX9 dX9_become_141 (shP_15 hX hc) rfl (by decide) fl_X9_52 ?_
  refine i_aload_n C dX9_become_144 rfl (q := 0) rfl ?_
  refine i_getR C (k := 13) kX9 dX9_become_145 (shP_15 hX hb) rfl (by decide) fl_X9_52 ?_
  refine i_cV (kc' := 0) (ks' := 0) 0 0 2 (fun q hq hM hS => crN C (as := [aR (c + 28), aR (b + 28)]) dX9_become_148.1 (by decide) cal_X11_carryOver st_X11_carryOver (hRm ⟨Nat.le_of_ble_eq_true rfl, Nat.le_of_ble_eq_true rfl⟩) rfl (Nat.le_of_ble_eq_true rfl) (c_X11_carryOver (xl X) (xG X) hX (shP_28 hX hc) (shP_28 hX hb) hM ⟨hS.2.1, hS.1, trivial⟩ hq)) (Nat.le_of_ble_eq_true rfl) (Nat.le_of_ble_eq_true rfl) rfl rfl rfl (fun M14 => ?_)
  exact i_vret C hq dX9_become_151
set_option maxRecDepth 100000 in
set_option maxHeartbeats 4000000 in
theorem c_X7_become (l : Launch) (G : Gx) {K : Kx} (hK : K = kP) {b : Nat} {c : Nat} (hb : isC b) (hc : isC c) {M : Mem} {res : Mem} (hM : OkM M) (ha : okS [aR (b + 30), aR (c + 30)]) (hF : pPost_become b c M = some res) : Ct l G K yX7_become (wsM yX7_become cX7_become 2 none) rmX7_become [aR (b + 30), aR (c + 30)] M none res := by
  refine ct_of RX7 (by decide +kernel) rfl (hK ▸ kP_ok) hM ha (Nat.le_of_ble_eq_true rfl) hF ?_
  intro X C hl hG hX0 hN hR hq
  have hX : xK X = kP := hX0.trans hK
  show Im X 0 0 0 [(0, aR (b + 30)), (1, aR (c + 30))] [] M res (pPost_become b c M)
  unfold pPost_become
  have hRm : ∀ {rm : Room} {ny : Nat}, RmOk rmX7_become rm ny → RmOk (xR X) rm ny := fun h => by rw [hR]; exact h
  refine i_aload_n C dX7_become_0 rfl (q := 0) rfl ?_
  refine i_aload_n C dX7_become_1 rfl (q := 1) rfl ?_
  refine i_getI C (k := 0) kX7 dX7_become_2 (shP_30 hX hc) rfl (by decide) fl_X7_9 rfl ?_
  refine i_putI C (k := 0) kX7 dX7_become_5 (shP_30 hX hb) rfl (by decide) fl_X7_9 rfl rfl rfl rfl (fun M1 => ?_)
  refine i_aload_n C dX7_become_8 rfl (q := 1) rfl ?_
  refine i_getR C (k := 1) kX7 dX7_become_9 (shP_30 hX hc) rfl (by decide) fl_X7_15 ?_
  refine i_aload_n C dX7_become_12 rfl (q := 0) rfl ?_
  refine i_getR C (k := 1) kX7 dX7_become_13 (shP_30 hX hb) rfl (by decide) fl_X7_15 ?_
  refine i_cV (kc' := 0) (ks' := 0) 0 0 2 (fun q hq hM hS => crN C (as := [aR (c + 31), aR (b + 31)]) dX7_become_16.1 (by decide) cal_X11_carryOver st_X11_carryOver (hRm ⟨Nat.le_of_ble_eq_true rfl, Nat.le_of_ble_eq_true rfl⟩) rfl (Nat.le_of_ble_eq_true rfl) (c_X11_carryOver (xl X) (xG X) hX (shP_31 hX hc) (shP_31 hX hb) hM ⟨hS.2.1, hS.1, trivial⟩ hq)) (Nat.le_of_ble_eq_true rfl) (Nat.le_of_ble_eq_true rfl) rfl rfl rfl (fun M2 => ?_)
  refine i_aload_n C dX7_become_19 rfl (q := 1) rfl ?_
  refine i_getR C (k := 2) kX7 dX7_become_20 (shP_30 hX hc) rfl (by decide) fl_X7_19 ?_
  refine i_aload_n C dX7_become_23 rfl (q := 0) rfl ?_
  refine i_getR C (k := 2) kX7 dX7_become_24 (shP_30 hX hb) rfl (by decide) fl_X7_19 ?_
  refine i_cV (kc' := 0) (ks' := 0) 0 0 2 (fun q hq hM hS => crN C (as := [aR (c + 32), aR (b + 32)]) dX7_become_27.1 (by decide) cal_X11_carryOver st_X11_carryOver (hRm ⟨Nat.le_of_ble_eq_true rfl, Nat.le_of_ble_eq_true rfl⟩) rfl (Nat.le_of_ble_eq_true rfl) (c_X11_carryOver (xl X) (xG X) hX (shP_32 hX hc) (shP_32 hX hb) hM ⟨hS.2.1, hS.1, trivial⟩ hq)) (Nat.le_of_ble_eq_true rfl) (Nat.le_of_ble_eq_true rfl) rfl rfl rfl (fun M3 => ?_)
  refine i_aload_n C dX7_become_30 rfl (q := 1) rfl ?_
  refine i_getR C (k := 3) kX7 dX7_become_31 (shP_30 hX hc) rfl (by decide) fl_X7_22 ?_
  refine i_aload_n C dX7_become_34 rfl (q := 0) rfl ?_
  refine i_getR C (k := 3) kX7 dX7_become_35 (shP_30 hX hb) rfl (by decide) fl_X7_22 ?_
  refine i_cV (kc' := 0) (ks' := 0) 0 0 2 (fun q hq hM hS => crN C (as := [aR (c + 33), aR (b + 33)]) dX7_become_38.1 (by decide) cal_X11_carryOver st_X11_carryOver (hRm ⟨Nat.le_of_ble_eq_true rfl, Nat.le_of_ble_eq_true rfl⟩) rfl (Nat.le_of_ble_eq_true rfl) (c_X11_carryOver (xl X) (xG X) hX (shP_33 hX hc) (shP_33 hX hb) hM ⟨hS.2.1, hS.1, trivial⟩ hq)) (Nat.le_of_ble_eq_true rfl) (Nat.le_of_ble_eq_true rfl) rfl rfl rfl (fun M4 => ?_)
  refine i_aload_n C dX7_become_41 rfl (q := 0) rfl ?_
  refine i_aload_n C dX7_become_42 rfl (q := 1) rfl ?_
  refine i_getI C (k := 4) kX7 dX7_become_43 (shP_30 hX hc) rfl (by decide) fl_X7_25 rfl ?_
  refine i_putI C (k := 4) kX7 dX7_become_46 (shP_30 hX hb) rfl (by decide) fl_X7_25 rfl rfl rfl rfl (fun M5 => ?_)
  refine i_aload_n C dX7_become_49 rfl (q := 1) rfl ?_
  refine i_getR C (k := 5) kX7 dX7_become_50 (shP_30 hX hc) rfl (by decide) fl_X7_28 ?_
  refine i_aload_n C dX7_become_53 rfl (q := 0) rfl ?_
  refine i_getR C (k := 5) kX7 dX7_become_54 (shP_30 hX hb) rfl (by decide) fl_X7_28 ?_
  refine i_cV (kc' := 0) (ks' := 0) 0 0 2 (fun q hq hM hS => crN C (as := [aR (c + 34), aR (b + 34)]) dX7_become_57.1 (by decide) cal_X11_carryOver st_X11_carryOver (hRm ⟨Nat.le_of_ble_eq_true rfl, Nat.le_of_ble_eq_true rfl⟩) rfl (Nat.le_of_ble_eq_true rfl) (c_X11_carryOver (xl X) (xG X) hX (shP_34 hX hc) (shP_34 hX hb) hM ⟨hS.2.1, hS.1, trivial⟩ hq)) (Nat.le_of_ble_eq_true rfl) (Nat.le_of_ble_eq_true rfl) rfl rfl rfl (fun M6 => ?_)
  refine i_aload_n C dX7_become_60 rfl (q := 1) rfl ?_
  refine i_getR C (k := 6) kX7 dX7_become_61 (shP_30 hX hc) rfl (by decide) fl_X7_31 ?_
  refine i_aload_n C dX7_become_64 rfl (q := 0) rfl ?_
  refine i_getR C (k := 6) kX7 dX7_become_65 (shP_30 hX hb) rfl (by decide) fl_X7_31 ?_
  refine i_cV (kc' := 0) (ks' := 0) 0 0 2 (fun q hq hM hS => crN C (as := [aR (c + 35), aR (b + 35)]) dX7_become_68.1 (by decide) cal_X11_carryOver st_X11_carryOver (hRm ⟨Nat.le_of_ble_eq_true rfl, Nat.le_of_ble_eq_true rfl⟩) rfl (Nat.le_of_ble_eq_true rfl) (c_X11_carryOver (xl X) (xG X) hX (shP_35 hX hc) (shP_35 hX hb) hM ⟨hS.2.1, hS.1, trivial⟩ hq)) (Nat.le_of_ble_eq_true rfl) (Nat.le_of_ble_eq_true rfl) rfl rfl rfl (fun M7 => ?_)
  refine i_aload_n C dX7_become_71 rfl (q := 1) rfl ?_
  refine i_getR C (k := 7) kX7 dX7_become_72 (shP_30 hX hc) rfl (by decide) fl_X7_34 ?_
  refine i_aload_n C dX7_become_75 rfl (q := 0) rfl ?_
  refine i_getR C (k := 7) kX7 dX7_become_76 (shP_30 hX hb) rfl (by decide) fl_X7_34 ?_
  refine i_cV (kc' := 0) (ks' := 0) 0 0 2 (fun q hq hM hS => crN C (as := [aR (c + 36), aR (b + 36)]) dX7_become_79.1 (by decide) cal_X11_carryOver st_X11_carryOver (hRm ⟨Nat.le_of_ble_eq_true rfl, Nat.le_of_ble_eq_true rfl⟩) rfl (Nat.le_of_ble_eq_true rfl) (c_X11_carryOver (xl X) (xG X) hX (shP_36 hX hc) (shP_36 hX hb) hM ⟨hS.2.1, hS.1, trivial⟩ hq)) (Nat.le_of_ble_eq_true rfl) (Nat.le_of_ble_eq_true rfl) rfl rfl rfl (fun M8 => ?_)
  exact i_vret C hq dX7_become_82
set_option maxRecDepth 100000 in
set_option maxHeartbeats 4000000 in
theorem c_X4_become (l : Launch) (G : Gx) {K : Kx} (hK : K = kP) {b : Nat} {c : Nat} (hb : isC b) (hc : isC c) {M : Mem} {res : Mem} (hM : OkM M) (ha : okS [aR (b + 37), aR (c + 37)]) (hF : pLaws_become b c M = some res) : Ct l G K yX4_become (wsM yX4_become cX4_become 2 none) rmX4_become [aR (b + 37), aR (c + 37)] M none res := by
  refine ct_of RX4 (by decide +kernel) rfl (hK ▸ kP_ok) hM ha (Nat.le_of_ble_eq_true rfl) hF ?_
  intro X C hl hG hX0 hN hR hq
  have hX : xK X = kP := hX0.trans hK
  show Im X 0 0 0 [(0, aR (b + 37)), (1, aR (c + 37))] [] M res (pLaws_become b c M)
  unfold pLaws_become
  have hRm : ∀ {rm : Room} {ny : Nat}, RmOk rmX4_become rm ny → RmOk (xR X) rm ny := fun h => by rw [hR]; exact h
  refine i_aload_n C dX4_become_0 rfl (q := 0) rfl ?_
  refine i_aload_n C dX4_become_1 rfl (q := 1) rfl ?_
  refine i_getI C (k := 0) kX4 dX4_become_2 (shP_37 hX hc) rfl (by decide) fl_X4_9 rfl ?_
  refine i_putI C (k := 0) kX4 dX4_become_5 (shP_37 hX hb) rfl (by decide) fl_X4_9 rfl rfl rfl rfl (fun M1 => ?_)
  refine i_aload_n C dX4_become_8 rfl (q := 1) rfl ?_
  refine i_getR C (k := 1) kX4 dX4_become_9 (shP_37 hX hc) rfl (by decide) fl_X4_15 ?_
  refine i_aload_n C dX4_become_12 rfl (q := 0) rfl ?_
  refine i_getR C (k := 1) kX4 dX4_become_13 (shP_37 hX hb) rfl (by decide) fl_X4_15 ?_
  refine i_cV (kc' := 0) (ks' := 0) 0 0 2 (fun q hq hM hS => crN C (as := [aR (c + 38), aR (b + 38)]) dX4_become_16.1 (by decide) cal_X11_carryOver st_X11_carryOver (hRm ⟨Nat.le_of_ble_eq_true rfl, Nat.le_of_ble_eq_true rfl⟩) rfl (Nat.le_of_ble_eq_true rfl) (c_X11_carryOver (xl X) (xG X) hX (shP_38 hX hc) (shP_38 hX hb) hM ⟨hS.2.1, hS.1, trivial⟩ hq)) (Nat.le_of_ble_eq_true rfl) (Nat.le_of_ble_eq_true rfl) rfl rfl rfl (fun M2 => ?_)
  refine i_aload_n C dX4_become_19 rfl (q := 1) rfl ?_
  refine i_getR C (k := 2) kX4 dX4_become_20 (shP_37 hX hc) rfl (by decide) fl_X4_19 ?_
  refine i_aload_n C dX4_become_23 rfl (q := 0) rfl ?_
  refine i_getR C (k := 2) kX4 dX4_become_24 (shP_37 hX hb) rfl (by decide) fl_X4_19 ?_
  refine i_cV (kc' := 0) (ks' := 0) 0 0 2 (fun q hq hM hS => crN C (as := [aR (c + 39), aR (b + 39)]) dX4_become_27.1 (by decide) cal_X11_carryOver st_X11_carryOver (hRm ⟨Nat.le_of_ble_eq_true rfl, Nat.le_of_ble_eq_true rfl⟩) rfl (Nat.le_of_ble_eq_true rfl) (c_X11_carryOver (xl X) (xG X) hX (shP_39 hX hc) (shP_39 hX hb) hM ⟨hS.2.1, hS.1, trivial⟩ hq)) (Nat.le_of_ble_eq_true rfl) (Nat.le_of_ble_eq_true rfl) rfl rfl rfl (fun M3 => ?_)
  refine i_aload_n C dX4_become_30 rfl (q := 1) rfl ?_
  refine i_getR C (k := 3) kX4 dX4_become_31 (shP_37 hX hc) rfl (by decide) fl_X4_22 ?_
  refine i_aload_n C dX4_become_34 rfl (q := 0) rfl ?_
  refine i_getR C (k := 3) kX4 dX4_become_35 (shP_37 hX hb) rfl (by decide) fl_X4_22 ?_
  refine i_cV (kc' := 0) (ks' := 0) 0 0 2 (fun q hq hM hS => crN C (as := [aR (c + 40), aR (b + 40)]) dX4_become_38.1 (by decide) cal_X11_carryOver st_X11_carryOver (hRm ⟨Nat.le_of_ble_eq_true rfl, Nat.le_of_ble_eq_true rfl⟩) rfl (Nat.le_of_ble_eq_true rfl) (c_X11_carryOver (xl X) (xG X) hX (shP_40 hX hc) (shP_40 hX hb) hM ⟨hS.2.1, hS.1, trivial⟩ hq)) (Nat.le_of_ble_eq_true rfl) (Nat.le_of_ble_eq_true rfl) rfl rfl rfl (fun M4 => ?_)
  refine i_aload_n C dX4_become_41 rfl (q := 1) rfl ?_
  refine i_getR C (k := 4) kX4 dX4_become_42 (shP_37 hX hc) rfl (by decide) fl_X4_25 ?_
  refine i_aload_n C dX4_become_45 rfl (q := 0) rfl ?_
  refine i_getR C (k := 4) kX4 dX4_become_46 (shP_37 hX hb) rfl (by decide) fl_X4_25 ?_
  refine i_cV (kc' := 0) (ks' := 0) 0 0 2 (fun q hq hM hS => crN C (as := [aR (c + 41), aR (b + 41)]) dX4_become_49.1 (by decide) cal_X11_carryOver st_X11_carryOver (hRm ⟨Nat.le_of_ble_eq_true rfl, Nat.le_of_ble_eq_true rfl⟩) rfl (Nat.le_of_ble_eq_true rfl) (c_X11_carryOver (xl X) (xG X) hX (shP_41 hX hc) (shP_41 hX hb) hM ⟨hS.2.1, hS.1, trivial⟩ hq)) (Nat.le_of_ble_eq_true rfl) (Nat.le_of_ble_eq_true rfl) rfl rfl rfl (fun M5 => ?_)
  refine i_aload_n C dX4_become_52 rfl (q := 1) rfl ?_
  refine i_getR C (k := 5) kX4 dX4_become_53 (shP_37 hX hc) rfl (by decide) fl_X4_28 ?_
  refine i_aload_n C dX4_become_56 rfl (q := 0) rfl ?_
  refine i_getR C (k := 5) kX4 dX4_become_57 (shP_37 hX hb) rfl (by decide) fl_X4_28 ?_
  refine i_cV (kc' := 0) (ks' := 0) 0 0 2 (fun q hq hM hS => crN C (as := [aR (c + 42), aR (b + 42)]) dX4_become_60.1 (by decide) cal_X11_carryOver st_X11_carryOver (hRm ⟨Nat.le_of_ble_eq_true rfl, Nat.le_of_ble_eq_true rfl⟩) rfl (Nat.le_of_ble_eq_true rfl) (c_X11_carryOver (xl X) (xG X) hX (shP_42 hX hc) (shP_42 hX hb) hM ⟨hS.2.1, hS.1, trivial⟩ hq)) (Nat.le_of_ble_eq_true rfl) (Nat.le_of_ble_eq_true rfl) rfl rfl rfl (fun M6 => ?_)
  refine i_aload_n C dX4_become_63 rfl (q := 1) rfl ?_
  refine i_getR C (k := 6) kX4 dX4_become_64 (shP_37 hX hc) rfl (by decide) fl_X4_31 ?_
  refine i_aload_n C dX4_become_67 rfl (q := 0) rfl ?_
  refine i_getR C (k := 6) kX4 dX4_become_68 (shP_37 hX hb) rfl (by decide) fl_X4_31 ?_
  refine i_cV (kc' := 0) (ks' := 0) 0 0 2 (fun q hq hM hS => crN C (as := [aR (c + 43), aR (b + 43)]) dX4_become_71.1 (by decide) cal_X11_carryOver st_X11_carryOver (hRm ⟨Nat.le_of_ble_eq_true rfl, Nat.le_of_ble_eq_true rfl⟩) rfl (Nat.le_of_ble_eq_true rfl) (c_X11_carryOver (xl X) (xG X) hX (shP_43 hX hc) (shP_43 hX hb) hM ⟨hS.2.1, hS.1, trivial⟩ hq)) (Nat.le_of_ble_eq_true rfl) (Nat.le_of_ble_eq_true rfl) rfl rfl rfl (fun M7 => ?_)
  refine i_aload_n C dX4_become_74 rfl (q := 1) rfl ?_
  refine i_getR C (k := 7) kX4 dX4_become_75 (shP_37 hX hc) rfl (by decide) fl_X4_34 ?_
  refine i_aload_n C dX4_become_78 rfl (q := 0) rfl ?_
  refine i_getR C (k := 7) kX4 dX4_become_79 (shP_37 hX hb) rfl (by decide) fl_X4_34 ?_
  refine i_cV (kc' := 0) (ks' := 0) 0 0 2 (fun q hq hM hS => crN C (as := [aR (c + 44), aR (b + 44)]) dX4_become_82.1 (by decide) cal_X11_carryOver st_X11_carryOver (hRm ⟨Nat.le_of_ble_eq_true rfl, Nat.le_of_ble_eq_true rfl⟩) rfl (Nat.le_of_ble_eq_true rfl) (c_X11_carryOver (xl X) (xG X) hX (shP_44 hX hc) (shP_44 hX hb) hM ⟨hS.2.1, hS.1, trivial⟩ hq)) (Nat.le_of_ble_eq_true rfl) (Nat.le_of_ble_eq_true rfl) rfl rfl rfl (fun M8 => ?_)
  exact i_vret C hq dX4_become_85
set_option maxRecDepth 100000 in
set_option maxHeartbeats 4000000 in
theorem c_X3_become (l : Launch) (G : Gx) {K : Kx} (hK : K = kP) {b : Nat} {c : Nat} (hb : isC b) (hc : isC c) {M : Mem} {res : Mem} (hM : OkM M) (ha : okS [aR (b + 47), aR (c + 47)]) (hF : pFiles_become b c M = some res) : Ct l G K yX3_become (wsM yX3_become cX3_become 2 none) rmX3_become [aR (b + 47), aR (c + 47)] M none res := by
  refine ct_of RX3 (by decide +kernel) rfl (hK ▸ kP_ok) hM ha (Nat.le_of_ble_eq_true rfl) hF ?_
  intro X C hl hG hX0 hN hR hq
  have hX : xK X = kP := hX0.trans hK
  show Im X 0 0 0 [(0, aR (b + 47)), (1, aR (c + 47))] [] M res (pFiles_become b c M)
  unfold pFiles_become
  have hRm : ∀ {rm : Room} {ny : Nat}, RmOk rmX3_become rm ny → RmOk (xR X) rm ny := fun h => by rw [hR]; exact h
  refine i_aload_n C dX3_become_0 rfl (q := 1) rfl ?_
  refine i_getR C (k := 0) kX3 dX3_become_1 (shP_47 hX hc) rfl (by decide) fl_X3_9 ?_
  refine i_aload_n C dX3_become_4 rfl (q := 0) rfl ?_
  refine i_getR C (k := 0) kX3 dX3_become_5 (shP_47 hX hb) rfl (by decide) fl_X3_9 ?_
  refine i_cV (kc' := 0) (ks' := 0) 0 0 2 (fun q hq hM hS => crN C (as := [aR (c + 48), aR (b + 48)]) dX3_become_8.1 (by decide) cal_X11_carryOver st_X11_carryOver (hRm ⟨Nat.le_of_ble_eq_true rfl, Nat.le_of_ble_eq_true rfl⟩) rfl (Nat.le_of_ble_eq_true rfl) (c_X11_carryOver (xl X) (xG X) hX (shP_48 hX hc) (shP_48 hX hb) hM ⟨hS.2.1, hS.1, trivial⟩ hq)) (Nat.le_of_ble_eq_true rfl) (Nat.le_of_ble_eq_true rfl) rfl rfl rfl (fun M1 => ?_)
  refine i_aload_n C dX3_become_11 rfl (q := 1) rfl ?_
  refine i_getR C (k := 1) kX3 dX3_become_12 (shP_47 hX hc) rfl (by decide) fl_X3_15 ?_
  refine i_aload_n C dX3_become_15 rfl (q := 0) rfl ?_
  refine i_getR C (k := 1) kX3 dX3_become_16 (shP_47 hX hb) rfl (by decide) fl_X3_15 ?_
  refine i_cV (kc' := 0) (ks' := 0) 0 0 2 (fun q hq hM hS => crN C (as := [aR (c + 49), aR (b + 49)]) dX3_become_19.1 (by decide) cal_X11_carryOver st_X11_carryOver (hRm ⟨Nat.le_of_ble_eq_true rfl, Nat.le_of_ble_eq_true rfl⟩) rfl (Nat.le_of_ble_eq_true rfl) (c_X11_carryOver (xl X) (xG X) hX (shP_49 hX hc) (shP_49 hX hb) hM ⟨hS.2.1, hS.1, trivial⟩ hq)) (Nat.le_of_ble_eq_true rfl) (Nat.le_of_ble_eq_true rfl) rfl rfl rfl (fun M2 => ?_)
  refine i_aload_n C dX3_become_22 rfl (q := 1) rfl ?_
  refine i_getR C (k := 2) kX3 dX3_become_23 (shP_47 hX hc) rfl (by decide) fl_X3_18 ?_
  refine i_aload_n C dX3_become_26 rfl (q := 0) rfl ?_
  refine i_getR C (k := 2) kX3 dX3_become_27 (shP_47 hX hb) rfl (by decide) fl_X3_18 ?_
  refine i_cV (kc' := 0) (ks' := 0) 0 0 2 (fun q hq hM hS => crN C (as := [aR (c + 50), aR (b + 50)]) dX3_become_30.1 (by decide) cal_X11_carryOver st_X11_carryOver (hRm ⟨Nat.le_of_ble_eq_true rfl, Nat.le_of_ble_eq_true rfl⟩) rfl (Nat.le_of_ble_eq_true rfl) (c_X11_carryOver (xl X) (xG X) hX (shP_50 hX hc) (shP_50 hX hb) hM ⟨hS.2.1, hS.1, trivial⟩ hq)) (Nat.le_of_ble_eq_true rfl) (Nat.le_of_ble_eq_true rfl) rfl rfl rfl (fun M3 => ?_)
  refine i_aload_n C dX3_become_33 rfl (q := 0) rfl ?_
  refine i_iconst C dX3_become_34 kI_0 ?_
  refine i_putI C (k := 5) kX3 dX3_become_35 (shP_47 hX hb) rfl (by decide) fl_X3_27 rfl (by decide) (by decide) rfl (fun M4 => ?_)
  exact i_vret C hq dX3_become_38
set_option maxRecDepth 100000 in
set_option maxHeartbeats 4000000 in
theorem c_X2_become (l : Launch) (G : Gx) {K : Kx} (hK : K = kP) {b : Nat} {c : Nat} (hb : isC b) (hc : isC c) {M : Mem} {res : Mem} (hM : OkM M) (ha : okS [aR (b + 53), aR (c + 53)]) (hF : pFeast_become b c M = some res) : Ct l G K yX2_become (wsM yX2_become cX2_become 2 none) rmX2_become [aR (b + 53), aR (c + 53)] M none res := by
  refine ct_of RX2 (by decide +kernel) rfl (hK ▸ kP_ok) hM ha (Nat.le_of_ble_eq_true rfl) hF ?_
  intro X C hl hG hX0 hN hR hq
  have hX : xK X = kP := hX0.trans hK
  show Im X 0 0 0 [(0, aR (b + 53)), (1, aR (c + 53))] [] M res (pFeast_become b c M)
  unfold pFeast_become
  have hRm : ∀ {rm : Room} {ny : Nat}, RmOk rmX2_become rm ny → RmOk (xR X) rm ny := fun h => by rw [hR]; exact h
  refine i_aload_n C dX2_become_0 rfl (q := 1) rfl ?_
  refine i_getR C (k := 0) kX2 dX2_become_1 (shP_53 hX hc) rfl (by decide) fl_X2_9 ?_
  refine i_aload_n C dX2_become_4 rfl (q := 0) rfl ?_
  refine i_getR C (k := 0) kX2 dX2_become_5 (shP_53 hX hb) rfl (by decide) fl_X2_9 ?_
  refine i_cV (kc' := 0) (ks' := 0) 0 0 2 (fun q hq hM hS => crN C (as := [aR (c + 54), aR (b + 54)]) dX2_become_8.1 (by decide) cal_X11_carryOver st_X11_carryOver (hRm ⟨Nat.le_of_ble_eq_true rfl, Nat.le_of_ble_eq_true rfl⟩) rfl (Nat.le_of_ble_eq_true rfl) (c_X11_carryOver (xl X) (xG X) hX (shP_54 hX hc) (shP_54 hX hb) hM ⟨hS.2.1, hS.1, trivial⟩ hq)) (Nat.le_of_ble_eq_true rfl) (Nat.le_of_ble_eq_true rfl) rfl rfl rfl (fun M1 => ?_)
  exact i_vret C hq dX2_become_11
set_option maxRecDepth 100000 in
set_option maxHeartbeats 4000000 in
theorem c_X1_become (l : Launch) (G : Gx) {K : Kx} (hK : K = kP) {b : Nat} {c : Nat} (hb : isC b) (hc : isC c) {M : Mem} {res : Mem} (hM : OkM M) (ha : okS [aR (b + 57), aR (c + 57)]) (hF : pClauses_become b c M = some res) : Ct l G K yX1_become (wsM yX1_become cX1_become 2 none) rmX1_become [aR (b + 57), aR (c + 57)] M none res := by
  refine ct_of RX1 (by decide +kernel) rfl (hK ▸ kP_ok) hM ha (Nat.le_of_ble_eq_true rfl) hF ?_
  intro X C hl hG hX0 hN hR hq
  have hX : xK X = kP := hX0.trans hK
  show Im X 0 0 0 [(0, aR (b + 57)), (1, aR (c + 57))] [] M res (pClauses_become b c M)
  unfold pClauses_become
  have hRm : ∀ {rm : Room} {ny : Nat}, RmOk rmX1_become rm ny → RmOk (xR X) rm ny := fun h => by rw [hR]; exact h
  refine i_aload_n C dX1_become_0 rfl (q := 0) rfl ?_
  refine i_aload_n C dX1_become_1 rfl (q := 1) rfl ?_
  refine i_getI C (k := 0) kX1 dX1_become_2 (shP_57 hX hc) rfl (by decide) fl_X1_9 rfl ?_
  refine i_putI C (k := 0) kX1 dX1_become_5 (shP_57 hX hb) rfl (by decide) fl_X1_9 rfl rfl rfl rfl (fun M1 => ?_)
  refine i_aload_n C dX1_become_8 rfl (q := 1) rfl ?_
  refine i_getR C (k := 1) kX1 dX1_become_9 (shP_57 hX hc) rfl (by decide) fl_X1_15 ?_
  refine i_aload_n C dX1_become_12 rfl (q := 0) rfl ?_
  refine i_getR C (k := 1) kX1 dX1_become_13 (shP_57 hX hb) rfl (by decide) fl_X1_15 ?_
  refine i_cV (kc' := 0) (ks' := 0) 0 0 2 (fun q hq hM hS => crN C (as := [aR (c + 58), aR (b + 58)]) dX1_become_16.1 (by decide) cal_X11_carryOver st_X11_carryOver (hRm ⟨Nat.le_of_ble_eq_true rfl, Nat.le_of_ble_eq_true rfl⟩) rfl (Nat.le_of_ble_eq_true rfl) (c_X11_carryOver (xl X) (xG X) hX (shP_58 hX hc) (shP_58 hX hb) hM ⟨hS.2.1, hS.1, trivial⟩ hq)) (Nat.le_of_ble_eq_true rfl) (Nat.le_of_ble_eq_true rfl) rfl rfl rfl (fun M2 => ?_)
  refine i_aload_n C dX1_become_19 rfl (q := 1) rfl ?_
  refine i_getR C (k := 2) kX1 dX1_become_20 (shP_57 hX hc) rfl (by decide) fl_X1_19 ?_
  refine i_aload_n C dX1_become_23 rfl (q := 0) rfl ?_
  refine i_getR C (k := 2) kX1 dX1_become_24 (shP_57 hX hb) rfl (by decide) fl_X1_19 ?_
  refine i_cV (kc' := 0) (ks' := 0) 0 0 2 (fun q hq hM hS => crN C (as := [aR (c + 59), aR (b + 59)]) dX1_become_27.1 (by decide) cal_X11_carryOver st_X11_carryOver (hRm ⟨Nat.le_of_ble_eq_true rfl, Nat.le_of_ble_eq_true rfl⟩) rfl (Nat.le_of_ble_eq_true rfl) (c_X11_carryOver (xl X) (xG X) hX (shP_59 hX hc) (shP_59 hX hb) hM ⟨hS.2.1, hS.1, trivial⟩ hq)) (Nat.le_of_ble_eq_true rfl) (Nat.le_of_ble_eq_true rfl) rfl rfl rfl (fun M3 => ?_)
  refine i_aload_n C dX1_become_30 rfl (q := 1) rfl ?_
  refine i_getR C (k := 3) kX1 dX1_become_31 (shP_57 hX hc) rfl (by decide) fl_X1_22 ?_
  refine i_aload_n C dX1_become_34 rfl (q := 0) rfl ?_
  refine i_getR C (k := 3) kX1 dX1_become_35 (shP_57 hX hb) rfl (by decide) fl_X1_22 ?_
  refine i_cV (kc' := 0) (ks' := 0) 0 0 2 (fun q hq hM hS => crN C (as := [aR (c + 60), aR (b + 60)]) dX1_become_38.1 (by decide) cal_X11_carryOver st_X11_carryOver (hRm ⟨Nat.le_of_ble_eq_true rfl, Nat.le_of_ble_eq_true rfl⟩) rfl (Nat.le_of_ble_eq_true rfl) (c_X11_carryOver (xl X) (xG X) hX (shP_60 hX hc) (shP_60 hX hb) hM ⟨hS.2.1, hS.1, trivial⟩ hq)) (Nat.le_of_ble_eq_true rfl) (Nat.le_of_ble_eq_true rfl) rfl rfl rfl (fun M4 => ?_)
  exact i_vret C hq dX1_become_41
set_option maxRecDepth 100000 in
set_option maxHeartbeats 4000000 in
theorem c_X0_become (l : Launch) (G : Gx) {K : Kx} (hK : K = kP) {b : Nat} {c : Nat} (hb : isC b) (hc : isC c) {M : Mem} {res : Mem} (hM : OkM M) (ha : okS [aR b, aR c]) (hF : pCity_become b c M = some res) : Ct l G K yX0_become (wsM yX0_become cX0_become 2 none) rmX0_become [aR b, aR c] M none res := by
  refine ct_of RX0 (by decide +kernel) rfl (hK ▸ kP_ok) hM ha (Nat.le_of_ble_eq_true rfl) hF ?_
  intro X C hl hG hX0 hN hR hq
  have hX : xK X = kP := hX0.trans hK
  show Im X 0 0 0 [(0, aR b), (1, aR c)] [] M res (pCity_become b c M)
  unfold pCity_become
  have hRm : ∀ {rm : Room} {ny : Nat}, RmOk rmX0_become rm ny → RmOk (xR X) rm ny := fun h => by rw [hR]; exact h
  refine i_aload_n C dX0_become_0 rfl (q := 0) rfl ?_
  refine i_aload_n C dX0_become_1 rfl (q := 1) rfl ?_
  refine i_getI C (k := 0) kX0 dX0_become_2 (shP_0 hX hc) rfl (by decide) fl_X0_9 rfl ?_
  refine i_putI C (k := 0) kX0 dX0_become_5 (shP_0 hX hb) rfl (by decide) fl_X0_9 rfl rfl rfl rfl (fun M1 => ?_)
  refine i_aload_n C dX0_become_8 rfl (q := 0) rfl ?_
  refine i_aload_n C dX0_become_9 rfl (q := 1) rfl ?_
  refine i_getI C (k := 1) kX0 dX0_become_10 (shP_0 hX hc) rfl (by decide) fl_X0_15 rfl ?_
  refine i_putI C (k := 1) kX0 dX0_become_13 (shP_0 hX hb) rfl (by decide) fl_X0_15 rfl rfl rfl rfl (fun M2 => ?_)
  refine i_aload_n C dX0_become_16 rfl (q := 1) rfl ?_
  refine i_getR C (k := 2) kX0 dX0_become_17 (shP_0 hX hc) rfl (by decide) fl_X0_18 ?_
  refine i_aload_n C dX0_become_20 rfl (q := 0) rfl ?_
  refine i_getR C (k := 2) kX0 dX0_become_21 (shP_0 hX hb) rfl (by decide) fl_X0_18 ?_
  refine i_cV (kc' := 0) (ks' := 0) 0 0 2 (fun q hq hM hS => crN C (as := [aR (c + 1), aR (b + 1)]) dX0_become_24.1 (by decide) cal_X11_carryOver st_X11_carryOver (hRm ⟨Nat.le_of_ble_eq_true rfl, Nat.le_of_ble_eq_true rfl⟩) rfl (Nat.le_of_ble_eq_true rfl) (c_X11_carryOver (xl X) (xG X) hX (shP_1 hX hc) (shP_1 hX hb) hM ⟨hS.2.1, hS.1, trivial⟩ hq)) (Nat.le_of_ble_eq_true rfl) (Nat.le_of_ble_eq_true rfl) rfl rfl rfl (fun M3 => ?_)
  refine i_aload_n C dX0_become_27 rfl (q := 1) rfl ?_
  refine i_getR C (k := 3) kX0 dX0_become_28 (shP_0 hX hc) rfl (by decide) fl_X0_22 ?_
  refine i_aload_n C dX0_become_31 rfl (q := 0) rfl ?_
  refine i_getR C (k := 3) kX0 dX0_become_32 (shP_0 hX hb) rfl (by decide) fl_X0_22 ?_
  refine i_cV (kc' := 0) (ks' := 0) 0 0 2 (fun q hq hM hS => crN C (as := [aR (c + 2), aR (b + 2)]) dX0_become_35.1 (by decide) cal_X11_carryOver st_X11_carryOver (hRm ⟨Nat.le_of_ble_eq_true rfl, Nat.le_of_ble_eq_true rfl⟩) rfl (Nat.le_of_ble_eq_true rfl) (c_X11_carryOver (xl X) (xG X) hX (shP_2 hX hc) (shP_2 hX hb) hM ⟨hS.2.1, hS.1, trivial⟩ hq)) (Nat.le_of_ble_eq_true rfl) (Nat.le_of_ble_eq_true rfl) rfl rfl rfl (fun M4 => ?_)
  refine i_aload_n C dX0_become_38 rfl (q := 1) rfl ?_
  refine i_getR C (k := 4) kX0 dX0_become_39 (shP_0 hX hc) rfl (by decide) fl_X0_25 ?_
  refine i_aload_n C dX0_become_42 rfl (q := 0) rfl ?_
  refine i_getR C (k := 4) kX0 dX0_become_43 (shP_0 hX hb) rfl (by decide) fl_X0_25 ?_
  refine i_cV (kc' := 0) (ks' := 0) 0 0 2 (fun q hq hM hS => crN C (as := [aR (c + 3), aR (b + 3)]) dX0_become_46.1 (by decide) cal_X11_carryOver st_X11_carryOver (hRm ⟨Nat.le_of_ble_eq_true rfl, Nat.le_of_ble_eq_true rfl⟩) rfl (Nat.le_of_ble_eq_true rfl) (c_X11_carryOver (xl X) (xG X) hX (shP_3 hX hc) (shP_3 hX hb) hM ⟨hS.2.1, hS.1, trivial⟩ hq)) (Nat.le_of_ble_eq_true rfl) (Nat.le_of_ble_eq_true rfl) rfl rfl rfl (fun M5 => ?_)
  refine i_aload_n C dX0_become_49 rfl (q := 1) rfl ?_
  refine i_getR C (k := 5) kX0 dX0_become_50 (shP_0 hX hc) rfl (by decide) fl_X0_29 ?_
  refine i_aload_n C dX0_become_53 rfl (q := 0) rfl ?_
  refine i_getR C (k := 5) kX0 dX0_become_54 (shP_0 hX hb) rfl (by decide) fl_X0_29 ?_
  refine i_cV (kc' := 0) (ks' := 0) 0 0 2 (fun q hq hM hS => crN C (as := [aR (c + 4), aR (b + 4)]) dX0_become_57.1 (by decide) cal_X11_carryOver st_X11_carryOver (hRm ⟨Nat.le_of_ble_eq_true rfl, Nat.le_of_ble_eq_true rfl⟩) rfl (Nat.le_of_ble_eq_true rfl) (c_X11_carryOver (xl X) (xG X) hX (shP_4 hX hc) (shP_4 hX hb) hM ⟨hS.2.1, hS.1, trivial⟩ hq)) (Nat.le_of_ble_eq_true rfl) (Nat.le_of_ble_eq_true rfl) rfl rfl rfl (fun M6 => ?_)
  refine i_aload_n C dX0_become_60 rfl (q := 1) rfl ?_
  refine i_getR C (k := 6) kX0 dX0_become_61 (shP_0 hX hc) rfl (by decide) fl_X0_32 ?_
  refine i_aload_n C dX0_become_64 rfl (q := 0) rfl ?_
  refine i_getR C (k := 6) kX0 dX0_become_65 (shP_0 hX hb) rfl (by decide) fl_X0_32 ?_
  refine i_cV (kc' := 0) (ks' := 0) 0 0 2 (fun q hq hM hS => crN C (as := [aR (c + 5), aR (b + 5)]) dX0_become_68.1 (by decide) cal_X11_carryOver st_X11_carryOver (hRm ⟨Nat.le_of_ble_eq_true rfl, Nat.le_of_ble_eq_true rfl⟩) rfl (Nat.le_of_ble_eq_true rfl) (c_X11_carryOver (xl X) (xG X) hX (shP_5 hX hc) (shP_5 hX hb) hM ⟨hS.2.1, hS.1, trivial⟩ hq)) (Nat.le_of_ble_eq_true rfl) (Nat.le_of_ble_eq_true rfl) rfl rfl rfl (fun M7 => ?_)
  refine i_aload_n C dX0_become_71 rfl (q := 0) rfl ?_
  refine i_getR C (k := 7) kX0 dX0_become_72 (shP_0 hX hb) rfl (by decide) fl_X0_38 ?_
  refine i_aload_n C dX0_become_75 rfl (q := 1) rfl ?_
  refine i_getR C (k := 7) kX0 dX0_become_76 (shP_0 hX hc) rfl (by decide) fl_X0_38 ?_
  refine i_cV (kc' := 0) (ks' := 0) 0 0 2 (fun q hq hM hS => crV C (as := [aR (c + 6)]) dX0_become_79.1 kX6 (shP_6 hX hb) ml_X0_88 cal_X6_become cv_X6_become (hRm ⟨Nat.le_of_ble_eq_true rfl, Nat.le_of_ble_eq_true rfl⟩) rfl (Nat.le_of_ble_eq_true rfl) (c_X6_become (xl X) (xG X) hX hb hc hM ⟨hS.2.1, hS.1, trivial⟩ hq)) (Nat.le_of_ble_eq_true rfl) (Nat.le_of_ble_eq_true rfl) rfl rfl rfl (fun M8 => ?_)
  refine i_aload_n C dX0_become_82 rfl (q := 0) rfl ?_
  refine i_getR C (k := 8) kX0 dX0_become_83 (shP_0 hX hb) rfl (by decide) fl_X0_45 ?_
  refine i_aload_n C dX0_become_86 rfl (q := 1) rfl ?_
  refine i_getR C (k := 8) kX0 dX0_become_87 (shP_0 hX hc) rfl (by decide) fl_X0_45 ?_
  refine i_cV (kc' := 0) (ks' := 0) 0 0 2 (fun q hq hM hS => crV C (as := [aR (c + 15)]) dX0_become_90.1 kX9 (shP_15 hX hb) ml_X0_92 cal_X9_become cv_X9_become (hRm ⟨Nat.le_of_ble_eq_true rfl, Nat.le_of_ble_eq_true rfl⟩) rfl (Nat.le_of_ble_eq_true rfl) (c_X9_become (xl X) (xG X) hX hb hc hM ⟨hS.2.1, hS.1, trivial⟩ hq)) (Nat.le_of_ble_eq_true rfl) (Nat.le_of_ble_eq_true rfl) rfl rfl rfl (fun M9 => ?_)
  refine i_aload_n C dX0_become_93 rfl (q := 0) rfl ?_
  refine i_getR C (k := 9) kX0 dX0_become_94 (shP_0 hX hb) rfl (by decide) fl_X0_52 ?_
  refine i_aload_n C dX0_become_97 rfl (q := 1) rfl ?_
  refine i_getR C (k := 9) kX0 dX0_become_98 (shP_0 hX hc) rfl (by decide) fl_X0_52 ?_
  refine i_cV (kc' := 0) (ks' := 0) 0 0 2 (fun q hq hM hS => crV C (as := [aR (c + 30)]) dX0_become_101.1 kX7 (shP_30 hX hb) ml_X0_95 cal_X7_become cv_X7_become (hRm ⟨Nat.le_of_ble_eq_true rfl, Nat.le_of_ble_eq_true rfl⟩) rfl (Nat.le_of_ble_eq_true rfl) (c_X7_become (xl X) (xG X) hX hb hc hM ⟨hS.2.1, hS.1, trivial⟩ hq)) (Nat.le_of_ble_eq_true rfl) (Nat.le_of_ble_eq_true rfl) rfl rfl rfl (fun M10 => ?_)
  refine i_aload_n C dX0_become_104 rfl (q := 0) rfl ?_
  refine i_getR C (k := 10) kX0 dX0_become_105 (shP_0 hX hb) rfl (by decide) fl_X0_59 ?_
  refine i_aload_n C dX0_become_108 rfl (q := 1) rfl ?_
  refine i_getR C (k := 10) kX0 dX0_become_109 (shP_0 hX hc) rfl (by decide) fl_X0_59 ?_
  refine i_cV (kc' := 0) (ks' := 0) 0 0 2 (fun q hq hM hS => crV C (as := [aR (c + 37)]) dX0_become_112.1 kX4 (shP_37 hX hb) ml_X0_98 cal_X4_become cv_X4_become (hRm ⟨Nat.le_of_ble_eq_true rfl, Nat.le_of_ble_eq_true rfl⟩) rfl (Nat.le_of_ble_eq_true rfl) (c_X4_become (xl X) (xG X) hX hb hc hM ⟨hS.2.1, hS.1, trivial⟩ hq)) (Nat.le_of_ble_eq_true rfl) (Nat.le_of_ble_eq_true rfl) rfl rfl rfl (fun M11 => ?_)
  refine i_aload_n C dX0_become_115 rfl (q := 0) rfl ?_
  refine i_getR C (k := 11) kX0 dX0_become_116 (shP_0 hX hb) rfl (by decide) fl_X0_66 ?_
  refine i_aload_n C dX0_become_119 rfl (q := 1) rfl ?_
  refine i_getR C (k := 11) kX0 dX0_become_120 (shP_0 hX hc) rfl (by decide) fl_X0_66 ?_
  refine i_cV (kc' := 0) (ks' := 0) 0 0 2 (fun q hq hM hS => crV C (as := [aR (c + 47)]) dX0_become_123.1 kX3 (shP_47 hX hb) ml_X0_101 cal_X3_become cv_X3_become (hRm ⟨Nat.le_of_ble_eq_true rfl, Nat.le_of_ble_eq_true rfl⟩) rfl (Nat.le_of_ble_eq_true rfl) (c_X3_become (xl X) (xG X) hX hb hc hM ⟨hS.2.1, hS.1, trivial⟩ hq)) (Nat.le_of_ble_eq_true rfl) (Nat.le_of_ble_eq_true rfl) rfl rfl rfl (fun M12 => ?_)
  refine i_aload_n C dX0_become_126 rfl (q := 0) rfl ?_
  refine i_getR C (k := 12) kX0 dX0_become_127 (shP_0 hX hb) rfl (by decide) fl_X0_73 ?_
  refine i_aload_n C dX0_become_130 rfl (q := 1) rfl ?_
  refine i_getR C (k := 12) kX0 dX0_become_131 (shP_0 hX hc) rfl (by decide) fl_X0_73 ?_
  refine i_cV (kc' := 0) (ks' := 0) 0 0 2 (fun q hq hM hS => crV C (as := [aR (c + 53)]) dX0_become_134.1 kX2 (shP_53 hX hb) ml_X0_104 cal_X2_become cv_X2_become (hRm ⟨Nat.le_of_ble_eq_true rfl, Nat.le_of_ble_eq_true rfl⟩) rfl (Nat.le_of_ble_eq_true rfl) (c_X2_become (xl X) (xG X) hX hb hc hM ⟨hS.2.1, hS.1, trivial⟩ hq)) (Nat.le_of_ble_eq_true rfl) (Nat.le_of_ble_eq_true rfl) rfl rfl rfl (fun M13 => ?_)
  refine i_aload_n C dX0_become_137 rfl (q := 0) rfl ?_
  refine i_getR C (k := 13) kX0 dX0_become_138 (shP_0 hX hb) rfl (by decide) fl_X0_80 ?_
  refine i_aload_n C dX0_become_141 rfl (q := 1) rfl ?_
  refine i_getR C (k := 13) kX0 dX0_become_142 (shP_0 hX hc) rfl (by decide) fl_X0_80 ?_
  refine i_cV (kc' := 0) (ks' := 0) 0 0 2 (fun q hq hM hS => crV C (as := [aR (c + 57)]) dX0_become_145.1 kX1 (shP_57 hX hb) ml_X0_107 cal_X1_become cv_X1_become (hRm ⟨Nat.le_of_ble_eq_true rfl, Nat.le_of_ble_eq_true rfl⟩) rfl (Nat.le_of_ble_eq_true rfl) (c_X1_become (xl X) (xG X) hX hb hc hM ⟨hS.2.1, hS.1, trivial⟩ hq)) (Nat.le_of_ble_eq_true rfl) (Nat.le_of_ble_eq_true rfl) rfl rfl rfl (fun M14 => ?_)
  exact i_vret C hq dX0_become_148
set_option maxRecDepth 100000 in
set_option maxHeartbeats 4000000 in
theorem c_X0_day (l : Launch) (G : Gx) {K : Kx} (hK : K = kP) {b : Nat} (hb : isC b) {M : Mem} {res : Int × Mem} (hM : OkM M) (ha : okS [aR b]) (hF : pCity_day b M = some res) : Ct l G K yX0_day (wsM yX0_day cX0_day 1 (some .int)) rmX0_day [aR b] M (some (aI res.1)) res.2 := by
  refine ct_of RX0 (by decide +kernel) rfl (hK ▸ kP_ok) hM ha (Nat.le_of_ble_eq_true rfl) hF ?_
  intro X C hl hG hX0 hN hR hq
  have hX : xK X = kP := hX0.trans hK
  show Im X 0 0 0 [(0, aR b)] [] M res (pCity_day b M)
  unfold pCity_day
  refine i_aload_n C dX0_day_0 rfl (q := 0) rfl ?_
  refine i_getI C (k := 0) kX0 dX0_day_1 (shP_0 hX hb) rfl (by decide) fl_X0_9 rfl ?_
  refine i_bipush C dX0_day_4 kB_24 ?_
  refine i_idiv C dX0_day_6 (by decide) ?_
  exact i_iret C hq dX0_day_7
set_option maxRecDepth 100000 in
set_option maxHeartbeats 4000000 in
theorem c_X0_hasCell (l : Launch) (G : Gx) {K : Kx} (hK : K = kP) {b : Nat} {x1 : Int} (hb : isC b) {M : Mem} {res : Int × Mem} (hM : OkM M) (ha : okS [aR b, aI x1]) (hF : pCity_hasCell b x1 M = some res) : Ct l G K yX0_hasCell (wsM yX0_hasCell cX0_hasCell 2 (some .boolean)) rmX0_hasCell [aR b, aI x1] M (some (aI res.1)) res.2 := by
  refine ct_of RX0 (by decide +kernel) rfl (hK ▸ kP_ok) hM ha (Nat.le_of_ble_eq_true rfl) hF ?_
  intro X C hl hG hX0 hN hR hq
  have hX : xK X = kP := hX0.trans hK
  show Im X 0 0 0 [(0, aR b), (1, aI x1)] [] M res (pCity_hasCell b x1 M)
  unfold pCity_hasCell
  refine i_iload_n C dX0_hasCell_0 rfl (q := 1) rfl ?_
  refine i_if_lt (tgt := 16) C dX0_hasCell_1 (by decide) ?_ ?_
  · refine i_iconst C dX0_hasCell_16 kI_0 ?_
    exact i_zret C hq dX0_hasCell_17 (Or.inl rfl)
  · refine i_iload_n C dX0_hasCell_4 rfl (q := 1) rfl ?_
    refine i_aload_n C dX0_hasCell_5 rfl (q := 0) rfl ?_
    refine i_getI C (k := 1) kX0 dX0_hasCell_6 (shP_0 hX hb) rfl (by decide) fl_X0_15 rfl ?_
    refine i_icmp_ge (tgt := 16) C dX0_hasCell_9 (by decide) ?_ ?_
    · refine i_iconst C dX0_hasCell_16 kI_0 ?_
      exact i_zret C hq dX0_hasCell_17 (Or.inl rfl)
    · refine i_iconst C dX0_hasCell_12 kI_1 ?_
      refine i_goto (tgt := 17) C dX0_hasCell_13 (by decide) ?_
      exact i_zret C hq dX0_hasCell_17 (Or.inr rfl)
set_option maxRecDepth 100000 in
set_option maxHeartbeats 4000000 in
theorem c_X0_addCell (l : Launch) (G : Gx) {K : Kx} (hK : K = kP) {b : Nat} {x1 : Int} (hb : isC b) {M : Mem} {res : Int × Mem} (hM : OkM M) (ha : okS [aR b, aI x1]) (hF : pCity_addCell b x1 M = some res) : Ct l G K yX0_addCell (wsM yX0_addCell cX0_addCell 2 (some .int)) rmX0_addCell [aR b, aI x1] M (some (aI res.1)) res.2 := by
  refine ct_of RX0 (by decide +kernel) rfl (hK ▸ kP_ok) hM ha (Nat.le_of_ble_eq_true rfl) hF ?_
  intro X C hl hG hX0 hN hR hq
  have hX : xK X = kP := hX0.trans hK
  show Im X 0 0 0 [(0, aR b), (1, aI x1)] [] M res (pCity_addCell b x1 M)
  unfold pCity_addCell
  refine i_aload_n C dX0_addCell_0 rfl (q := 0) rfl ?_
  refine i_getR C (k := 2) kX0 dX0_addCell_1 (shP_0 hX hb) rfl (by decide) fl_X0_18 ?_
  refine i_aload_n C dX0_addCell_4 rfl (q := 0) rfl ?_
  refine i_getI C (k := 1) kX0 dX0_addCell_5 (shP_0 hX hb) rfl (by decide) fl_X0_15 rfl ?_
  refine i_iload_n C dX0_addCell_8 rfl (q := 1) rfl ?_
  refine i_ast C dX0_addCell_9 (shP_1 hX hb) (fun M1 => ?_)
  refine i_aload_n C dX0_addCell_10 rfl (q := 0) rfl ?_
  refine i_getR C (k := 3) kX0 dX0_addCell_11 (shP_0 hX hb) rfl (by decide) fl_X0_22 ?_
  refine i_aload_n C dX0_addCell_14 rfl (q := 0) rfl ?_
  refine i_getI C (k := 1) kX0 dX0_addCell_15 (shP_0 hX hb) rfl (by decide) fl_X0_15 rfl ?_
  refine i_iconst C dX0_addCell_18 kI_0 ?_
  refine i_ast C dX0_addCell_19 (shP_2 hX hb) (fun M2 => ?_)
  refine i_aload_n C dX0_addCell_20 rfl (q := 0) rfl ?_
  refine i_getR C (k := 4) kX0 dX0_addCell_21 (shP_0 hX hb) rfl (by decide) fl_X0_25 ?_
  refine i_aload_n C dX0_addCell_24 rfl (q := 0) rfl ?_
  refine i_getI C (k := 1) kX0 dX0_addCell_25 (shP_0 hX hb) rfl (by decide) fl_X0_15 rfl ?_
  refine i_iconst C dX0_addCell_28 kI_0 ?_
  refine i_ast C dX0_addCell_29 (shP_3 hX hb) (fun M3 => ?_)
  refine i_aload_n C dX0_addCell_30 rfl (q := 0) rfl ?_
  refine i_dup C dX0_addCell_31 rfl ?_
  refine i_getI C (k := 1) kX0 dX0_addCell_32 (shP_0 hX hb) rfl (by decide) fl_X0_15 rfl ?_
  refine i_dup_x1 C dX0_addCell_35 rfl rfl ?_
  refine i_iconst C dX0_addCell_36 kI_1 ?_
  refine i_iadd C dX0_addCell_37 ?_
  refine i_putI C (k := 1) kX0 dX0_addCell_38 (shP_0 hX hb) rfl (by decide) fl_X0_15 rfl rfl rfl rfl (fun M4 => ?_)
  exact i_iret C hq dX0_addCell_41
set_option maxRecDepth 100000 in
set_option maxHeartbeats 4000000 in
theorem c_X0_sideOf (l : Launch) (G : Gx) {K : Kx} (hK : K = kP) {b : Nat} {x1 : Int} (hb : isC b) {M : Mem} {res : Int × Mem} (hM : OkM M) (ha : okS [aR b, aI x1]) (hF : pCity_sideOf b x1 M = some res) : Ct l G K yX0_sideOf (wsM yX0_sideOf cX0_sideOf 2 (some .int)) rmX0_sideOf [aR b, aI x1] M (some (aI res.1)) res.2 := by
  refine ct_of RX0 (by decide +kernel) rfl (hK ▸ kP_ok) hM ha (Nat.le_of_ble_eq_true rfl) hF ?_
  intro X C hl hG hX0 hN hR hq
  have hX : xK X = kP := hX0.trans hK
  show Im X 0 0 0 [(0, aR b), (1, aI x1)] [] M res (pCity_sideOf b x1 M)
  unfold pCity_sideOf
  refine i_aload_n C dX0_sideOf_0 rfl (q := 0) rfl ?_
  refine i_getR C (k := 2) kX0 dX0_sideOf_1 (shP_0 hX hb) rfl (by decide) fl_X0_18 ?_
  refine i_aload_n C dX0_sideOf_4 rfl (q := 0) rfl ?_
  refine i_getR C (k := 7) kX0 dX0_sideOf_5 (shP_0 hX hb) rfl (by decide) fl_X0_38 ?_
  refine i_getR C (k := 1) kX6 dX0_sideOf_8 (shP_6 hX hb) rfl (by decide) fl_X0_110 ?_
  refine i_iload_n C dX0_sideOf_11 rfl (q := 1) rfl ?_
  refine i_ald C dX0_sideOf_12 (shP_7 hX hb) (fun v1 => ?_)
  refine i_ald C dX0_sideOf_13 (shP_1 hX hb) (fun v2 => ?_)
  exact i_iret C hq dX0_sideOf_14
set_option maxRecDepth 100000 in
set_option maxHeartbeats 4000000 in
theorem c_X0_isAbroad (l : Launch) (G : Gx) {K : Kx} (hK : K = kP) {b : Nat} {x1 : Int} (hb : isC b) {M : Mem} {res : Int × Mem} (hM : OkM M) (ha : okS [aR b, aI x1]) (hF : pCity_isAbroad b x1 M = some res) : Ct l G K yX0_isAbroad (wsM yX0_isAbroad cX0_isAbroad 3 (some .boolean)) rmX0_isAbroad [aR b, aI x1] M (some (aI res.1)) res.2 := by
  refine ct_of RX0 (by decide +kernel) rfl (hK ▸ kP_ok) hM ha (Nat.le_of_ble_eq_true rfl) hF ?_
  intro X C hl hG hX0 hN hR hq
  have hX : xK X = kP := hX0.trans hK
  show Im X 0 0 0 [(0, aR b), (1, aI x1)] [] M res (pCity_isAbroad b x1 M)
  unfold pCity_isAbroad
  have hl2 : 2 < xn X := by rw [hN]; decide
  have hRm : ∀ {rm : Room} {ny : Nat}, RmOk rmX0_isAbroad rm ny → RmOk (xR X) rm ny := fun h => by rw [hR]; exact h
  refine i_aload_n C dX0_isAbroad_0 rfl (q := 0) rfl ?_
  refine i_getR C (k := 7) kX0 dX0_isAbroad_1 (shP_0 hX hb) rfl (by decide) fl_X0_38 ?_
  refine i_getR C (k := 4) kX6 dX0_isAbroad_4 (shP_6 hX hb) rfl (by decide) fl_X0_113 ?_
  refine i_iload_n C dX0_isAbroad_7 rfl (q := 1) rfl ?_
  refine i_ald C dX0_isAbroad_8 (shP_10 hX hb) (fun v1 => ?_)
  refine i_istore_n C dX0_isAbroad_9 rfl hl2 (L' := [(0, aR b), (1, aI x1), (2, aI v1)]) rfl ?_
  refine i_iload_n C dX0_isAbroad_10 rfl (q := 2) rfl ?_
  refine i_ldc C dX0_isAbroad_11 kc_X0_28 kI_m1000000005 ?_
  refine i_icmp_eq (tgt := 34) C dX0_isAbroad_13 (by decide) ?_ ?_
  · refine i_iconst C dX0_isAbroad_34 kI_0 ?_
    exact i_zret C hq dX0_isAbroad_35 (Or.inl rfl)
  · refine i_aload_n C dX0_isAbroad_16 rfl (q := 0) rfl ?_
    refine i_getR C (k := 2) kX0 dX0_isAbroad_17 (shP_0 hX hb) rfl (by decide) fl_X0_18 ?_
    refine i_iload_n C dX0_isAbroad_20 rfl (q := 2) rfl ?_
    refine i_ald C dX0_isAbroad_21 (shP_1 hX hb) (fun v2 => ?_)
    refine i_aload_n C dX0_isAbroad_22 rfl (q := 0) rfl ?_
    refine i_iload_n C dX0_isAbroad_23 rfl (q := 1) rfl ?_
    refine i_cI (kc' := 0) (ks' := 0) 0 0 2 (fun q hq hM hS => crV C (as := [aI x1]) dX0_isAbroad_24.1 kX0 (shP_0 hX hb) ml_X0_116 cal_X0_sideOf cv_X0_sideOf (hRm ⟨Nat.le_of_ble_eq_true rfl, Nat.le_of_ble_eq_true rfl⟩) rfl (Nat.le_of_ble_eq_true rfl) (c_X0_sideOf (xl X) (xG X) hX hb hM ⟨hS.2.1, hS.1, trivial⟩ hq)) (Nat.le_of_ble_eq_true rfl) (Nat.le_of_ble_eq_true rfl) rfl rfl rfl (fun v4 M3 => ?_)
    refine i_icmp_eq (tgt := 34) C dX0_isAbroad_27 (by decide) ?_ ?_
    · refine i_iconst C dX0_isAbroad_34 kI_0 ?_
      exact i_zret C hq dX0_isAbroad_35 (Or.inl rfl)
    · refine i_iconst C dX0_isAbroad_30 kI_1 ?_
      refine i_goto (tgt := 35) C dX0_isAbroad_31 (by decide) ?_
      exact i_zret C hq dX0_isAbroad_35 (Or.inr rfl)
set_option maxRecDepth 100000 in
set_option maxHeartbeats 4000000 in
theorem w_X0_visitors_4 {X : Xc} (C : Cx X RX0 cX0_visitors (some .int)) (hX : xK X = kP) (hN : xn X = 3) (hR : xR X = rmX0_visitors) {b : Nat} (hb : isC b) {res : Int × Mem} (hq : Rq X (some (aI res.1)) res.2) : ∀ (n : Nat) (u1 : Int) (u2 : Int) (M : Mem), Im X 0 0 4 [(0, aR b), (1, aI u1), (2, aI u2)] [] M res (lpX0_visitors_4 b n u1 u2 M) := by
  have hl1 : 1 < xn X := by rw [hN]; decide
  have hl2 : 2 < xn X := by rw [hN]; decide
  have hRm : ∀ {rm : Room} {ny : Nat}, RmOk rmX0_visitors rm ny → RmOk (xR X) rm ny := fun h => by rw [hR]; exact h
  intro n
  induction n with
  | zero => intro _ _ _; exact i_none
  | succ n ih =>
    intro u1 u2 M
    unfold lpX0_visitors_4
    refine i_iload_n C dX0_visitors_4 rfl (q := 2) rfl ?_
    refine i_aload_n C dX0_visitors_5 rfl (q := 0) rfl ?_
    refine i_getR C (k := 7) kX0 dX0_visitors_6 (shP_0 hX hb) rfl (by decide) fl_X0_38 ?_
    refine i_getI C (k := 0) kX6 dX0_visitors_9 (shP_6 hX hb) rfl (by decide) fl_X0_120 rfl ?_
    refine i_icmp_ge (tgt := 32) C dX0_visitors_12 (by decide) ?_ ?_
    · refine i_iload_n C dX0_visitors_32 rfl (q := 1) rfl ?_
      exact i_iret C hq dX0_visitors_33
    · refine i_aload_n C dX0_visitors_15 rfl (q := 0) rfl ?_
      refine i_iload_n C dX0_visitors_16 rfl (q := 2) rfl ?_
      refine i_cI (kc' := 0) (ks' := 0) 0 0 2 (fun q hq hM hS => crV C (as := [aI u2]) dX0_visitors_17.1 kX0 (shP_0 hX hb) ml_X0_123 cal_X0_isAbroad cv_X0_isAbroad (hRm ⟨Nat.le_of_ble_eq_true rfl, Nat.le_of_ble_eq_true rfl⟩) rfl (Nat.le_of_ble_eq_true rfl) (c_X0_isAbroad (xl X) (xG X) hX hb hM ⟨hS.2.1, hS.1, trivial⟩ hq)) (Nat.le_of_ble_eq_true rfl) (Nat.le_of_ble_eq_true rfl) rfl rfl rfl (fun v2 M1 => ?_)
      refine i_jn (fun j => ∀ (p3 : Int) (M5 : Mem), Im X 0 0 26 [(0, aR b), (1, aI p3), (2, aI u2)] [] M5 res (j p3 M5)) ?_ (fun j4 hj4 => ?_)
      · intro p3 M5
        refine i_iincN (L' := fun v6 => [(0, aR b), (1, aI p3), (2, aI v6)]) C dX0_visitors_26 (q := 2) rfl hl2 (fun _ => rfl) (fun v6 => ?_)
        refine i_goto (tgt := 4) C dX0_visitors_29 (by decide) ?_
        exact (ih p3 v6 M5)
      refine i_if_eq (tgt := 26) C dX0_visitors_20 (by decide) ?_ ?_
      · exact (hj4 u1 M1)
      · refine i_iincN (L' := fun v7 => [(0, aR b), (1, aI v7), (2, aI u2)]) C dX0_visitors_23 (q := 1) rfl hl1 (fun _ => rfl) (fun v7 => ?_)
        exact (hj4 v7 M1)
set_option maxRecDepth 100000 in
set_option maxHeartbeats 4000000 in
theorem c_X0_visitors (l : Launch) (G : Gx) {K : Kx} (hK : K = kP) {b : Nat} (hb : isC b) {M : Mem} {res : Int × Mem} (hM : OkM M) (ha : okS [aR b]) (hF : pCity_visitors b M = some res) : Ct l G K yX0_visitors (wsM yX0_visitors cX0_visitors 3 (some .int)) rmX0_visitors [aR b] M (some (aI res.1)) res.2 := by
  refine ct_of RX0 (by decide +kernel) rfl (hK ▸ kP_ok) hM ha (Nat.le_of_ble_eq_true rfl) hF ?_
  intro X C hl hG hX0 hN hR hq
  have hX : xK X = kP := hX0.trans hK
  show Im X 0 0 0 [(0, aR b)] [] M res (pCity_visitors b M)
  unfold pCity_visitors
  have hl1 : 1 < xn X := by rw [hN]; decide
  have hl2 : 2 < xn X := by rw [hN]; decide
  have hRm : ∀ {rm : Room} {ny : Nat}, RmOk rmX0_visitors rm ny → RmOk (xR X) rm ny := fun h => by rw [hR]; exact h
  refine i_iconst C dX0_visitors_0 kI_0 ?_
  refine i_istore_n C dX0_visitors_1 rfl hl1 (L' := [(0, aR b), (1, aI 0)]) rfl ?_
  refine i_iconst C dX0_visitors_2 kI_0 ?_
  refine i_istore_n C dX0_visitors_3 rfl hl2 (L' := [(0, aR b), (1, aI 0), (2, aI 0)]) rfl ?_
  exact (w_X0_visitors_4 C hX hN hR hb hq FU 0 0 M)
set_option maxRecDepth 100000 in
set_option maxHeartbeats 4000000 in
theorem w_X0_usesOf_4 {X : Xc} (C : Cx X RX0 cX0_usesOf (some .int)) (hX : xK X = kP) (hN : xn X = 4) (hR : xR X = rmX0_usesOf) {b : Nat} (hb : isC b) {res : Int × Mem} (hq : Rq X (some (aI res.1)) res.2) (y1 : Int) : ∀ (n : Nat) (u2 : Int) (u3 : Int) (M : Mem), Im X 0 0 4 [(0, aR b), (1, aI y1), (2, aI u2), (3, aI u3)] [] M res (lpX0_usesOf_4 b y1 n u2 u3 M) := by
  have hl2 : 2 < xn X := by rw [hN]; decide
  have hl3 : 3 < xn X := by rw [hN]; decide
  intro n
  induction n with
  | zero => intro _ _ _; exact i_none
  | succ n ih =>
    intro u2 u3 M
    unfold lpX0_usesOf_4
    refine i_iload_n C dX0_usesOf_4 rfl (q := 3) rfl ?_
    refine i_aload_n C dX0_usesOf_5 rfl (q := 0) rfl ?_
    refine i_getI C (k := 1) kX0 dX0_usesOf_6 (shP_0 hX hb) rfl (by decide) fl_X0_15 rfl ?_
    refine i_icmp_ge (tgt := 37) C dX0_usesOf_9 (by decide) ?_ ?_
    · refine i_iload_n C dX0_usesOf_37 rfl (q := 2) rfl ?_
      exact i_iret C hq dX0_usesOf_38
    · refine i_aload_n C dX0_usesOf_12 rfl (q := 0) rfl ?_
      refine i_getR C (k := 2) kX0 dX0_usesOf_13 (shP_0 hX hb) rfl (by decide) fl_X0_18 ?_
      refine i_iload_n C dX0_usesOf_16 rfl (q := 3) rfl ?_
      refine i_ald C dX0_usesOf_17 (shP_1 hX hb) (fun v1 => ?_)
      refine i_iload_n C dX0_usesOf_18 rfl (q := 1) rfl ?_
      refine i_jn (fun j => ∀ (p2 : Int) (M4 : Mem), Im X 0 0 31 [(0, aR b), (1, aI y1), (2, aI p2), (3, aI u3)] [] M4 res (j p2 M4)) ?_ (fun j3 hj3 => ?_)
      · intro p2 M4
        refine i_iincN (L' := fun v5 => [(0, aR b), (1, aI y1), (2, aI p2), (3, aI v5)]) C dX0_usesOf_31 (q := 3) rfl hl3 (fun _ => rfl) (fun v5 => ?_)
        refine i_goto (tgt := 4) C dX0_usesOf_34 (by decide) ?_
        exact (ih p2 v5 M4)
      refine i_icmp_ne (tgt := 31) C dX0_usesOf_19 (by decide) ?_ ?_
      · exact (hj3 u2 M)
      · refine i_iload_n C dX0_usesOf_22 rfl (q := 2) rfl ?_
        refine i_aload_n C dX0_usesOf_23 rfl (q := 0) rfl ?_
        refine i_getR C (k := 3) kX0 dX0_usesOf_24 (shP_0 hX hb) rfl (by decide) fl_X0_22 ?_
        refine i_iload_n C dX0_usesOf_27 rfl (q := 3) rfl ?_
        refine i_ald C dX0_usesOf_28 (shP_2 hX hb) (fun v6 => ?_)
        refine i_iadd C dX0_usesOf_29 ?_
        refine i_nm (fun v7 => ?_)
        refine i_istore_n C dX0_usesOf_30 rfl hl2 (L' := [(0, aR b), (1, aI y1), (2, aI v7), (3, aI u3)]) rfl ?_
        exact (hj3 v7 M)
set_option maxRecDepth 100000 in
set_option maxHeartbeats 4000000 in
theorem c_X0_usesOf (l : Launch) (G : Gx) {K : Kx} (hK : K = kP) {b : Nat} {x1 : Int} (hb : isC b) {M : Mem} {res : Int × Mem} (hM : OkM M) (ha : okS [aR b, aI x1]) (hF : pCity_usesOf b x1 M = some res) : Ct l G K yX0_usesOf (wsM yX0_usesOf cX0_usesOf 4 (some .int)) rmX0_usesOf [aR b, aI x1] M (some (aI res.1)) res.2 := by
  refine ct_of RX0 (by decide +kernel) rfl (hK ▸ kP_ok) hM ha (Nat.le_of_ble_eq_true rfl) hF ?_
  intro X C hl hG hX0 hN hR hq
  have hX : xK X = kP := hX0.trans hK
  show Im X 0 0 0 [(0, aR b), (1, aI x1)] [] M res (pCity_usesOf b x1 M)
  unfold pCity_usesOf
  have hl2 : 2 < xn X := by rw [hN]; decide
  have hl3 : 3 < xn X := by rw [hN]; decide
  refine i_iconst C dX0_usesOf_0 kI_0 ?_
  refine i_istore_n C dX0_usesOf_1 rfl hl2 (L' := [(0, aR b), (1, aI x1), (2, aI 0)]) rfl ?_
  refine i_iconst C dX0_usesOf_2 kI_0 ?_
  refine i_istore_n C dX0_usesOf_3 rfl hl3 (L' := [(0, aR b), (1, aI x1), (2, aI 0), (3, aI 0)]) rfl ?_
  exact (w_X0_usesOf_4 C hX hN hR hb hq x1 FU 0 0 M)
set_option maxRecDepth 100000 in
set_option maxHeartbeats 4000000 in
theorem w_X6_linedAt_4 {X : Xc} (C : Cx X RX6 cX6_linedAt (some .int)) (hX : xK X = kP) (hN : xn X = 4) (hR : xR X = rmX6_linedAt) {b : Nat} (hb : isC b) {res : Int × Mem} (hq : Rq X (some (aI res.1)) res.2) (y1 : Int) : ∀ (n : Nat) (u2 : Int) (u3 : Int) (M : Mem), Im X 0 0 4 [(0, aR (b + 6)), (1, aI y1), (2, aI u2), (3, aI u3)] [] M res (lpX6_linedAt_4 b y1 n u2 u3 M) := by
  have hl2 : 2 < xn X := by rw [hN]; decide
  have hl3 : 3 < xn X := by rw [hN]; decide
  intro n
  induction n with
  | zero => intro _ _ _; exact i_none
  | succ n ih =>
    intro u2 u3 M
    unfold lpX6_linedAt_4
    refine i_iload_n C dX6_linedAt_4 rfl (q := 3) rfl ?_
    refine i_aload_n C dX6_linedAt_5 rfl (q := 0) rfl ?_
    refine i_getI C (k := 8) kX6 dX6_linedAt_6 (shP_6 hX hb) rfl (by decide) fl_X6_37 rfl ?_
    refine i_icmp_ge (tgt := 36) C dX6_linedAt_9 (by decide) ?_ ?_
    · refine i_iload_n C dX6_linedAt_36 rfl (q := 2) rfl ?_
      exact i_iret C hq dX6_linedAt_37
    · refine i_aload_n C dX6_linedAt_12 rfl (q := 0) rfl ?_
      refine i_getR C (k := 5) kX6 dX6_linedAt_13 (shP_6 hX hb) rfl (by decide) fl_X6_28 ?_
      refine i_aload_n C dX6_linedAt_16 rfl (q := 0) rfl ?_
      refine i_getR C (k := 7) kX6 dX6_linedAt_17 (shP_6 hX hb) rfl (by decide) fl_X6_34 ?_
      refine i_iload_n C dX6_linedAt_20 rfl (q := 3) rfl ?_
      refine i_ald C dX6_linedAt_21 (shP_13 hX hb) (fun v1 => ?_)
      refine i_ald C dX6_linedAt_22 (shP_11 hX hb) (fun v2 => ?_)
      refine i_iload_n C dX6_linedAt_23 rfl (q := 1) rfl ?_
      refine i_jn (fun j => ∀ (p3 : Int) (M5 : Mem), Im X 0 0 30 [(0, aR (b + 6)), (1, aI y1), (2, aI p3), (3, aI u3)] [] M5 res (j p3 M5)) ?_ (fun j4 hj4 => ?_)
      · intro p3 M5
        refine i_iincN (L' := fun v6 => [(0, aR (b + 6)), (1, aI y1), (2, aI p3), (3, aI v6)]) C dX6_linedAt_30 (q := 3) rfl hl3 (fun _ => rfl) (fun v6 => ?_)
        refine i_goto (tgt := 4) C dX6_linedAt_33 (by decide) ?_
        exact (ih p3 v6 M5)
      refine i_icmp_ne (tgt := 30) C dX6_linedAt_24 (by decide) ?_ ?_
      · exact (hj4 u2 M)
      · refine i_iincN (L' := fun v7 => [(0, aR (b + 6)), (1, aI y1), (2, aI v7), (3, aI u3)]) C dX6_linedAt_27 (q := 2) rfl hl2 (fun _ => rfl) (fun v7 => ?_)
        exact (hj4 v7 M)
set_option maxRecDepth 100000 in
set_option maxHeartbeats 4000000 in
theorem c_X6_linedAt (l : Launch) (G : Gx) {K : Kx} (hK : K = kP) {b : Nat} {x1 : Int} (hb : isC b) {M : Mem} {res : Int × Mem} (hM : OkM M) (ha : okS [aR (b + 6), aI x1]) (hF : pPersons_linedAt b x1 M = some res) : Ct l G K yX6_linedAt (wsM yX6_linedAt cX6_linedAt 4 (some .int)) rmX6_linedAt [aR (b + 6), aI x1] M (some (aI res.1)) res.2 := by
  refine ct_of RX6 (by decide +kernel) rfl (hK ▸ kP_ok) hM ha (Nat.le_of_ble_eq_true rfl) hF ?_
  intro X C hl hG hX0 hN hR hq
  have hX : xK X = kP := hX0.trans hK
  show Im X 0 0 0 [(0, aR (b + 6)), (1, aI x1)] [] M res (pPersons_linedAt b x1 M)
  unfold pPersons_linedAt
  have hl2 : 2 < xn X := by rw [hN]; decide
  have hl3 : 3 < xn X := by rw [hN]; decide
  refine i_iconst C dX6_linedAt_0 kI_0 ?_
  refine i_istore_n C dX6_linedAt_1 rfl hl2 (L' := [(0, aR (b + 6)), (1, aI x1), (2, aI 0)]) rfl ?_
  refine i_iconst C dX6_linedAt_2 kI_0 ?_
  refine i_istore_n C dX6_linedAt_3 rfl hl3 (L' := [(0, aR (b + 6)), (1, aI x1), (2, aI 0), (3, aI 0)]) rfl ?_
  exact (w_X6_linedAt_4 C hX hN hR hb hq x1 FU 0 0 M)
set_option maxRecDepth 100000 in
set_option maxHeartbeats 4000000 in
theorem w_X7_callsFor_4 {X : Xc} (C : Cx X RX7 cX7_callsFor (some .int)) (hX : xK X = kP) (hN : xn X = 4) (hR : xR X = rmX7_callsFor) {b : Nat} (hb : isC b) {res : Int × Mem} (hq : Rq X (some (aI res.1)) res.2) (y1 : Int) : ∀ (n : Nat) (u2 : Int) (u3 : Int) (M : Mem), Im X 0 0 4 [(0, aR (b + 30)), (1, aI y1), (2, aI u2), (3, aI u3)] [] M res (lpX7_callsFor_4 b y1 n u2 u3 M) := by
  have hl2 : 2 < xn X := by rw [hN]; decide
  have hl3 : 3 < xn X := by rw [hN]; decide
  intro n
  induction n with
  | zero => intro _ _ _; exact i_none
  | succ n ih =>
    intro u2 u3 M
    unfold lpX7_callsFor_4
    refine i_iload_n C dX7_callsFor_4 rfl (q := 3) rfl ?_
    refine i_aload_n C dX7_callsFor_5 rfl (q := 0) rfl ?_
    refine i_getI C (k := 4) kX7 dX7_callsFor_6 (shP_30 hX hb) rfl (by decide) fl_X7_25 rfl ?_
    refine i_icmp_ge (tgt := 31) C dX7_callsFor_9 (by decide) ?_ ?_
    · refine i_iload_n C dX7_callsFor_31 rfl (q := 2) rfl ?_
      exact i_iret C hq dX7_callsFor_32
    · refine i_aload_n C dX7_callsFor_12 rfl (q := 0) rfl ?_
      refine i_getR C (k := 5) kX7 dX7_callsFor_13 (shP_30 hX hb) rfl (by decide) fl_X7_28 ?_
      refine i_iload_n C dX7_callsFor_16 rfl (q := 3) rfl ?_
      refine i_ald C dX7_callsFor_17 (shP_34 hX hb) (fun v1 => ?_)
      refine i_iload_n C dX7_callsFor_18 rfl (q := 1) rfl ?_
      refine i_jn (fun j => ∀ (p2 : Int) (M4 : Mem), Im X 0 0 25 [(0, aR (b + 30)), (1, aI y1), (2, aI p2), (3, aI u3)] [] M4 res (j p2 M4)) ?_ (fun j3 hj3 => ?_)
      · intro p2 M4
        refine i_iincN (L' := fun v5 => [(0, aR (b + 30)), (1, aI y1), (2, aI p2), (3, aI v5)]) C dX7_callsFor_25 (q := 3) rfl hl3 (fun _ => rfl) (fun v5 => ?_)
        refine i_goto (tgt := 4) C dX7_callsFor_28 (by decide) ?_
        exact (ih p2 v5 M4)
      refine i_icmp_ne (tgt := 25) C dX7_callsFor_19 (by decide) ?_ ?_
      · exact (hj3 u2 M)
      · refine i_iincN (L' := fun v6 => [(0, aR (b + 30)), (1, aI y1), (2, aI v6), (3, aI u3)]) C dX7_callsFor_22 (q := 2) rfl hl2 (fun _ => rfl) (fun v6 => ?_)
        exact (hj3 v6 M)
set_option maxRecDepth 100000 in
set_option maxHeartbeats 4000000 in
theorem c_X7_callsFor (l : Launch) (G : Gx) {K : Kx} (hK : K = kP) {b : Nat} {x1 : Int} (hb : isC b) {M : Mem} {res : Int × Mem} (hM : OkM M) (ha : okS [aR (b + 30), aI x1]) (hF : pPost_callsFor b x1 M = some res) : Ct l G K yX7_callsFor (wsM yX7_callsFor cX7_callsFor 4 (some .int)) rmX7_callsFor [aR (b + 30), aI x1] M (some (aI res.1)) res.2 := by
  refine ct_of RX7 (by decide +kernel) rfl (hK ▸ kP_ok) hM ha (Nat.le_of_ble_eq_true rfl) hF ?_
  intro X C hl hG hX0 hN hR hq
  have hX : xK X = kP := hX0.trans hK
  show Im X 0 0 0 [(0, aR (b + 30)), (1, aI x1)] [] M res (pPost_callsFor b x1 M)
  unfold pPost_callsFor
  have hl2 : 2 < xn X := by rw [hN]; decide
  have hl3 : 3 < xn X := by rw [hN]; decide
  refine i_iconst C dX7_callsFor_0 kI_0 ?_
  refine i_istore_n C dX7_callsFor_1 rfl hl2 (L' := [(0, aR (b + 30)), (1, aI x1), (2, aI 0)]) rfl ?_
  refine i_iconst C dX7_callsFor_2 kI_0 ?_
  refine i_istore_n C dX7_callsFor_3 rfl hl3 (L' := [(0, aR (b + 30)), (1, aI x1), (2, aI 0), (3, aI 0)]) rfl ?_
  exact (w_X7_callsFor_4 C hX hN hR hb hq x1 FU 0 0 M)
set_option maxRecDepth 100000 in
set_option maxHeartbeats 4000000 in
theorem c_X0_waitingFor (l : Launch) (G : Gx) {K : Kx} (hK : K = kP) {b : Nat} {x1 : Int} (hb : isC b) {M : Mem} {res : Int × Mem} (hM : OkM M) (ha : okS [aR b, aI x1]) (hF : pCity_waitingFor b x1 M = some res) : Ct l G K yX0_waitingFor (wsM yX0_waitingFor cX0_waitingFor 2 (some .int)) rmX0_waitingFor [aR b, aI x1] M (some (aI res.1)) res.2 := by
  refine ct_of RX0 (by decide +kernel) rfl (hK ▸ kP_ok) hM ha (Nat.le_of_ble_eq_true rfl) hF ?_
  intro X C hl hG hX0 hN hR hq
  have hX : xK X = kP := hX0.trans hK
  show Im X 0 0 0 [(0, aR b), (1, aI x1)] [] M res (pCity_waitingFor b x1 M)
  unfold pCity_waitingFor
  have hRm : ∀ {rm : Room} {ny : Nat}, RmOk rmX0_waitingFor rm ny → RmOk (xR X) rm ny := fun h => by rw [hR]; exact h
  refine i_aload_n C dX0_waitingFor_0 rfl (q := 0) rfl ?_
  refine i_getR C (k := 8) kX0 dX0_waitingFor_1 (shP_0 hX hb) rfl (by decide) fl_X0_45 ?_
  refine i_getR C (k := 1) kX9 dX0_waitingFor_4 (shP_15 hX hb) rfl (by decide) fl_X0_127 ?_
  refine i_iload_n C dX0_waitingFor_7 rfl (q := 1) rfl ?_
  refine i_ald C dX0_waitingFor_8 (shP_16 hX hb) (fun v1 => ?_)
  refine i_iconst C dX0_waitingFor_9 kI_1 ?_
  refine i_icmp_ne (tgt := 22) C dX0_waitingFor_10 (by decide) ?_ ?_
  · refine i_aload_n C dX0_waitingFor_22 rfl (q := 0) rfl ?_
    refine i_getR C (k := 8) kX0 dX0_waitingFor_23 (shP_0 hX hb) rfl (by decide) fl_X0_45 ?_
    refine i_getR C (k := 1) kX9 dX0_waitingFor_26 (shP_15 hX hb) rfl (by decide) fl_X0_127 ?_
    refine i_iload_n C dX0_waitingFor_29 rfl (q := 1) rfl ?_
    refine i_ald C dX0_waitingFor_30 (shP_16 hX hb) (fun v2 => ?_)
    refine i_iconst C dX0_waitingFor_31 kI_4 ?_
    refine i_icmp_ne (tgt := 46) C dX0_waitingFor_32 (by decide) ?_ ?_
    · refine i_iconst C dX0_waitingFor_46 kI_0 ?_
      exact i_iret C hq dX0_waitingFor_47
    · refine i_aload_n C dX0_waitingFor_35 rfl (q := 0) rfl ?_
      refine i_getR C (k := 9) kX0 dX0_waitingFor_36 (shP_0 hX hb) rfl (by decide) fl_X0_52 ?_
      refine i_iload_n C dX0_waitingFor_39 rfl (q := 1) rfl ?_
      refine i_cI (kc' := 0) (ks' := 0) 0 0 2 (fun q hq hM hS => crV C (as := [aI x1]) dX0_waitingFor_40.1 kX7 (shP_30 hX hb) ml_X0_133 cal_X7_callsFor cv_X7_callsFor (hRm ⟨Nat.le_of_ble_eq_true rfl, Nat.le_of_ble_eq_true rfl⟩) rfl (Nat.le_of_ble_eq_true rfl) (c_X7_callsFor (xl X) (xG X) hX hb hM ⟨hS.2.1, hS.1, trivial⟩ hq)) (Nat.le_of_ble_eq_true rfl) (Nat.le_of_ble_eq_true rfl) rfl rfl rfl (fun v4 M3 => ?_)
      refine i_goto (tgt := 47) C dX0_waitingFor_43 (by decide) ?_
      exact i_iret C hq dX0_waitingFor_47
  · refine i_aload_n C dX0_waitingFor_13 rfl (q := 0) rfl ?_
    refine i_getR C (k := 7) kX0 dX0_waitingFor_14 (shP_0 hX hb) rfl (by decide) fl_X0_38 ?_
    refine i_iload_n C dX0_waitingFor_17 rfl (q := 1) rfl ?_
    refine i_cI (kc' := 0) (ks' := 0) 0 0 2 (fun q hq hM hS => crV C (as := [aI x1]) dX0_waitingFor_18.1 kX6 (shP_6 hX hb) ml_X0_130 cal_X6_linedAt cv_X6_linedAt (hRm ⟨Nat.le_of_ble_eq_true rfl, Nat.le_of_ble_eq_true rfl⟩) rfl (Nat.le_of_ble_eq_true rfl) (c_X6_linedAt (xl X) (xG X) hX hb hM ⟨hS.2.1, hS.1, trivial⟩ hq)) (Nat.le_of_ble_eq_true rfl) (Nat.le_of_ble_eq_true rfl) rfl rfl rfl (fun v6 M5 => ?_)
    exact i_iret C hq dX0_waitingFor_21
set_option maxRecDepth 100000 in
set_option maxHeartbeats 4000000 in
theorem w_X6_leaveLine_4 {X : Xc} (C : Cx X RX6 cX6_leaveLine none) (hX : xK X = kP) (hN : xn X = 4) (hR : xR X = rmX6_leaveLine) {b : Nat} (hb : isC b) {res : Mem} (hq : Rq X none res) (y1 : Int) {k43 : Int → Mem → Option (Mem)} (hk43 : ∀ (q2 : Int) (M : Mem), Im X 0 0 43 [(0, aR (b + 6)), (1, aI y1), (2, aI q2)] [] M res (k43 q2 M)) : ∀ (n : Nat) (u2 : Int) (u3 : Int) (M : Mem), Im X 0 0 4 [(0, aR (b + 6)), (1, aI y1), (2, aI u2), (3, aI u3)] [] M res (lpX6_leaveLine_4 b y1 k43 n u2 u3 M) := by
  have hl2 : 2 < xn X := by rw [hN]; decide
  have hl3 : 3 < xn X := by rw [hN]; decide
  intro n
  induction n with
  | zero => intro _ _ _; exact i_none
  | succ n ih =>
    intro u2 u3 M
    unfold lpX6_leaveLine_4
    refine i_iload_n C dX6_leaveLine_4 rfl (q := 3) rfl ?_
    refine i_aload_n C dX6_leaveLine_5 rfl (q := 0) rfl ?_
    refine i_getI C (k := 8) kX6 dX6_leaveLine_6 (shP_6 hX hb) rfl (by decide) fl_X6_37 rfl ?_
    refine i_icmp_ge (tgt := 43) C dX6_leaveLine_9 (by decide) ?_ ?_
    · exact i_sub [0, 1, 2] rfl (hk43 u2 M)
    · refine i_aload_n C dX6_leaveLine_12 rfl (q := 0) rfl ?_
      refine i_getR C (k := 7) kX6 dX6_leaveLine_13 (shP_6 hX hb) rfl (by decide) fl_X6_34 ?_
      refine i_iload_n C dX6_leaveLine_16 rfl (q := 3) rfl ?_
      refine i_ald C dX6_leaveLine_17 (shP_13 hX hb) (fun v1 => ?_)
      refine i_iload_n C dX6_leaveLine_18 rfl (q := 1) rfl ?_
      refine i_jn (fun j => ∀ (p2 : Int) (M4 : Mem), Im X 0 0 37 [(0, aR (b + 6)), (1, aI y1), (2, aI p2), (3, aI u3)] [] M4 res (j p2 M4)) ?_ (fun j3 hj3 => ?_)
      · intro p2 M4
        refine i_iincN (L' := fun v5 => [(0, aR (b + 6)), (1, aI y1), (2, aI p2), (3, aI v5)]) C dX6_leaveLine_37 (q := 3) rfl hl3 (fun _ => rfl) (fun v5 => ?_)
        refine i_goto (tgt := 4) C dX6_leaveLine_40 (by decide) ?_
        exact (ih p2 v5 M4)
      refine i_icmp_eq (tgt := 37) C dX6_leaveLine_19 (by decide) ?_ ?_
      · exact (hj3 u2 M)
      · refine i_aload_n C dX6_leaveLine_22 rfl (q := 0) rfl ?_
        refine i_getR C (k := 7) kX6 dX6_leaveLine_23 (shP_6 hX hb) rfl (by decide) fl_X6_34 ?_
        refine i_iload_n C dX6_leaveLine_26 rfl (q := 2) rfl ?_
        refine i_iincN (L' := fun v6 => [(0, aR (b + 6)), (1, aI y1), (2, aI v6), (3, aI u3)]) C dX6_leaveLine_27 (q := 2) rfl hl2 (fun _ => rfl) (fun v6 => ?_)
        refine i_aload_n C dX6_leaveLine_30 rfl (q := 0) rfl ?_
        refine i_getR C (k := 7) kX6 dX6_leaveLine_31 (shP_6 hX hb) rfl (by decide) fl_X6_34 ?_
        refine i_iload_n C dX6_leaveLine_34 rfl (q := 3) rfl ?_
        refine i_ald C dX6_leaveLine_35 (shP_13 hX hb) (fun v7 => ?_)
        refine i_ast C dX6_leaveLine_36 (shP_13 hX hb) (fun M8 => ?_)
        exact (hj3 v6 M8)
set_option maxRecDepth 100000 in
set_option maxHeartbeats 4000000 in
theorem c_X6_leaveLine (l : Launch) (G : Gx) {K : Kx} (hK : K = kP) {b : Nat} {x1 : Int} (hb : isC b) {M : Mem} {res : Mem} (hM : OkM M) (ha : okS [aR (b + 6), aI x1]) (hF : pPersons_leaveLine b x1 M = some res) : Ct l G K yX6_leaveLine (wsM yX6_leaveLine cX6_leaveLine 4 none) rmX6_leaveLine [aR (b + 6), aI x1] M none res := by
  refine ct_of RX6 (by decide +kernel) rfl (hK ▸ kP_ok) hM ha (Nat.le_of_ble_eq_true rfl) hF ?_
  intro X C hl hG hX0 hN hR hq
  have hX : xK X = kP := hX0.trans hK
  show Im X 0 0 0 [(0, aR (b + 6)), (1, aI x1)] [] M res (pPersons_leaveLine b x1 M)
  unfold pPersons_leaveLine
  have hl2 : 2 < xn X := by rw [hN]; decide
  have hl3 : 3 < xn X := by rw [hN]; decide
  refine i_iconst C dX6_leaveLine_0 kI_0 ?_
  refine i_istore_n C dX6_leaveLine_1 rfl hl2 (L' := [(0, aR (b + 6)), (1, aI x1), (2, aI 0)]) rfl ?_
  refine i_iconst C dX6_leaveLine_2 kI_0 ?_
  refine i_istore_n C dX6_leaveLine_3 rfl hl3 (L' := [(0, aR (b + 6)), (1, aI x1), (2, aI 0), (3, aI 0)]) rfl ?_
  refine (w_X6_leaveLine_4 C hX hN hR hb hq x1 (fun v9 M10 => ?_) FU 0 0 M)
  refine i_aload_n C dX6_leaveLine_43 rfl (q := 0) rfl ?_
  refine i_iload_n C dX6_leaveLine_44 rfl (q := 2) rfl ?_
  refine i_putI C (k := 8) kX6 dX6_leaveLine_45 (shP_6 hX hb) rfl (by decide) fl_X6_37 rfl rfl rfl rfl (fun M11 => ?_)
  refine i_aload_n C dX6_leaveLine_48 rfl (q := 0) rfl ?_
  refine i_getR C (k := 5) kX6 dX6_leaveLine_49 (shP_6 hX hb) rfl (by decide) fl_X6_28 ?_
  refine i_iload_n C dX6_leaveLine_52 rfl (q := 1) rfl ?_
  refine i_ldc C dX6_leaveLine_53 kc_X6_50 kI_m1000000005 ?_
  refine i_ast C dX6_leaveLine_55 (shP_11 hX hb) (fun M12 => ?_)
  refine i_aload_n C dX6_leaveLine_56 rfl (q := 0) rfl ?_
  refine i_getR C (k := 6) kX6 dX6_leaveLine_57 (shP_6 hX hb) rfl (by decide) fl_X6_31 ?_
  refine i_iload_n C dX6_leaveLine_60 rfl (q := 1) rfl ?_
  refine i_ldc C dX6_leaveLine_61 kc_X6_50 kI_m1000000005 ?_
  refine i_ast C dX6_leaveLine_63 (shP_12 hX hb) (fun M13 => ?_)
  exact i_vret C hq dX6_leaveLine_64
set_option maxRecDepth 100000 in
set_option maxHeartbeats 4000000 in
theorem c_X6_bury (l : Launch) (G : Gx) {K : Kx} (hK : K = kP) {b : Nat} {x1 : Int} {x2 : Int} (hb : isC b) {M : Mem} {res : Mem} (hM : OkM M) (ha : okS [aR (b + 6), aI x1, aI x2]) (hF : pPersons_bury b x1 x2 M = some res) : Ct l G K yX6_bury (wsM yX6_bury cX6_bury 3 none) rmX6_bury [aR (b + 6), aI x1, aI x2] M none res := by
  refine ct_of RX6 (by decide +kernel) rfl (hK ▸ kP_ok) hM ha (Nat.le_of_ble_eq_true rfl) hF ?_
  intro X C hl hG hX0 hN hR hq
  have hX : xK X = kP := hX0.trans hK
  show Im X 0 0 0 [(0, aR (b + 6)), (1, aI x1), (2, aI x2)] [] M res (pPersons_bury b x1 x2 M)
  unfold pPersons_bury
  have hRm : ∀ {rm : Room} {ny : Nat}, RmOk rmX6_bury rm ny → RmOk (xR X) rm ny := fun h => by rw [hR]; exact h
  refine i_aload_n C dX6_bury_0 rfl (q := 0) rfl ?_
  refine i_iload_n C dX6_bury_1 rfl (q := 1) rfl ?_
  refine i_cV (kc' := 0) (ks' := 0) 0 0 2 (fun q hq hM hS => crV C (as := [aI x1]) dX6_bury_2.1 kX6 (shP_6 hX hb) ml_X6_51 cal_X6_leaveLine cv_X6_leaveLine (hRm ⟨Nat.le_of_ble_eq_true rfl, Nat.le_of_ble_eq_true rfl⟩) rfl (Nat.le_of_ble_eq_true rfl) (c_X6_leaveLine (xl X) (xG X) hX hb hM ⟨hS.2.1, hS.1, trivial⟩ hq)) (Nat.le_of_ble_eq_true rfl) (Nat.le_of_ble_eq_true rfl) rfl rfl rfl (fun M1 => ?_)
  refine i_aload_n C dX6_bury_5 rfl (q := 0) rfl ?_
  refine i_getR C (k := 4) kX6 dX6_bury_6 (shP_6 hX hb) rfl (by decide) fl_X6_25 ?_
  refine i_iload_n C dX6_bury_9 rfl (q := 1) rfl ?_
  refine i_ldc C dX6_bury_10 kc_X6_50 kI_m1000000005 ?_
  refine i_ast C dX6_bury_12 (shP_10 hX hb) (fun M2 => ?_)
  refine i_aload_n C dX6_bury_13 rfl (q := 0) rfl ?_
  refine i_dup C dX6_bury_14 rfl ?_
  refine i_getI C (k := 9) kX6 dX6_bury_15 (shP_6 hX hb) rfl (by decide) fl_X6_40 rfl ?_
  refine i_iconst C dX6_bury_18 kI_1 ?_
  refine i_iload_n C dX6_bury_19 rfl (q := 1) rfl ?_
  refine i_ishl C dX6_bury_20 ?_
  refine i_ior C dX6_bury_21 ?_
  refine i_putI C (k := 9) kX6 dX6_bury_22 (shP_6 hX hb) rfl (by decide) fl_X6_40 rfl rfl rfl rfl (fun M3 => ?_)
  refine i_aload_n C dX6_bury_25 rfl (q := 0) rfl ?_
  refine i_getR C (k := 10) kX6 dX6_bury_26 (shP_6 hX hb) rfl (by decide) fl_X6_43 ?_
  refine i_iload_n C dX6_bury_29 rfl (q := 2) rfl ?_
  refine i_dup2 C dX6_bury_30 rfl rfl ?_
  refine i_ald C dX6_bury_31 (shP_14 hX hb) (fun v4 => ?_)
  refine i_iconst C dX6_bury_32 kI_1 ?_
  refine i_iload_n C dX6_bury_33 rfl (q := 1) rfl ?_
  refine i_ishl C dX6_bury_34 ?_
  refine i_ior C dX6_bury_35 ?_
  refine i_ast C dX6_bury_36 (shP_14 hX hb) (fun M5 => ?_)
  exact i_vret C hq dX6_bury_37
set_option maxRecDepth 100000 in
set_option maxHeartbeats 4000000 in
theorem c_X0_loses (l : Launch) (G : Gx) {K : Kx} (hK : K = kP) {b : Nat} {x1 : Int} (hb : isC b) {M : Mem} {res : Mem} (hM : OkM M) (ha : okS [aR b, aI x1]) (hF : pCity_loses b x1 M = some res) : Ct l G K yX0_loses (wsM yX0_loses cX0_loses 3 none) rmX0_loses [aR b, aI x1] M none res := by
  refine ct_of RX0 (by decide +kernel) rfl (hK ▸ kP_ok) hM ha (Nat.le_of_ble_eq_true rfl) hF ?_
  intro X C hl hG hX0 hN hR hq
  have hX : xK X = kP := hX0.trans hK
  show Im X 0 0 0 [(0, aR b), (1, aI x1)] [] M res (pCity_loses b x1 M)
  unfold pCity_loses
  have hl2 : 2 < xn X := by rw [hN]; decide
  have hRm : ∀ {rm : Room} {ny : Nat}, RmOk rmX0_loses rm ny → RmOk (xR X) rm ny := fun h => by rw [hR]; exact h
  refine i_aload_n C dX0_loses_0 rfl (q := 0) rfl ?_
  refine i_getR C (k := 7) kX0 dX0_loses_1 (shP_0 hX hb) rfl (by decide) fl_X0_38 ?_
  refine i_getR C (k := 4) kX6 dX0_loses_4 (shP_6 hX hb) rfl (by decide) fl_X0_113 ?_
  refine i_iload_n C dX0_loses_7 rfl (q := 1) rfl ?_
  refine i_ald C dX0_loses_8 (shP_10 hX hb) (fun v1 => ?_)
  refine i_istore_n C dX0_loses_9 rfl hl2 (L' := [(0, aR b), (1, aI x1), (2, aI v1)]) rfl ?_
  refine i_aload_n C dX0_loses_10 rfl (q := 0) rfl ?_
  refine i_getR C (k := 7) kX0 dX0_loses_11 (shP_0 hX hb) rfl (by decide) fl_X0_38 ?_
  refine i_iload_n C dX0_loses_14 rfl (q := 1) rfl ?_
  refine i_iload_n C dX0_loses_15 rfl (q := 2) rfl ?_
  refine i_ldc C dX0_loses_16 kc_X0_28 kI_m1000000005 ?_
  refine i_jn (fun j => ∀ (p2 : Int) (M4 : Mem), Im X 0 0 35 [] [aI p2, aI x1, aR (b + 6)] M4 res (j p2 M4)) ?_ (fun j3 hj3 => ?_)
  · intro p2 M4
    refine i_cV (kc' := 0) (ks' := 0) 0 0 3 (fun q hq hM hS => crV C (as := [aI x1, aI p2]) dX0_loses_35.1 kX6 (shP_6 hX hb) ml_X0_136 cal_X6_bury cv_X6_bury (hRm ⟨Nat.le_of_ble_eq_true rfl, Nat.le_of_ble_eq_true rfl⟩) rfl (Nat.le_of_ble_eq_true rfl) (c_X6_bury (xl X) (xG X) hX hb hM ⟨hS.2.2.1, hS.2.1, hS.1, trivial⟩ hq)) (Nat.le_of_ble_eq_true rfl) (Nat.le_of_ble_eq_true rfl) rfl rfl rfl (fun M5 => ?_)
    exact i_vret C hq dX0_loses_38
  refine i_icmp_ne (tgt := 29) C dX0_loses_18 (by decide) ?_ ?_
  · refine i_aload_n C dX0_loses_29 rfl (q := 0) rfl ?_
    refine i_getR C (k := 2) kX0 dX0_loses_30 (shP_0 hX hb) rfl (by decide) fl_X0_18 ?_
    refine i_iload_n C dX0_loses_33 rfl (q := 2) rfl ?_
    refine i_ald C dX0_loses_34 (shP_1 hX hb) (fun v6 => ?_)
    exact i_sub [] rfl (hj3 v6 M)
  · refine i_aload_n C dX0_loses_21 rfl (q := 0) rfl ?_
    refine i_iload_n C dX0_loses_22 rfl (q := 1) rfl ?_
    refine i_cI (kc' := 0) (ks' := 0) 0 0 2 (fun q hq hM hS => crV C (as := [aI x1]) dX0_loses_23.1 kX0 (shP_0 hX hb) ml_X0_116 cal_X0_sideOf cv_X0_sideOf (hRm ⟨Nat.le_of_ble_eq_true rfl, Nat.le_of_ble_eq_true rfl⟩) rfl (Nat.le_of_ble_eq_true rfl) (c_X0_sideOf (xl X) (xG X) hX hb hM ⟨hS.2.1, hS.1, trivial⟩ hq)) (Nat.le_of_ble_eq_true rfl) (Nat.le_of_ble_eq_true rfl) rfl rfl rfl (fun v8 M7 => ?_)
    refine i_goto (tgt := 35) C dX0_loses_26 (by decide) ?_
    exact i_sub [] rfl (hj3 v8 M7)
set_option maxRecDepth 100000 in
set_option maxHeartbeats 4000000 in
theorem c_X6_goHome (l : Launch) (G : Gx) {K : Kx} (hK : K = kP) {b : Nat} {x1 : Int} (hb : isC b) {M : Mem} {res : Mem} (hM : OkM M) (ha : okS [aR (b + 6), aI x1]) (hF : pPersons_goHome b x1 M = some res) : Ct l G K yX6_goHome (wsM yX6_goHome cX6_goHome 2 none) rmX6_goHome [aR (b + 6), aI x1] M none res := by
  refine ct_of RX6 (by decide +kernel) rfl (hK ▸ kP_ok) hM ha (Nat.le_of_ble_eq_true rfl) hF ?_
  intro X C hl hG hX0 hN hR hq
  have hX : xK X = kP := hX0.trans hK
  show Im X 0 0 0 [(0, aR (b + 6)), (1, aI x1)] [] M res (pPersons_goHome b x1 M)
  unfold pPersons_goHome
  have hRm : ∀ {rm : Room} {ny : Nat}, RmOk rmX6_goHome rm ny → RmOk (xR X) rm ny := fun h => by rw [hR]; exact h
  refine i_aload_n C dX6_goHome_0 rfl (q := 0) rfl ?_
  refine i_iload_n C dX6_goHome_1 rfl (q := 1) rfl ?_
  refine i_cV (kc' := 0) (ks' := 0) 0 0 2 (fun q hq hM hS => crV C (as := [aI x1]) dX6_goHome_2.1 kX6 (shP_6 hX hb) ml_X6_51 cal_X6_leaveLine cv_X6_leaveLine (hRm ⟨Nat.le_of_ble_eq_true rfl, Nat.le_of_ble_eq_true rfl⟩) rfl (Nat.le_of_ble_eq_true rfl) (c_X6_leaveLine (xl X) (xG X) hX hb hM ⟨hS.2.1, hS.1, trivial⟩ hq)) (Nat.le_of_ble_eq_true rfl) (Nat.le_of_ble_eq_true rfl) rfl rfl rfl (fun M1 => ?_)
  refine i_aload_n C dX6_goHome_5 rfl (q := 0) rfl ?_
  refine i_getR C (k := 4) kX6 dX6_goHome_6 (shP_6 hX hb) rfl (by decide) fl_X6_25 ?_
  refine i_iload_n C dX6_goHome_9 rfl (q := 1) rfl ?_
  refine i_aload_n C dX6_goHome_10 rfl (q := 0) rfl ?_
  refine i_getR C (k := 1) kX6 dX6_goHome_11 (shP_6 hX hb) rfl (by decide) fl_X6_15 ?_
  refine i_iload_n C dX6_goHome_14 rfl (q := 1) rfl ?_
  refine i_ald C dX6_goHome_15 (shP_7 hX hb) (fun v2 => ?_)
  refine i_ast C dX6_goHome_16 (shP_10 hX hb) (fun M3 => ?_)
  exact i_vret C hq dX6_goHome_17
set_option maxRecDepth 100000 in
set_option maxHeartbeats 4000000 in
theorem c_X0_closePass (l : Launch) (G : Gx) {K : Kx} (hK : K = kP) {b : Nat} {x1 : Int} {x2 : Int} (hb : isC b) {M : Mem} {res : Mem} (hM : OkM M) (ha : okS [aR b, aI x1, aI x2]) (hF : pCity_closePass b x1 x2 M = some res) : Ct l G K yX0_closePass (wsM yX0_closePass cX0_closePass 4 none) rmX0_closePass [aR b, aI x1, aI x2] M none res := by
  refine ct_of RX0 (by decide +kernel) rfl (hK ▸ kP_ok) hM ha (Nat.le_of_ble_eq_true rfl) hF ?_
  intro X C hl hG hX0 hN hR hq
  have hX : xK X = kP := hX0.trans hK
  show Im X 0 0 0 [(0, aR b), (1, aI x1), (2, aI x2)] [] M res (pCity_closePass b x1 x2 M)
  unfold pCity_closePass
  have hl3 : 3 < xn X := by rw [hN]; decide
  have hRm : ∀ {rm : Room} {ny : Nat}, RmOk rmX0_closePass rm ny → RmOk (xR X) rm ny := fun h => by rw [hR]; exact h
  refine i_aload_n C dX0_closePass_0 rfl (q := 0) rfl ?_
  refine i_getR C (k := 8) kX0 dX0_closePass_1 (shP_0 hX hb) rfl (by decide) fl_X0_45 ?_
  refine i_getR C (k := 2) kX9 dX0_closePass_4 (shP_15 hX hb) rfl (by decide) fl_X0_140 ?_
  refine i_iload_n C dX0_closePass_7 rfl (q := 1) rfl ?_
  refine i_ald C dX0_closePass_8 (shP_17 hX hb) (fun v1 => ?_)
  refine i_istore_n C dX0_closePass_9 rfl hl3 (L' := [(0, aR b), (1, aI x1), (2, aI x2), (3, aI v1)]) rfl ?_
  refine i_aload_n C dX0_closePass_10 rfl (q := 0) rfl ?_
  refine i_getR C (k := 8) kX0 dX0_closePass_11 (shP_0 hX hb) rfl (by decide) fl_X0_45 ?_
  refine i_getR C (k := 7) kX9 dX0_closePass_14 (shP_15 hX hb) rfl (by decide) fl_X0_143 ?_
  refine i_iload_n C dX0_closePass_17 rfl (q := 1) rfl ?_
  refine i_iload_n C dX0_closePass_18 rfl (q := 2) rfl ?_
  refine i_ast C dX0_closePass_19 (shP_22 hX hb) (fun M2 => ?_)
  refine i_aload_n C dX0_closePass_20 rfl (q := 0) rfl ?_
  refine i_getR C (k := 7) kX0 dX0_closePass_21 (shP_0 hX hb) rfl (by decide) fl_X0_38 ?_
  refine i_getR C (k := 6) kX6 dX0_closePass_24 (shP_6 hX hb) rfl (by decide) fl_X0_146 ?_
  refine i_iload_n C dX0_closePass_27 rfl (q := 3) rfl ?_
  refine i_ald C dX0_closePass_28 (shP_12 hX hb) (fun v3 => ?_)
  refine i_iload_n C dX0_closePass_29 rfl (q := 1) rfl ?_
  refine i_icmp_ne (tgt := 41) C dX0_closePass_30 (by decide) ?_ ?_
  · exact i_vret C hq dX0_closePass_41
  · refine i_aload_n C dX0_closePass_33 rfl (q := 0) rfl ?_
    refine i_getR C (k := 7) kX0 dX0_closePass_34 (shP_0 hX hb) rfl (by decide) fl_X0_38 ?_
    refine i_iload_n C dX0_closePass_37 rfl (q := 3) rfl ?_
    refine i_cV (kc' := 0) (ks' := 0) 0 0 2 (fun q hq hM hS => crV C (as := [aI v1]) dX0_closePass_38.1 kX6 (shP_6 hX hb) ml_X0_149 cal_X6_goHome cv_X6_goHome (hRm ⟨Nat.le_of_ble_eq_true rfl, Nat.le_of_ble_eq_true rfl⟩) rfl (Nat.le_of_ble_eq_true rfl) (c_X6_goHome (xl X) (xG X) hX hb hM ⟨hS.2.1, hS.1, trivial⟩ hq)) (Nat.le_of_ble_eq_true rfl) (Nat.le_of_ble_eq_true rfl) rfl rfl rfl (fun M4 => ?_)
    exact i_vret C hq dX0_closePass_41
set_option maxRecDepth 100000 in
set_option maxHeartbeats 4000000 in
theorem w_X7_deliver_5 {X : Xc} (C : Cx X RX7 cX7_deliver none) (hX : xK X = kP) (hN : xn X = 5) (hR : xR X = rmX7_deliver) {b : Nat} (hb : isC b) {res : Mem} (hq : Rq X none res) (y1 : Int) {k98 : Int → Mem → Option (Mem)} (hk98 : ∀ (q3 : Int) (M : Mem), Im X 0 0 98 [(0, aR (b + 30)), (3, aI q3)] [] M res (k98 q3 M)) : ∀ (n : Nat) (u3 : Int) (u4 : Int) (M : Mem), Im X 0 0 5 [(0, aR (b + 30)), (1, aI y1), (2, aR (b + 6)), (3, aI u3), (4, aI u4)] [] M res (lpX7_deliver_5 b y1 k98 n u3 u4 M) := by
  have hl3 : 3 < xn X := by rw [hN]; decide
  have hl4 : 4 < xn X := by rw [hN]; decide
  intro n
  induction n with
  | zero => intro _ _ _; exact i_none
  | succ n ih =>
    intro u3 u4 M
    unfold lpX7_deliver_5
    refine i_iload C dX7_deliver_5 (q := 4) rfl ?_
    refine i_aload_n C dX7_deliver_7 rfl (q := 0) rfl ?_
    refine i_getI C (k := 0) kX7 dX7_deliver_8 (shP_30 hX hb) rfl (by decide) fl_X7_9 rfl ?_
    refine i_icmp_ge (tgt := 98) C dX7_deliver_11 (by decide) ?_ ?_
    · exact i_sub [0, 3] rfl (hk98 u3 M)
    · refine i_aload_n C dX7_deliver_14 rfl (q := 0) rfl ?_
      refine i_getR C (k := 1) kX7 dX7_deliver_15 (shP_30 hX hb) rfl (by decide) fl_X7_15 ?_
      refine i_iload C dX7_deliver_18 (q := 4) rfl ?_
      refine i_ald C dX7_deliver_20 (shP_31 hX hb) (fun v1 => ?_)
      refine i_iload_n C dX7_deliver_21 rfl (q := 1) rfl ?_
      refine i_jn (fun j => ∀ (p2 : Int) (M4 : Mem), Im X 0 0 92 [(0, aR (b + 30)), (1, aI y1), (2, aR (b + 6)), (3, aI p2), (4, aI u4)] [] M4 res (j p2 M4)) ?_ (fun j3 hj3 => ?_)
      · intro p2 M4
        refine i_iincN (L' := fun v5 => [(0, aR (b + 30)), (1, aI y1), (2, aR (b + 6)), (3, aI p2), (4, aI v5)]) C dX7_deliver_92 (q := 4) rfl hl4 (fun _ => rfl) (fun v5 => ?_)
        refine i_goto (tgt := 5) C dX7_deliver_95 (by decide) ?_
        exact (ih p2 v5 M4)
      refine i_icmp_gt (tgt := 50) C dX7_deliver_22 (by decide) ?_ ?_
      · refine i_aload_n C dX7_deliver_50 rfl (q := 0) rfl ?_
        refine i_getR C (k := 1) kX7 dX7_deliver_51 (shP_30 hX hb) rfl (by decide) fl_X7_15 ?_
        refine i_iload_n C dX7_deliver_54 rfl (q := 3) rfl ?_
        refine i_aload_n C dX7_deliver_55 rfl (q := 0) rfl ?_
        refine i_getR C (k := 1) kX7 dX7_deliver_56 (shP_30 hX hb) rfl (by decide) fl_X7_15 ?_
        refine i_iload C dX7_deliver_59 (q := 4) rfl ?_
        refine i_ald C dX7_deliver_61 (shP_31 hX hb) (fun v6 => ?_)
        refine i_ast C dX7_deliver_62 (shP_31 hX hb) (fun M7 => ?_)
        refine i_aload_n C dX7_deliver_63 rfl (q := 0) rfl ?_
        refine i_getR C (k := 2) kX7 dX7_deliver_64 (shP_30 hX hb) rfl (by decide) fl_X7_19 ?_
        refine i_iload_n C dX7_deliver_67 rfl (q := 3) rfl ?_
        refine i_aload_n C dX7_deliver_68 rfl (q := 0) rfl ?_
        refine i_getR C (k := 2) kX7 dX7_deliver_69 (shP_30 hX hb) rfl (by decide) fl_X7_19 ?_
        refine i_iload C dX7_deliver_72 (q := 4) rfl ?_
        refine i_ald C dX7_deliver_74 (shP_32 hX hb) (fun v8 => ?_)
        refine i_ast C dX7_deliver_75 (shP_32 hX hb) (fun M9 => ?_)
        refine i_aload_n C dX7_deliver_76 rfl (q := 0) rfl ?_
        refine i_getR C (k := 3) kX7 dX7_deliver_77 (shP_30 hX hb) rfl (by decide) fl_X7_22 ?_
        refine i_iload_n C dX7_deliver_80 rfl (q := 3) rfl ?_
        refine i_aload_n C dX7_deliver_81 rfl (q := 0) rfl ?_
        refine i_getR C (k := 3) kX7 dX7_deliver_82 (shP_30 hX hb) rfl (by decide) fl_X7_22 ?_
        refine i_iload C dX7_deliver_85 (q := 4) rfl ?_
        refine i_ald C dX7_deliver_87 (shP_33 hX hb) (fun v10 => ?_)
        refine i_ast C dX7_deliver_88 (shP_33 hX hb) (fun M11 => ?_)
        refine i_iincN (L' := fun v12 => [(0, aR (b + 30)), (1, aI y1), (2, aR (b + 6)), (3, aI v12), (4, aI u4)]) C dX7_deliver_89 (q := 3) rfl hl3 (fun _ => rfl) (fun v12 => ?_)
        exact (hj3 v12 M11)
      · refine i_aload_n C dX7_deliver_25 rfl (q := 2) rfl ?_
        refine i_getR C (k := 10) kX6 dX7_deliver_26 (shP_6 hX hb) rfl (by decide) fl_X7_41 ?_
        refine i_aload_n C dX7_deliver_29 rfl (q := 0) rfl ?_
        refine i_getR C (k := 2) kX7 dX7_deliver_30 (shP_30 hX hb) rfl (by decide) fl_X7_19 ?_
        refine i_iload C dX7_deliver_33 (q := 4) rfl ?_
        refine i_ald C dX7_deliver_35 (shP_32 hX hb) (fun v13 => ?_)
        refine i_dup2 C dX7_deliver_36 rfl rfl ?_
        refine i_ald C dX7_deliver_37 (shP_14 hX hb) (fun v14 => ?_)
        refine i_aload_n C dX7_deliver_38 rfl (q := 0) rfl ?_
        refine i_getR C (k := 3) kX7 dX7_deliver_39 (shP_30 hX hb) rfl (by decide) fl_X7_22 ?_
        refine i_iload C dX7_deliver_42 (q := 4) rfl ?_
        refine i_ald C dX7_deliver_44 (shP_33 hX hb) (fun v15 => ?_)
        refine i_ior C dX7_deliver_45 ?_
        refine i_ast C dX7_deliver_46 (shP_14 hX hb) (fun M16 => ?_)
        refine i_goto (tgt := 92) C dX7_deliver_47 (by decide) ?_
        exact (hj3 u3 M16)
set_option maxRecDepth 100000 in
set_option maxHeartbeats 4000000 in
theorem c_X7_deliver (l : Launch) (G : Gx) {K : Kx} (hK : K = kP) {b : Nat} {x1 : Int} (hb : isC b) {M : Mem} {res : Mem} (hM : OkM M) (ha : okS [aR (b + 30), aI x1, aR (b + 6)]) (hF : pPost_deliver b x1 M = some res) : Ct l G K yX7_deliver (wsM yX7_deliver cX7_deliver 5 none) rmX7_deliver [aR (b + 30), aI x1, aR (b + 6)] M none res := by
  refine ct_of RX7 (by decide +kernel) rfl (hK ▸ kP_ok) hM ha (Nat.le_of_ble_eq_true rfl) hF ?_
  intro X C hl hG hX0 hN hR hq
  have hX : xK X = kP := hX0.trans hK
  show Im X 0 0 0 [(0, aR (b + 30)), (1, aI x1), (2, aR (b + 6))] [] M res (pPost_deliver b x1 M)
  unfold pPost_deliver
  have hl3 : 3 < xn X := by rw [hN]; decide
  have hl4 : 4 < xn X := by rw [hN]; decide
  refine i_iconst C dX7_deliver_0 kI_0 ?_
  refine i_istore_n C dX7_deliver_1 rfl hl3 (L' := [(0, aR (b + 30)), (1, aI x1), (2, aR (b + 6)), (3, aI 0)]) rfl ?_
  refine i_iconst C dX7_deliver_2 kI_0 ?_
  refine i_istore C dX7_deliver_3 hl4 (L' := [(0, aR (b + 30)), (1, aI x1), (2, aR (b + 6)), (3, aI 0), (4, aI 0)]) rfl ?_
  refine (w_X7_deliver_5 C hX hN hR hb hq x1 (fun v17 M18 => ?_) FU 0 0 M)
  refine i_aload_n C dX7_deliver_98 rfl (q := 0) rfl ?_
  refine i_iload_n C dX7_deliver_99 rfl (q := 1) rfl ?_
  refine i_putI C (k := 0) kX7 dX7_deliver_100 (shP_30 hX hb) rfl (by decide) fl_X7_9 rfl rfl rfl rfl (fun M19 => ?_)
  exact i_vret C hq dX7_deliver_103
set_option maxRecDepth 100000 in
set_option maxHeartbeats 4000000 in
theorem c_X9_isOpenAt (l : Launch) (G : Gx) {K : Kx} (hK : K = kP) {b : Nat} {x1 : Int} {x2 : Int} (hb : isC b) {M : Mem} {res : Int × Mem} (hM : OkM M) (ha : okS [aR (b + 15), aI x1, aI x2]) (hF : pTies_isOpenAt b x1 x2 M = some res) : Ct l G K yX9_isOpenAt (wsM yX9_isOpenAt cX9_isOpenAt 5 (some .boolean)) rmX9_isOpenAt [aR (b + 15), aI x1, aI x2] M (some (aI res.1)) res.2 := by
  refine ct_of RX9 (by decide +kernel) rfl (hK ▸ kP_ok) hM ha (Nat.le_of_ble_eq_true rfl) hF ?_
  intro X C hl hG hX0 hN hR hq
  have hX : xK X = kP := hX0.trans hK
  show Im X 0 0 0 [(0, aR (b + 15)), (1, aI x1), (2, aI x2)] [] M res (pTies_isOpenAt b x1 x2 M)
  unfold pTies_isOpenAt
  have hl3 : 3 < xn X := by rw [hN]; decide
  have hl4 : 4 < xn X := by rw [hN]; decide
  refine i_aload_n C dX9_isOpenAt_0 rfl (q := 0) rfl ?_
  refine i_getR C (k := 5) kX9 dX9_isOpenAt_1 (shP_15 hX hb) rfl (by decide) fl_X9_28 ?_
  refine i_iload_n C dX9_isOpenAt_4 rfl (q := 1) rfl ?_
  refine i_ald C dX9_isOpenAt_5 (shP_20 hX hb) (fun v1 => ?_)
  refine i_istore_n C dX9_isOpenAt_6 rfl hl3 (L' := [(0, aR (b + 15)), (1, aI x1), (2, aI x2), (3, aI v1)]) rfl ?_
  refine i_aload_n C dX9_isOpenAt_7 rfl (q := 0) rfl ?_
  refine i_getR C (k := 6) kX9 dX9_isOpenAt_8 (shP_15 hX hb) rfl (by decide) fl_X9_31 ?_
  refine i_iload_n C dX9_isOpenAt_11 rfl (q := 1) rfl ?_
  refine i_ald C dX9_isOpenAt_12 (shP_21 hX hb) (fun v2 => ?_)
  refine i_istore C dX9_isOpenAt_13 hl4 (L' := [(0, aR (b + 15)), (1, aI x1), (2, aI x2), (3, aI v1), (4, aI v2)]) rfl ?_
  refine i_iload_n C dX9_isOpenAt_15 rfl (q := 3) rfl ?_
  refine i_iload C dX9_isOpenAt_16 (q := 4) rfl ?_
  refine i_icmp_gt (tgt := 40) C dX9_isOpenAt_18 (by decide) ?_ ?_
  · refine i_iload_n C dX9_isOpenAt_40 rfl (q := 2) rfl ?_
    refine i_iload_n C dX9_isOpenAt_41 rfl (q := 3) rfl ?_
    refine i_icmp_ge (tgt := 51) C dX9_isOpenAt_42 (by decide) ?_ ?_
    · refine i_iconst C dX9_isOpenAt_51 kI_1 ?_
      refine i_goto (tgt := 56) C dX9_isOpenAt_52 (by decide) ?_
      exact i_zret C hq dX9_isOpenAt_56 (Or.inr rfl)
    · refine i_iload_n C dX9_isOpenAt_45 rfl (q := 2) rfl ?_
      refine i_iload C dX9_isOpenAt_46 (q := 4) rfl ?_
      refine i_icmp_gt (tgt := 55) C dX9_isOpenAt_48 (by decide) ?_ ?_
      · refine i_iconst C dX9_isOpenAt_55 kI_0 ?_
        exact i_zret C hq dX9_isOpenAt_56 (Or.inl rfl)
      · refine i_iconst C dX9_isOpenAt_51 kI_1 ?_
        refine i_goto (tgt := 56) C dX9_isOpenAt_52 (by decide) ?_
        exact i_zret C hq dX9_isOpenAt_56 (Or.inr rfl)
  · refine i_iload_n C dX9_isOpenAt_21 rfl (q := 2) rfl ?_
    refine i_iload_n C dX9_isOpenAt_22 rfl (q := 3) rfl ?_
    refine i_icmp_lt (tgt := 36) C dX9_isOpenAt_23 (by decide) ?_ ?_
    · refine i_iconst C dX9_isOpenAt_36 kI_0 ?_
      refine i_goto (tgt := 56) C dX9_isOpenAt_37 (by decide) ?_
      exact i_zret C hq dX9_isOpenAt_56 (Or.inl rfl)
    · refine i_iload_n C dX9_isOpenAt_26 rfl (q := 2) rfl ?_
      refine i_iload C dX9_isOpenAt_27 (q := 4) rfl ?_
      refine i_icmp_gt (tgt := 36) C dX9_isOpenAt_29 (by decide) ?_ ?_
      · refine i_iconst C dX9_isOpenAt_36 kI_0 ?_
        refine i_goto (tgt := 56) C dX9_isOpenAt_37 (by decide) ?_
        exact i_zret C hq dX9_isOpenAt_56 (Or.inl rfl)
      · refine i_iconst C dX9_isOpenAt_32 kI_1 ?_
        refine i_goto (tgt := 56) C dX9_isOpenAt_33 (by decide) ?_
        exact i_zret C hq dX9_isOpenAt_56 (Or.inr rfl)
set_option maxRecDepth 100000 in
set_option maxHeartbeats 4000000 in
theorem w_X6_firstAt_2 {X : Xc} (C : Cx X RX6 cX6_firstAt (some .int)) (hX : xK X = kP) (hN : xn X = 3) (hR : xR X = rmX6_firstAt) {b : Nat} (hb : isC b) {res : Int × Mem} (hq : Rq X (some (aI res.1)) res.2) (y1 : Int) : ∀ (n : Nat) (u2 : Int) (M : Mem), Im X 0 0 2 [(0, aR (b + 6)), (1, aI y1), (2, aI u2)] [] M res (lpX6_firstAt_2 b y1 n u2 M) := by
  have hl2 : 2 < xn X := by rw [hN]; decide
  intro n
  induction n with
  | zero => intro _ _; exact i_none
  | succ n ih =>
    intro u2 M
    unfold lpX6_firstAt_2
    refine i_iload_n C dX6_firstAt_2 rfl (q := 2) rfl ?_
    refine i_aload_n C dX6_firstAt_3 rfl (q := 0) rfl ?_
    refine i_getI C (k := 8) kX6 dX6_firstAt_4 (shP_6 hX hb) rfl (by decide) fl_X6_37 rfl ?_
    refine i_icmp_ge (tgt := 38) C dX6_firstAt_7 (by decide) ?_ ?_
    · refine i_ldc C dX6_firstAt_38 kc_X6_50 kI_m1000000005 ?_
      exact i_iret C hq dX6_firstAt_40
    · refine i_aload_n C dX6_firstAt_10 rfl (q := 0) rfl ?_
      refine i_getR C (k := 5) kX6 dX6_firstAt_11 (shP_6 hX hb) rfl (by decide) fl_X6_28 ?_
      refine i_aload_n C dX6_firstAt_14 rfl (q := 0) rfl ?_
      refine i_getR C (k := 7) kX6 dX6_firstAt_15 (shP_6 hX hb) rfl (by decide) fl_X6_34 ?_
      refine i_iload_n C dX6_firstAt_18 rfl (q := 2) rfl ?_
      refine i_ald C dX6_firstAt_19 (shP_13 hX hb) (fun v1 => ?_)
      refine i_ald C dX6_firstAt_20 (shP_11 hX hb) (fun v2 => ?_)
      refine i_iload_n C dX6_firstAt_21 rfl (q := 1) rfl ?_
      refine i_icmp_ne (tgt := 32) C dX6_firstAt_22 (by decide) ?_ ?_
      · refine i_iincN (L' := fun v3 => [(0, aR (b + 6)), (1, aI y1), (2, aI v3)]) C dX6_firstAt_32 (q := 2) rfl hl2 (fun _ => rfl) (fun v3 => ?_)
        refine i_goto (tgt := 2) C dX6_firstAt_35 (by decide) ?_
        exact (ih v3 M)
      · refine i_aload_n C dX6_firstAt_25 rfl (q := 0) rfl ?_
        refine i_getR C (k := 7) kX6 dX6_firstAt_26 (shP_6 hX hb) rfl (by decide) fl_X6_34 ?_
        refine i_iload_n C dX6_firstAt_29 rfl (q := 2) rfl ?_
        refine i_ald C dX6_firstAt_30 (shP_13 hX hb) (fun v4 => ?_)
        exact i_iret C hq dX6_firstAt_31
set_option maxRecDepth 100000 in
set_option maxHeartbeats 4000000 in
theorem c_X6_firstAt (l : Launch) (G : Gx) {K : Kx} (hK : K = kP) {b : Nat} {x1 : Int} (hb : isC b) {M : Mem} {res : Int × Mem} (hM : OkM M) (ha : okS [aR (b + 6), aI x1]) (hF : pPersons_firstAt b x1 M = some res) : Ct l G K yX6_firstAt (wsM yX6_firstAt cX6_firstAt 3 (some .int)) rmX6_firstAt [aR (b + 6), aI x1] M (some (aI res.1)) res.2 := by
  refine ct_of RX6 (by decide +kernel) rfl (hK ▸ kP_ok) hM ha (Nat.le_of_ble_eq_true rfl) hF ?_
  intro X C hl hG hX0 hN hR hq
  have hX : xK X = kP := hX0.trans hK
  show Im X 0 0 0 [(0, aR (b + 6)), (1, aI x1)] [] M res (pPersons_firstAt b x1 M)
  unfold pPersons_firstAt
  have hl2 : 2 < xn X := by rw [hN]; decide
  refine i_iconst C dX6_firstAt_0 kI_0 ?_
  refine i_istore_n C dX6_firstAt_1 rfl hl2 (L' := [(0, aR (b + 6)), (1, aI x1), (2, aI 0)]) rfl ?_
  exact (w_X6_firstAt_2 C hX hN hR hb hq x1 FU 0 M)
set_option maxRecDepth 100000 in
set_option maxHeartbeats 4000000 in
theorem c_X0_farEnd (l : Launch) (G : Gx) {K : Kx} (hK : K = kP) {b : Nat} {x1 : Int} {x2 : Int} (hb : isC b) {M : Mem} {res : Int × Mem} (hM : OkM M) (ha : okS [aR b, aI x1, aI x2]) (hF : pCity_farEnd b x1 x2 M = some res) : Ct l G K yX0_farEnd (wsM yX0_farEnd cX0_farEnd 5 (some .int)) rmX0_farEnd [aR b, aI x1, aI x2] M (some (aI res.1)) res.2 := by
  refine ct_of RX0 (by decide +kernel) rfl (hK ▸ kP_ok) hM ha (Nat.le_of_ble_eq_true rfl) hF ?_
  intro X C hl hG hX0 hN hR hq
  have hX : xK X = kP := hX0.trans hK
  show Im X 0 0 0 [(0, aR b), (1, aI x1), (2, aI x2)] [] M res (pCity_farEnd b x1 x2 M)
  unfold pCity_farEnd
  have hl3 : 3 < xn X := by rw [hN]; decide
  have hl4 : 4 < xn X := by rw [hN]; decide
  refine i_aload_n C dX0_farEnd_0 rfl (q := 0) rfl ?_
  refine i_getR C (k := 8) kX0 dX0_farEnd_1 (shP_0 hX hb) rfl (by decide) fl_X0_45 ?_
  refine i_getR C (k := 2) kX9 dX0_farEnd_4 (shP_15 hX hb) rfl (by decide) fl_X0_140 ?_
  refine i_iload_n C dX0_farEnd_7 rfl (q := 1) rfl ?_
  refine i_ald C dX0_farEnd_8 (shP_17 hX hb) (fun v1 => ?_)
  refine i_istore_n C dX0_farEnd_9 rfl hl3 (L' := [(0, aR b), (1, aI x1), (2, aI x2), (3, aI v1)]) rfl ?_
  refine i_aload_n C dX0_farEnd_10 rfl (q := 0) rfl ?_
  refine i_getR C (k := 8) kX0 dX0_farEnd_11 (shP_0 hX hb) rfl (by decide) fl_X0_45 ?_
  refine i_getR C (k := 3) kX9 dX0_farEnd_14 (shP_15 hX hb) rfl (by decide) fl_X0_202 ?_
  refine i_iload_n C dX0_farEnd_17 rfl (q := 1) rfl ?_
  refine i_ald C dX0_farEnd_18 (shP_18 hX hb) (fun v2 => ?_)
  refine i_istore C dX0_farEnd_19 hl4 (L' := [(0, aR b), (1, aI x1), (2, aI x2), (3, aI v1), (4, aI v2)]) rfl ?_
  refine i_aload_n C dX0_farEnd_21 rfl (q := 0) rfl ?_
  refine i_getR C (k := 2) kX0 dX0_farEnd_22 (shP_0 hX hb) rfl (by decide) fl_X0_18 ?_
  refine i_iload_n C dX0_farEnd_25 rfl (q := 3) rfl ?_
  refine i_ald C dX0_farEnd_26 (shP_1 hX hb) (fun v3 => ?_)
  refine i_iload_n C dX0_farEnd_27 rfl (q := 2) rfl ?_
  refine i_icmp_eq (tgt := 46) C dX0_farEnd_28 (by decide) ?_ ?_
  · refine i_iload C dX0_farEnd_46 (q := 4) rfl ?_
    exact i_iret C hq dX0_farEnd_48
  · refine i_aload_n C dX0_farEnd_31 rfl (q := 0) rfl ?_
    refine i_getR C (k := 2) kX0 dX0_farEnd_32 (shP_0 hX hb) rfl (by decide) fl_X0_18 ?_
    refine i_iload C dX0_farEnd_35 (q := 4) rfl ?_
    refine i_ald C dX0_farEnd_37 (shP_1 hX hb) (fun v4 => ?_)
    refine i_iload_n C dX0_farEnd_38 rfl (q := 2) rfl ?_
    refine i_icmp_ne (tgt := 46) C dX0_farEnd_39 (by decide) ?_ ?_
    · refine i_iload C dX0_farEnd_46 (q := 4) rfl ?_
      exact i_iret C hq dX0_farEnd_48
    · refine i_iload_n C dX0_farEnd_42 rfl (q := 3) rfl ?_
      refine i_goto (tgt := 48) C dX0_farEnd_43 (by decide) ?_
      exact i_iret C hq dX0_farEnd_48
set_option maxRecDepth 100000 in
set_option maxHeartbeats 4000000 in
theorem c_X6_learn (l : Launch) (G : Gx) {K : Kx} (hK : K = kP) {b : Nat} {x1 : Int} (hb : isC b) {M : Mem} {res : Mem} (hM : OkM M) (ha : okS [aR (b + 6), aI x1]) (hF : pPersons_learn b x1 M = some res) : Ct l G K yX6_learn (wsM yX6_learn cX6_learn 2 none) rmX6_learn [aR (b + 6), aI x1] M none res := by
  refine ct_of RX6 (by decide +kernel) rfl (hK ▸ kP_ok) hM ha (Nat.le_of_ble_eq_true rfl) hF ?_
  intro X C hl hG hX0 hN hR hq
  have hX : xK X = kP := hX0.trans hK
  show Im X 0 0 0 [(0, aR (b + 6)), (1, aI x1)] [] M res (pPersons_learn b x1 M)
  unfold pPersons_learn
  refine i_aload_n C dX6_learn_0 rfl (q := 0) rfl ?_
  refine i_getR C (k := 10) kX6 dX6_learn_1 (shP_6 hX hb) rfl (by decide) fl_X6_43 ?_
  refine i_iload_n C dX6_learn_4 rfl (q := 1) rfl ?_
  refine i_dup2 C dX6_learn_5 rfl rfl ?_
  refine i_ald C dX6_learn_6 (shP_14 hX hb) (fun v1 => ?_)
  refine i_aload_n C dX6_learn_7 rfl (q := 0) rfl ?_
  refine i_getR C (k := 10) kX6 dX6_learn_8 (shP_6 hX hb) rfl (by decide) fl_X6_43 ?_
  refine i_iconst C dX6_learn_11 kI_1 ?_
  refine i_iload_n C dX6_learn_12 rfl (q := 1) rfl ?_
  refine i_isub C dX6_learn_13 ?_
  refine i_ald C dX6_learn_14 (shP_14 hX hb) (fun v2 => ?_)
  refine i_ior C dX6_learn_15 ?_
  refine i_ast C dX6_learn_16 (shP_14 hX hb) (fun M3 => ?_)
  exact i_vret C hq dX6_learn_17
set_option maxRecDepth 100000 in
set_option maxHeartbeats 4000000 in
theorem c_X9_has (l : Launch) (G : Gx) {K : Kx} (hK : K = kP) {b : Nat} {x1 : Int} (hb : isC b) {M : Mem} {res : Int × Mem} (hM : OkM M) (ha : okS [aR (b + 15), aI x1]) (hF : pTies_has b x1 M = some res) : Ct l G K yX9_has (wsM yX9_has cX9_has 2 (some .boolean)) rmX9_has [aR (b + 15), aI x1] M (some (aI res.1)) res.2 := by
  refine ct_of RX9 (by decide +kernel) rfl (hK ▸ kP_ok) hM ha (Nat.le_of_ble_eq_true rfl) hF ?_
  intro X C hl hG hX0 hN hR hq
  have hX : xK X = kP := hX0.trans hK
  show Im X 0 0 0 [(0, aR (b + 15)), (1, aI x1)] [] M res (pTies_has b x1 M)
  unfold pTies_has
  refine i_iload_n C dX9_has_0 rfl (q := 1) rfl ?_
  refine i_if_lt (tgt := 16) C dX9_has_1 (by decide) ?_ ?_
  · refine i_iconst C dX9_has_16 kI_0 ?_
    exact i_zret C hq dX9_has_17 (Or.inl rfl)
  · refine i_iload_n C dX9_has_4 rfl (q := 1) rfl ?_
    refine i_aload_n C dX9_has_5 rfl (q := 0) rfl ?_
    refine i_getI C (k := 0) kX9 dX9_has_6 (shP_15 hX hb) rfl (by decide) fl_X9_9 rfl ?_
    refine i_icmp_ge (tgt := 16) C dX9_has_9 (by decide) ?_ ?_
    · refine i_iconst C dX9_has_16 kI_0 ?_
      exact i_zret C hq dX9_has_17 (Or.inl rfl)
    · refine i_iconst C dX9_has_12 kI_1 ?_
      refine i_goto (tgt := 17) C dX9_has_13 (by decide) ?_
      exact i_zret C hq dX9_has_17 (Or.inr rfl)
set_option maxRecDepth 100000 in
set_option maxHeartbeats 4000000 in
theorem c_X0_letOver (l : Launch) (G : Gx) {K : Kx} (hK : K = kP) {b : Nat} {x1 : Int} {x2 : Int} (hb : isC b) {M : Mem} {res : Mem} (hM : OkM M) (ha : okS [aR b, aI x1, aI x2]) (hF : pCity_letOver b x1 x2 M = some res) : Ct l G K yX0_letOver (wsM yX0_letOver cX0_letOver 5 none) rmX0_letOver [aR b, aI x1, aI x2] M none res := by
  refine ct_of RX0 (by decide +kernel) rfl (hK ▸ kP_ok) hM ha (Nat.le_of_ble_eq_true rfl) hF ?_
  intro X C hl hG hX0 hN hR hq
  have hX : xK X = kP := hX0.trans hK
  show Im X 0 0 0 [(0, aR b), (1, aI x1), (2, aI x2)] [] M res (pCity_letOver b x1 x2 M)
  unfold pCity_letOver
  have hl3 : 3 < xn X := by rw [hN]; decide
  have hl4 : 4 < xn X := by rw [hN]; decide
  have hRm : ∀ {rm : Room} {ny : Nat}, RmOk rmX0_letOver rm ny → RmOk (xR X) rm ny := fun h => by rw [hR]; exact h
  refine i_aload_n C dX0_letOver_0 rfl (q := 0) rfl ?_
  refine i_iload_n C dX0_letOver_1 rfl (q := 1) rfl ?_
  refine i_cI (kc' := 0) (ks' := 0) 0 0 2 (fun q hq hM hS => crV C (as := [aI x1]) dX0_letOver_2.1 kX0 (shP_0 hX hb) ml_X0_116 cal_X0_sideOf cv_X0_sideOf (hRm ⟨Nat.le_of_ble_eq_true rfl, Nat.le_of_ble_eq_true rfl⟩) rfl (Nat.le_of_ble_eq_true rfl) (c_X0_sideOf (xl X) (xG X) hX hb hM ⟨hS.2.1, hS.1, trivial⟩ hq)) (Nat.le_of_ble_eq_true rfl) (Nat.le_of_ble_eq_true rfl) rfl rfl rfl (fun v2 M1 => ?_)
  refine i_istore_n C dX0_letOver_5 rfl hl3 (L' := [(0, aR b), (1, aI x1), (2, aI x2), (3, aI v2)]) rfl ?_
  refine i_aload_n C dX0_letOver_6 rfl (q := 0) rfl ?_
  refine i_getR C (k := 7) kX0 dX0_letOver_7 (shP_0 hX hb) rfl (by decide) fl_X0_38 ?_
  refine i_getR C (k := 6) kX6 dX0_letOver_10 (shP_6 hX hb) rfl (by decide) fl_X0_146 ?_
  refine i_iload_n C dX0_letOver_13 rfl (q := 1) rfl ?_
  refine i_ald C dX0_letOver_14 (shP_12 hX hb) (fun v3 => ?_)
  refine i_istore C dX0_letOver_15 hl4 (L' := [(0, aR b), (1, aI x1), (2, aI x2), (3, aI v2), (4, aI v3)]) rfl ?_
  refine i_aload_n C dX0_letOver_17 rfl (q := 0) rfl ?_
  refine i_getR C (k := 7) kX0 dX0_letOver_18 (shP_0 hX hb) rfl (by decide) fl_X0_38 ?_
  refine i_iload_n C dX0_letOver_21 rfl (q := 1) rfl ?_
  refine i_cV (kc' := 0) (ks' := 0) 0 0 2 (fun q hq hM hS => crV C (as := [aI x1]) dX0_letOver_22.1 kX6 (shP_6 hX hb) ml_X0_186 cal_X6_leaveLine cv_X6_leaveLine (hRm ⟨Nat.le_of_ble_eq_true rfl, Nat.le_of_ble_eq_true rfl⟩) rfl (Nat.le_of_ble_eq_true rfl) (c_X6_leaveLine (xl X) (xG X) hX hb hM ⟨hS.2.1, hS.1, trivial⟩ hq)) (Nat.le_of_ble_eq_true rfl) (Nat.le_of_ble_eq_true rfl) rfl rfl rfl (fun M4 => ?_)
  refine i_aload_n C dX0_letOver_25 rfl (q := 0) rfl ?_
  refine i_getR C (k := 7) kX0 dX0_letOver_26 (shP_0 hX hb) rfl (by decide) fl_X0_38 ?_
  refine i_getR C (k := 4) kX6 dX0_letOver_29 (shP_6 hX hb) rfl (by decide) fl_X0_113 ?_
  refine i_iload_n C dX0_letOver_32 rfl (q := 1) rfl ?_
  refine i_aload_n C dX0_letOver_33 rfl (q := 0) rfl ?_
  refine i_iload_n C dX0_letOver_34 rfl (q := 2) rfl ?_
  refine i_iload_n C dX0_letOver_35 rfl (q := 3) rfl ?_
  refine i_cI (kc' := 0) (ks' := 0) 0 0 3 (fun q hq hM hS => crV C (as := [aI x2, aI v2]) dX0_letOver_36.1 kX0 (shP_0 hX hb) ml_X0_189 cal_X0_farEnd cv_X0_farEnd (hRm ⟨Nat.le_of_ble_eq_true rfl, Nat.le_of_ble_eq_true rfl⟩) rfl (Nat.le_of_ble_eq_true rfl) (c_X0_farEnd (xl X) (xG X) hX hb hM ⟨hS.2.2.1, hS.2.1, hS.1, trivial⟩ hq)) (Nat.le_of_ble_eq_true rfl) (Nat.le_of_ble_eq_true rfl) rfl rfl rfl (fun v6 M5 => ?_)
  refine i_ast C dX0_letOver_39 (shP_10 hX hb) (fun M7 => ?_)
  refine i_aload_n C dX0_letOver_40 rfl (q := 0) rfl ?_
  refine i_getR C (k := 7) kX0 dX0_letOver_41 (shP_0 hX hb) rfl (by decide) fl_X0_38 ?_
  refine i_iconst C dX0_letOver_44 kI_1 ?_
  refine i_iload_n C dX0_letOver_45 rfl (q := 3) rfl ?_
  refine i_isub C dX0_letOver_46 ?_
  refine i_cV (kc' := 0) (ks' := 0) 0 0 2 (fun q hq hM hS => crV C (as := [aI (w32 (1 - v2))]) dX0_letOver_47.1 kX6 (shP_6 hX hb) ml_X0_193 cal_X6_learn cv_X6_learn (hRm ⟨Nat.le_of_ble_eq_true rfl, Nat.le_of_ble_eq_true rfl⟩) rfl (Nat.le_of_ble_eq_true rfl) (c_X6_learn (xl X) (xG X) hX hb hM ⟨hS.2.1, hS.1, trivial⟩ hq)) (Nat.le_of_ble_eq_true rfl) (Nat.le_of_ble_eq_true rfl) rfl rfl rfl (fun M8 => ?_)
  refine i_aload_n C dX0_letOver_50 rfl (q := 0) rfl ?_
  refine i_getR C (k := 8) kX0 dX0_letOver_51 (shP_0 hX hb) rfl (by decide) fl_X0_45 ?_
  refine i_iload C dX0_letOver_54 (q := 4) rfl ?_
  refine i_cI (kc' := 0) (ks' := 0) 0 0 2 (fun q hq hM hS => crV C (as := [aI v3]) dX0_letOver_56.1 kX9 (shP_15 hX hb) ml_X0_196 cal_X9_has cv_X9_has (hRm ⟨Nat.le_of_ble_eq_true rfl, Nat.le_of_ble_eq_true rfl⟩) rfl (Nat.le_of_ble_eq_true rfl) (c_X9_has (xl X) (xG X) hX hb hM ⟨hS.2.1, hS.1, trivial⟩ hq)) (Nat.le_of_ble_eq_true rfl) (Nat.le_of_ble_eq_true rfl) rfl rfl rfl (fun v10 M9 => ?_)
  refine i_if_ne (tgt := 63) C dX0_letOver_59 (by decide) ?_ ?_
  · refine i_aload_n C dX0_letOver_63 rfl (q := 0) rfl ?_
    refine i_getR C (k := 8) kX0 dX0_letOver_64 (shP_0 hX hb) rfl (by decide) fl_X0_45 ?_
    refine i_getR C (k := 7) kX9 dX0_letOver_67 (shP_15 hX hb) rfl (by decide) fl_X0_143 ?_
    refine i_iload C dX0_letOver_70 (q := 4) rfl ?_
    refine i_iconst C dX0_letOver_72 kI_1 ?_
    refine i_ast C dX0_letOver_73 (shP_22 hX hb) (fun M11 => ?_)
    refine i_aload_n C dX0_letOver_74 rfl (q := 0) rfl ?_
    refine i_getR C (k := 8) kX0 dX0_letOver_75 (shP_0 hX hb) rfl (by decide) fl_X0_45 ?_
    refine i_getR C (k := 8) kX9 dX0_letOver_78 (shP_15 hX hb) rfl (by decide) fl_X0_199 ?_
    refine i_iload C dX0_letOver_81 (q := 4) rfl ?_
    refine i_aload_n C dX0_letOver_83 rfl (q := 0) rfl ?_
    refine i_getI C (k := 0) kX0 dX0_letOver_84 (shP_0 hX hb) rfl (by decide) fl_X0_9 rfl ?_
    refine i_aload_n C dX0_letOver_87 rfl (q := 0) rfl ?_
    refine i_getR C (k := 8) kX0 dX0_letOver_88 (shP_0 hX hb) rfl (by decide) fl_X0_45 ?_
    refine i_getR C (k := 4) kX9 dX0_letOver_91 (shP_15 hX hb) rfl (by decide) fl_X0_177 ?_
    refine i_iload C dX0_letOver_94 (q := 4) rfl ?_
    refine i_ald C dX0_letOver_96 (shP_19 hX hb) (fun v12 => ?_)
    refine i_iadd C dX0_letOver_97 ?_
    refine i_ast C dX0_letOver_98 (shP_23 hX hb) (fun M13 => ?_)
    exact i_vret C hq dX0_letOver_99
  · exact i_vret C hq dX0_letOver_62
set_option maxRecDepth 100000 in
set_option maxHeartbeats 4000000 in
theorem w_X0_letBy_2 {X : Xc} (C : Cx X RX0 cX0_letBy none) (hX : xK X = kP) (hN : xn X = 4) (hR : xR X = rmX0_letBy) {b : Nat} (hb : isC b) {res : Mem} (hq : Rq X none res) (y1 : Int) : ∀ (n : Nat) (u2 : Int) (M : Mem), Im X 0 0 2 [(0, aR b), (1, aI y1), (2, aI u2)] [] M res (lpX0_letBy_2 b y1 n u2 M) := by
  have hl2 : 2 < xn X := by rw [hN]; decide
  have hl3 : 3 < xn X := by rw [hN]; decide
  have hRm : ∀ {rm : Room} {ny : Nat}, RmOk rmX0_letBy rm ny → RmOk (xR X) rm ny := fun h => by rw [hR]; exact h
  intro n
  induction n with
  | zero => intro _ _; exact i_none
  | succ n ih =>
    intro u2 M
    unfold lpX0_letBy_2
    refine i_iload_n C dX0_letBy_2 rfl (q := 2) rfl ?_
    refine i_aload_n C dX0_letBy_3 rfl (q := 0) rfl ?_
    refine i_getR C (k := 8) kX0 dX0_letBy_4 (shP_0 hX hb) rfl (by decide) fl_X0_45 ?_
    refine i_getR C (k := 4) kX9 dX0_letBy_7 (shP_15 hX hb) rfl (by decide) fl_X0_177 ?_
    refine i_iload_n C dX0_letBy_10 rfl (q := 1) rfl ?_
    refine i_ald C dX0_letBy_11 (shP_19 hX hb) (fun v1 => ?_)
    refine i_icmp_ge (tgt := 43) C dX0_letBy_12 (by decide) ?_ ?_
    · exact i_vret C hq dX0_letBy_43
    · refine i_aload_n C dX0_letBy_15 rfl (q := 0) rfl ?_
      refine i_getR C (k := 7) kX0 dX0_letBy_16 (shP_0 hX hb) rfl (by decide) fl_X0_38 ?_
      refine i_iload_n C dX0_letBy_19 rfl (q := 1) rfl ?_
      refine i_cI (kc' := 0) (ks' := 0) 0 0 2 (fun q hq hM hS => crV C (as := [aI y1]) dX0_letBy_20.1 kX6 (shP_6 hX hb) ml_X0_180 cal_X6_firstAt cv_X6_firstAt (hRm ⟨Nat.le_of_ble_eq_true rfl, Nat.le_of_ble_eq_true rfl⟩) rfl (Nat.le_of_ble_eq_true rfl) (c_X6_firstAt (xl X) (xG X) hX hb hM ⟨hS.2.1, hS.1, trivial⟩ hq)) (Nat.le_of_ble_eq_true rfl) (Nat.le_of_ble_eq_true rfl) rfl rfl rfl (fun v3 M2 => ?_)
      refine i_istore_n C dX0_letBy_23 rfl hl3 (L' := [(0, aR b), (1, aI y1), (2, aI u2), (3, aI v3)]) rfl ?_
      refine i_iload_n C dX0_letBy_24 rfl (q := 3) rfl ?_
      refine i_ldc C dX0_letBy_25 kc_X0_28 kI_m1000000005 ?_
      refine i_icmp_ne (tgt := 31) C dX0_letBy_27 (by decide) ?_ ?_
      · refine i_aload_n C dX0_letBy_31 rfl (q := 0) rfl ?_
        refine i_iload_n C dX0_letBy_32 rfl (q := 3) rfl ?_
        refine i_iload_n C dX0_letBy_33 rfl (q := 1) rfl ?_
        refine i_cV (kc' := 0) (ks' := 0) 0 0 3 (fun q hq hM hS => crV C (as := [aI v3, aI y1]) dX0_letBy_34.1 kX0 (shP_0 hX hb) ml_X0_183 cal_X0_letOver cv_X0_letOver (hRm ⟨Nat.le_of_ble_eq_true rfl, Nat.le_of_ble_eq_true rfl⟩) rfl (Nat.le_of_ble_eq_true rfl) (c_X0_letOver (xl X) (xG X) hX hb hM ⟨hS.2.2.1, hS.2.1, hS.1, trivial⟩ hq)) (Nat.le_of_ble_eq_true rfl) (Nat.le_of_ble_eq_true rfl) rfl rfl rfl (fun M4 => ?_)
        refine i_iincN (L' := fun v5 => [(0, aR b), (1, aI y1), (2, aI v5), (3, aI v3)]) C dX0_letBy_37 (q := 2) rfl hl2 (fun _ => rfl) (fun v5 => ?_)
        refine i_goto (tgt := 2) C dX0_letBy_40 (by decide) ?_
        exact i_sub [0, 1, 2] rfl (ih v5 M4)
      · exact i_vret C hq dX0_letBy_30
set_option maxRecDepth 100000 in
set_option maxHeartbeats 4000000 in
theorem c_X0_letBy (l : Launch) (G : Gx) {K : Kx} (hK : K = kP) {b : Nat} {x1 : Int} (hb : isC b) {M : Mem} {res : Mem} (hM : OkM M) (ha : okS [aR b, aI x1]) (hF : pCity_letBy b x1 M = some res) : Ct l G K yX0_letBy (wsM yX0_letBy cX0_letBy 4 none) rmX0_letBy [aR b, aI x1] M none res := by
  refine ct_of RX0 (by decide +kernel) rfl (hK ▸ kP_ok) hM ha (Nat.le_of_ble_eq_true rfl) hF ?_
  intro X C hl hG hX0 hN hR hq
  have hX : xK X = kP := hX0.trans hK
  show Im X 0 0 0 [(0, aR b), (1, aI x1)] [] M res (pCity_letBy b x1 M)
  unfold pCity_letBy
  have hl2 : 2 < xn X := by rw [hN]; decide
  have hl3 : 3 < xn X := by rw [hN]; decide
  have hRm : ∀ {rm : Room} {ny : Nat}, RmOk rmX0_letBy rm ny → RmOk (xR X) rm ny := fun h => by rw [hR]; exact h
  refine i_iconst C dX0_letBy_0 kI_0 ?_
  refine i_istore_n C dX0_letBy_1 rfl hl2 (L' := [(0, aR b), (1, aI x1), (2, aI 0)]) rfl ?_
  exact (w_X0_letBy_2 C hX hN hR hb hq x1 FU 0 M)
set_option maxRecDepth 100000 in
set_option maxHeartbeats 4000000 in
theorem w_X0_openStreets_2 {X : Xc} (C : Cx X RX0 cX0_openStreets none) (hX : xK X = kP) (hN : xn X = 2) (hR : xR X = rmX0_openStreets) {b : Nat} (hb : isC b) {res : Mem} (hq : Rq X none res) : ∀ (n : Nat) (u1 : Int) (M : Mem), Im X 0 0 2 [(0, aR b), (1, aI u1)] [] M res (lpX0_openStreets_2 b n u1 M) := by
  have hl1 : 1 < xn X := by rw [hN]; decide
  have hRm : ∀ {rm : Room} {ny : Nat}, RmOk rmX0_openStreets rm ny → RmOk (xR X) rm ny := fun h => by rw [hR]; exact h
  intro n
  induction n with
  | zero => intro _ _; exact i_none
  | succ n ih =>
    intro u1 M
    unfold lpX0_openStreets_2
    refine i_iload_n C dX0_openStreets_2 rfl (q := 1) rfl ?_
    refine i_aload_n C dX0_openStreets_3 rfl (q := 0) rfl ?_
    refine i_getR C (k := 8) kX0 dX0_openStreets_4 (shP_0 hX hb) rfl (by decide) fl_X0_45 ?_
    refine i_getI C (k := 0) kX9 dX0_openStreets_7 (shP_15 hX hb) rfl (by decide) fl_X0_169 rfl ?_
    refine i_icmp_ge (tgt := 55) C dX0_openStreets_10 (by decide) ?_ ?_
    · exact i_vret C hq dX0_openStreets_55
    · refine i_aload_n C dX0_openStreets_13 rfl (q := 0) rfl ?_
      refine i_getR C (k := 8) kX0 dX0_openStreets_14 (shP_0 hX hb) rfl (by decide) fl_X0_45 ?_
      refine i_getR C (k := 1) kX9 dX0_openStreets_17 (shP_15 hX hb) rfl (by decide) fl_X0_127 ?_
      refine i_iload_n C dX0_openStreets_20 rfl (q := 1) rfl ?_
      refine i_ald C dX0_openStreets_21 (shP_16 hX hb) (fun v1 => ?_)
      refine i_iconst C dX0_openStreets_22 kI_1 ?_
      refine i_jn (fun j => ∀  (M3 : Mem), Im X 0 0 49 [(0, aR b), (1, aI u1)] [] M3 res (j  M3)) ?_ (fun j2 hj2 => ?_)
      · intro  M3
        refine i_iincN (L' := fun v4 => [(0, aR b), (1, aI v4)]) C dX0_openStreets_49 (q := 1) rfl hl1 (fun _ => rfl) (fun v4 => ?_)
        refine i_goto (tgt := 2) C dX0_openStreets_52 (by decide) ?_
        exact (ih v4 M3)
      refine i_icmp_ne (tgt := 49) C dX0_openStreets_23 (by decide) ?_ ?_
      · exact (hj2  M)
      · refine i_aload_n C dX0_openStreets_26 rfl (q := 0) rfl ?_
        refine i_getR C (k := 8) kX0 dX0_openStreets_27 (shP_0 hX hb) rfl (by decide) fl_X0_45 ?_
        refine i_iload_n C dX0_openStreets_30 rfl (q := 1) rfl ?_
        refine i_aload_n C dX0_openStreets_31 rfl (q := 0) rfl ?_
        refine i_getI C (k := 0) kX0 dX0_openStreets_32 (shP_0 hX hb) rfl (by decide) fl_X0_9 rfl ?_
        refine i_bipush C dX0_openStreets_35 kB_24 ?_
        refine i_irem C dX0_openStreets_37 (by decide) ?_
        refine i_cI (kc' := 0) (ks' := 0) 0 0 3 (fun q hq hM hS => crV C (as := [aI u1, aI (w32 (Int.tmod (M b 0) 24))]) dX0_openStreets_38.1 kX9 (shP_15 hX hb) ml_X0_170 cal_X9_isOpenAt cv_X9_isOpenAt (hRm ⟨Nat.le_of_ble_eq_true rfl, Nat.le_of_ble_eq_true rfl⟩) rfl (Nat.le_of_ble_eq_true rfl) (c_X9_isOpenAt (xl X) (xG X) hX hb hM ⟨hS.2.2.1, hS.2.1, hS.1, trivial⟩ hq)) (Nat.le_of_ble_eq_true rfl) (Nat.le_of_ble_eq_true rfl) rfl rfl rfl (fun v6 M5 => ?_)
        refine i_if_eq (tgt := 49) C dX0_openStreets_41 (by decide) ?_ ?_
        · exact (hj2  M5)
        · refine i_aload_n C dX0_openStreets_44 rfl (q := 0) rfl ?_
          refine i_iload_n C dX0_openStreets_45 rfl (q := 1) rfl ?_
          refine i_cV (kc' := 0) (ks' := 0) 0 0 2 (fun q hq hM hS => crV C (as := [aI u1]) dX0_openStreets_46.1 kX0 (shP_0 hX hb) ml_X0_174 cal_X0_letBy cv_X0_letBy (hRm ⟨Nat.le_of_ble_eq_true rfl, Nat.le_of_ble_eq_true rfl⟩) rfl (Nat.le_of_ble_eq_true rfl) (c_X0_letBy (xl X) (xG X) hX hb hM ⟨hS.2.1, hS.1, trivial⟩ hq)) (Nat.le_of_ble_eq_true rfl) (Nat.le_of_ble_eq_true rfl) rfl rfl rfl (fun M7 => ?_)
          exact (hj2  M7)
set_option maxRecDepth 100000 in
set_option maxHeartbeats 4000000 in
theorem c_X0_openStreets (l : Launch) (G : Gx) {K : Kx} (hK : K = kP) {b : Nat} (hb : isC b) {M : Mem} {res : Mem} (hM : OkM M) (ha : okS [aR b]) (hF : pCity_openStreets b M = some res) : Ct l G K yX0_openStreets (wsM yX0_openStreets cX0_openStreets 2 none) rmX0_openStreets [aR b] M none res := by
  refine ct_of RX0 (by decide +kernel) rfl (hK ▸ kP_ok) hM ha (Nat.le_of_ble_eq_true rfl) hF ?_
  intro X C hl hG hX0 hN hR hq
  have hX : xK X = kP := hX0.trans hK
  show Im X 0 0 0 [(0, aR b)] [] M res (pCity_openStreets b M)
  unfold pCity_openStreets
  have hl1 : 1 < xn X := by rw [hN]; decide
  have hRm : ∀ {rm : Room} {ny : Nat}, RmOk rmX0_openStreets rm ny → RmOk (xR X) rm ny := fun h => by rw [hR]; exact h
  refine i_iconst C dX0_openStreets_0 kI_0 ?_
  refine i_istore_n C dX0_openStreets_1 rfl hl1 (L' := [(0, aR b), (1, aI 0)]) rfl ?_
  exact (w_X0_openStreets_2 C hX hN hR hb hq FU 0 M)
set_option maxRecDepth 100000 in
set_option maxHeartbeats 4000000 in
theorem c_X6_isDead (l : Launch) (G : Gx) {K : Kx} (hK : K = kP) {b : Nat} {x1 : Int} (hb : isC b) {M : Mem} {res : Int × Mem} (hM : OkM M) (ha : okS [aR (b + 6), aI x1]) (hF : pPersons_isDead b x1 M = some res) : Ct l G K yX6_isDead (wsM yX6_isDead cX6_isDead 2 (some .boolean)) rmX6_isDead [aR (b + 6), aI x1] M (some (aI res.1)) res.2 := by
  refine ct_of RX6 (by decide +kernel) rfl (hK ▸ kP_ok) hM ha (Nat.le_of_ble_eq_true rfl) hF ?_
  intro X C hl hG hX0 hN hR hq
  have hX : xK X = kP := hX0.trans hK
  show Im X 0 0 0 [(0, aR (b + 6)), (1, aI x1)] [] M res (pPersons_isDead b x1 M)
  unfold pPersons_isDead
  refine i_aload_n C dX6_isDead_0 rfl (q := 0) rfl ?_
  refine i_getI C (k := 9) kX6 dX6_isDead_1 (shP_6 hX hb) rfl (by decide) fl_X6_40 rfl ?_
  refine i_iload_n C dX6_isDead_4 rfl (q := 1) rfl ?_
  refine i_ishr C dX6_isDead_5 ?_
  refine i_iconst C dX6_isDead_6 kI_1 ?_
  refine i_iand C dX6_isDead_7 ?_
  refine i_iconst C dX6_isDead_8 kI_1 ?_
  refine i_icmp_ne (tgt := 16) C dX6_isDead_9 (by decide) ?_ ?_
  · refine i_iconst C dX6_isDead_16 kI_0 ?_
    exact i_zret C hq dX6_isDead_17 (Or.inl rfl)
  · refine i_iconst C dX6_isDead_12 kI_1 ?_
    refine i_goto (tgt := 17) C dX6_isDead_13 (by decide) ?_
    exact i_zret C hq dX6_isDead_17 (Or.inr rfl)
set_option maxRecDepth 100000 in
set_option maxHeartbeats 4000000 in
theorem c_X0_endStay (l : Launch) (G : Gx) {K : Kx} (hK : K = kP) {b : Nat} {x1 : Int} (hb : isC b) {M : Mem} {res : Mem} (hM : OkM M) (ha : okS [aR b, aI x1]) (hF : pCity_endStay b x1 M = some res) : Ct l G K yX0_endStay (wsM yX0_endStay cX0_endStay 3 none) rmX0_endStay [aR b, aI x1] M none res := by
  refine ct_of RX0 (by decide +kernel) rfl (hK ▸ kP_ok) hM ha (Nat.le_of_ble_eq_true rfl) hF ?_
  intro X C hl hG hX0 hN hR hq
  have hX : xK X = kP := hX0.trans hK
  show Im X 0 0 0 [(0, aR b), (1, aI x1)] [] M res (pCity_endStay b x1 M)
  unfold pCity_endStay
  have hl2 : 2 < xn X := by rw [hN]; decide
  have hRm : ∀ {rm : Room} {ny : Nat}, RmOk rmX0_endStay rm ny → RmOk (xR X) rm ny := fun h => by rw [hR]; exact h
  refine i_aload_n C dX0_endStay_0 rfl (q := 0) rfl ?_
  refine i_getR C (k := 8) kX0 dX0_endStay_1 (shP_0 hX hb) rfl (by decide) fl_X0_45 ?_
  refine i_getR C (k := 2) kX9 dX0_endStay_4 (shP_15 hX hb) rfl (by decide) fl_X0_140 ?_
  refine i_iload_n C dX0_endStay_7 rfl (q := 1) rfl ?_
  refine i_ald C dX0_endStay_8 (shP_17 hX hb) (fun v1 => ?_)
  refine i_istore_n C dX0_endStay_9 rfl hl2 (L' := [(0, aR b), (1, aI x1), (2, aI v1)]) rfl ?_
  refine i_aload_n C dX0_endStay_10 rfl (q := 0) rfl ?_
  refine i_getR C (k := 8) kX0 dX0_endStay_11 (shP_0 hX hb) rfl (by decide) fl_X0_45 ?_
  refine i_getR C (k := 7) kX9 dX0_endStay_14 (shP_15 hX hb) rfl (by decide) fl_X0_143 ?_
  refine i_iload_n C dX0_endStay_17 rfl (q := 1) rfl ?_
  refine i_iconst C dX0_endStay_18 kI_2 ?_
  refine i_ast C dX0_endStay_19 (shP_22 hX hb) (fun M2 => ?_)
  refine i_aload_n C dX0_endStay_20 rfl (q := 0) rfl ?_
  refine i_getR C (k := 7) kX0 dX0_endStay_21 (shP_0 hX hb) rfl (by decide) fl_X0_38 ?_
  refine i_iload_n C dX0_endStay_24 rfl (q := 2) rfl ?_
  refine i_cI (kc' := 0) (ks' := 0) 0 0 2 (fun q hq hM hS => crV C (as := [aI v1]) dX0_endStay_25.1 kX6 (shP_6 hX hb) ml_X0_208 cal_X6_isDead cv_X6_isDead (hRm ⟨Nat.le_of_ble_eq_true rfl, Nat.le_of_ble_eq_true rfl⟩) rfl (Nat.le_of_ble_eq_true rfl) (c_X6_isDead (xl X) (xG X) hX hb hM ⟨hS.2.1, hS.1, trivial⟩ hq)) (Nat.le_of_ble_eq_true rfl) (Nat.le_of_ble_eq_true rfl) rfl rfl rfl (fun v4 M3 => ?_)
  refine i_if_eq (tgt := 32) C dX0_endStay_28 (by decide) ?_ ?_
  · refine i_aload_n C dX0_endStay_32 rfl (q := 0) rfl ?_
    refine i_getR C (k := 7) kX0 dX0_endStay_33 (shP_0 hX hb) rfl (by decide) fl_X0_38 ?_
    refine i_iload_n C dX0_endStay_36 rfl (q := 2) rfl ?_
    refine i_cV (kc' := 0) (ks' := 0) 0 0 2 (fun q hq hM hS => crV C (as := [aI v1]) dX0_endStay_37.1 kX6 (shP_6 hX hb) ml_X0_149 cal_X6_goHome cv_X6_goHome (hRm ⟨Nat.le_of_ble_eq_true rfl, Nat.le_of_ble_eq_true rfl⟩) rfl (Nat.le_of_ble_eq_true rfl) (c_X6_goHome (xl X) (xG X) hX hb hM ⟨hS.2.1, hS.1, trivial⟩ hq)) (Nat.le_of_ble_eq_true rfl) (Nat.le_of_ble_eq_true rfl) rfl rfl rfl (fun M5 => ?_)
    refine i_aload_n C dX0_endStay_40 rfl (q := 0) rfl ?_
    refine i_getR C (k := 7) kX0 dX0_endStay_41 (shP_0 hX hb) rfl (by decide) fl_X0_38 ?_
    refine i_aload_n C dX0_endStay_44 rfl (q := 0) rfl ?_
    refine i_iload_n C dX0_endStay_45 rfl (q := 2) rfl ?_
    refine i_cI (kc' := 0) (ks' := 0) 0 0 2 (fun q hq hM hS => crV C (as := [aI v1]) dX0_endStay_46.1 kX0 (shP_0 hX hb) ml_X0_116 cal_X0_sideOf cv_X0_sideOf (hRm ⟨Nat.le_of_ble_eq_true rfl, Nat.le_of_ble_eq_true rfl⟩) rfl (Nat.le_of_ble_eq_true rfl) (c_X0_sideOf (xl X) (xG X) hX hb hM ⟨hS.2.1, hS.1, trivial⟩ hq)) (Nat.le_of_ble_eq_true rfl) (Nat.le_of_ble_eq_true rfl) rfl rfl rfl (fun v7 M6 => ?_)
    refine i_cV (kc' := 0) (ks' := 0) 0 0 2 (fun q hq hM hS => crV C (as := [aI v7]) dX0_endStay_49.1 kX6 (shP_6 hX hb) ml_X0_193 cal_X6_learn cv_X6_learn (hRm ⟨Nat.le_of_ble_eq_true rfl, Nat.le_of_ble_eq_true rfl⟩) rfl (Nat.le_of_ble_eq_true rfl) (c_X6_learn (xl X) (xG X) hX hb hM ⟨hS.2.1, hS.1, trivial⟩ hq)) (Nat.le_of_ble_eq_true rfl) (Nat.le_of_ble_eq_true rfl) rfl rfl rfl (fun M8 => ?_)
    exact i_vret C hq dX0_endStay_52
  · exact i_vret C hq dX0_endStay_31
set_option maxRecDepth 100000 in
set_option maxHeartbeats 4000000 in
theorem w_X0_endStays_2 {X : Xc} (C : Cx X RX0 cX0_endStays none) (hX : xK X = kP) (hN : xn X = 2) (hR : xR X = rmX0_endStays) {b : Nat} (hb : isC b) {res : Mem} (hq : Rq X none res) : ∀ (n : Nat) (u1 : Int) (M : Mem), Im X 0 0 2 [(0, aR b), (1, aI u1)] [] M res (lpX0_endStays_2 b n u1 M) := by
  have hl1 : 1 < xn X := by rw [hN]; decide
  have hRm : ∀ {rm : Room} {ny : Nat}, RmOk rmX0_endStays rm ny → RmOk (xR X) rm ny := fun h => by rw [hR]; exact h
  intro n
  induction n with
  | zero => intro _ _; exact i_none
  | succ n ih =>
    intro u1 M
    unfold lpX0_endStays_2
    refine i_iload_n C dX0_endStays_2 rfl (q := 1) rfl ?_
    refine i_aload_n C dX0_endStays_3 rfl (q := 0) rfl ?_
    refine i_getR C (k := 8) kX0 dX0_endStays_4 (shP_0 hX hb) rfl (by decide) fl_X0_45 ?_
    refine i_getI C (k := 0) kX9 dX0_endStays_7 (shP_15 hX hb) rfl (by decide) fl_X0_169 rfl ?_
    refine i_icmp_ge (tgt := 67) C dX0_endStays_10 (by decide) ?_ ?_
    · exact i_vret C hq dX0_endStays_67
    · refine i_aload_n C dX0_endStays_13 rfl (q := 0) rfl ?_
      refine i_getR C (k := 8) kX0 dX0_endStays_14 (shP_0 hX hb) rfl (by decide) fl_X0_45 ?_
      refine i_getR C (k := 1) kX9 dX0_endStays_17 (shP_15 hX hb) rfl (by decide) fl_X0_127 ?_
      refine i_iload_n C dX0_endStays_20 rfl (q := 1) rfl ?_
      refine i_ald C dX0_endStays_21 (shP_16 hX hb) (fun v1 => ?_)
      refine i_bipush C dX0_endStays_22 kB_6 ?_
      refine i_jn (fun j => ∀  (M3 : Mem), Im X 0 0 61 [(0, aR b), (1, aI u1)] [] M3 res (j  M3)) ?_ (fun j2 hj2 => ?_)
      · intro  M3
        refine i_iincN (L' := fun v4 => [(0, aR b), (1, aI v4)]) C dX0_endStays_61 (q := 1) rfl hl1 (fun _ => rfl) (fun v4 => ?_)
        refine i_goto (tgt := 2) C dX0_endStays_64 (by decide) ?_
        exact (ih v4 M3)
      refine i_icmp_ne (tgt := 61) C dX0_endStays_24 (by decide) ?_ ?_
      · exact (hj2  M)
      · refine i_aload_n C dX0_endStays_27 rfl (q := 0) rfl ?_
        refine i_getR C (k := 8) kX0 dX0_endStays_28 (shP_0 hX hb) rfl (by decide) fl_X0_45 ?_
        refine i_getR C (k := 7) kX9 dX0_endStays_31 (shP_15 hX hb) rfl (by decide) fl_X0_143 ?_
        refine i_iload_n C dX0_endStays_34 rfl (q := 1) rfl ?_
        refine i_ald C dX0_endStays_35 (shP_22 hX hb) (fun v5 => ?_)
        refine i_iconst C dX0_endStays_36 kI_1 ?_
        refine i_icmp_ne (tgt := 61) C dX0_endStays_37 (by decide) ?_ ?_
        · exact (hj2  M)
        · refine i_aload_n C dX0_endStays_40 rfl (q := 0) rfl ?_
          refine i_getR C (k := 8) kX0 dX0_endStays_41 (shP_0 hX hb) rfl (by decide) fl_X0_45 ?_
          refine i_getR C (k := 8) kX9 dX0_endStays_44 (shP_15 hX hb) rfl (by decide) fl_X0_199 ?_
          refine i_iload_n C dX0_endStays_47 rfl (q := 1) rfl ?_
          refine i_ald C dX0_endStays_48 (shP_23 hX hb) (fun v6 => ?_)
          refine i_aload_n C dX0_endStays_49 rfl (q := 0) rfl ?_
          refine i_getI C (k := 0) kX0 dX0_endStays_50 (shP_0 hX hb) rfl (by decide) fl_X0_9 rfl ?_
          refine i_icmp_gt (tgt := 61) C dX0_endStays_53 (by decide) ?_ ?_
          · exact (hj2  M)
          · refine i_aload_n C dX0_endStays_56 rfl (q := 0) rfl ?_
            refine i_iload_n C dX0_endStays_57 rfl (q := 1) rfl ?_
            refine i_cV (kc' := 0) (ks' := 0) 0 0 2 (fun q hq hM hS => crV C (as := [aI u1]) dX0_endStays_58.1 kX0 (shP_0 hX hb) ml_X0_205 cal_X0_endStay cv_X0_endStay (hRm ⟨Nat.le_of_ble_eq_true rfl, Nat.le_of_ble_eq_true rfl⟩) rfl (Nat.le_of_ble_eq_true rfl) (c_X0_endStay (xl X) (xG X) hX hb hM ⟨hS.2.1, hS.1, trivial⟩ hq)) (Nat.le_of_ble_eq_true rfl) (Nat.le_of_ble_eq_true rfl) rfl rfl rfl (fun M7 => ?_)
            exact (hj2  M7)
set_option maxRecDepth 100000 in
set_option maxHeartbeats 4000000 in
theorem c_X0_endStays (l : Launch) (G : Gx) {K : Kx} (hK : K = kP) {b : Nat} (hb : isC b) {M : Mem} {res : Mem} (hM : OkM M) (ha : okS [aR b]) (hF : pCity_endStays b M = some res) : Ct l G K yX0_endStays (wsM yX0_endStays cX0_endStays 2 none) rmX0_endStays [aR b] M none res := by
  refine ct_of RX0 (by decide +kernel) rfl (hK ▸ kP_ok) hM ha (Nat.le_of_ble_eq_true rfl) hF ?_
  intro X C hl hG hX0 hN hR hq
  have hX : xK X = kP := hX0.trans hK
  show Im X 0 0 0 [(0, aR b)] [] M res (pCity_endStays b M)
  unfold pCity_endStays
  have hl1 : 1 < xn X := by rw [hN]; decide
  have hRm : ∀ {rm : Room} {ny : Nat}, RmOk rmX0_endStays rm ny → RmOk (xR X) rm ny := fun h => by rw [hR]; exact h
  refine i_iconst C dX0_endStays_0 kI_0 ?_
  refine i_istore_n C dX0_endStays_1 rfl hl1 (L' := [(0, aR b), (1, aI 0)]) rfl ?_
  exact (w_X0_endStays_2 C hX hN hR hb hq FU 0 M)
set_option maxRecDepth 100000 in
set_option maxHeartbeats 4000000 in
theorem w_X0_endPasses_2 {X : Xc} (C : Cx X RX0 cX0_endPasses none) (hX : xK X = kP) (hN : xn X = 2) (hR : xR X = rmX0_endPasses) {b : Nat} (hb : isC b) {res : Mem} (hq : Rq X none res) : ∀ (n : Nat) (u1 : Int) (M : Mem), Im X 0 0 2 [(0, aR b), (1, aI u1)] [] M res (lpX0_endPasses_2 b n u1 M) := by
  have hl1 : 1 < xn X := by rw [hN]; decide
  have hRm : ∀ {rm : Room} {ny : Nat}, RmOk rmX0_endPasses rm ny → RmOk (xR X) rm ny := fun h => by rw [hR]; exact h
  intro n
  induction n with
  | zero => intro _ _; exact i_none
  | succ n ih =>
    intro u1 M
    unfold lpX0_endPasses_2
    refine i_iload_n C dX0_endPasses_2 rfl (q := 1) rfl ?_
    refine i_aload_n C dX0_endPasses_3 rfl (q := 0) rfl ?_
    refine i_getR C (k := 8) kX0 dX0_endPasses_4 (shP_0 hX hb) rfl (by decide) fl_X0_45 ?_
    refine i_getI C (k := 0) kX9 dX0_endPasses_7 (shP_15 hX hb) rfl (by decide) fl_X0_169 rfl ?_
    refine i_icmp_ge (tgt := 67) C dX0_endPasses_10 (by decide) ?_ ?_
    · exact i_vret C hq dX0_endPasses_67
    · refine i_aload_n C dX0_endPasses_13 rfl (q := 0) rfl ?_
      refine i_getR C (k := 8) kX0 dX0_endPasses_14 (shP_0 hX hb) rfl (by decide) fl_X0_45 ?_
      refine i_getR C (k := 1) kX9 dX0_endPasses_17 (shP_15 hX hb) rfl (by decide) fl_X0_127 ?_
      refine i_iload_n C dX0_endPasses_20 rfl (q := 1) rfl ?_
      refine i_ald C dX0_endPasses_21 (shP_16 hX hb) (fun v1 => ?_)
      refine i_bipush C dX0_endPasses_22 kB_6 ?_
      refine i_jn (fun j => ∀  (M3 : Mem), Im X 0 0 61 [(0, aR b), (1, aI u1)] [] M3 res (j  M3)) ?_ (fun j2 hj2 => ?_)
      · intro  M3
        refine i_iincN (L' := fun v4 => [(0, aR b), (1, aI v4)]) C dX0_endPasses_61 (q := 1) rfl hl1 (fun _ => rfl) (fun v4 => ?_)
        refine i_goto (tgt := 2) C dX0_endPasses_64 (by decide) ?_
        exact (ih v4 M3)
      refine i_icmp_ne (tgt := 61) C dX0_endPasses_24 (by decide) ?_ ?_
      · exact (hj2  M)
      · refine i_aload_n C dX0_endPasses_27 rfl (q := 0) rfl ?_
        refine i_getR C (k := 8) kX0 dX0_endPasses_28 (shP_0 hX hb) rfl (by decide) fl_X0_45 ?_
        refine i_getR C (k := 7) kX9 dX0_endPasses_31 (shP_15 hX hb) rfl (by decide) fl_X0_143 ?_
        refine i_iload_n C dX0_endPasses_34 rfl (q := 1) rfl ?_
        refine i_ald C dX0_endPasses_35 (shP_22 hX hb) (fun v5 => ?_)
        refine i_if_ne (tgt := 61) C dX0_endPasses_36 (by decide) ?_ ?_
        · exact (hj2  M)
        · refine i_aload_n C dX0_endPasses_39 rfl (q := 0) rfl ?_
          refine i_getR C (k := 8) kX0 dX0_endPasses_40 (shP_0 hX hb) rfl (by decide) fl_X0_45 ?_
          refine i_getR C (k := 6) kX9 dX0_endPasses_43 (shP_15 hX hb) rfl (by decide) fl_X0_211 ?_
          refine i_iload_n C dX0_endPasses_46 rfl (q := 1) rfl ?_
          refine i_ald C dX0_endPasses_47 (shP_21 hX hb) (fun v6 => ?_)
          refine i_aload_n C dX0_endPasses_48 rfl (q := 0) rfl ?_
          refine i_cI (kc' := 0) (ks' := 0) 0 0 1 (fun q hq hM hS => crV C (as := []) dX0_endPasses_49.1 kX0 (shP_0 hX hb) ml_X0_214 cal_X0_day cv_X0_day (hRm ⟨Nat.le_of_ble_eq_true rfl, Nat.le_of_ble_eq_true rfl⟩) rfl (Nat.le_of_ble_eq_true rfl) (c_X0_day (xl X) (xG X) hX hb hM ⟨hS.1, trivial⟩ hq)) (Nat.le_of_ble_eq_true rfl) (Nat.le_of_ble_eq_true rfl) rfl rfl rfl (fun v8 M7 => ?_)
          refine i_icmp_ge (tgt := 61) C dX0_endPasses_52 (by decide) ?_ ?_
          · exact (hj2  M7)
          · refine i_aload_n C dX0_endPasses_55 rfl (q := 0) rfl ?_
            refine i_iload_n C dX0_endPasses_56 rfl (q := 1) rfl ?_
            refine i_iconst C dX0_endPasses_57 kI_2 ?_
            refine i_cV (kc' := 0) (ks' := 0) 0 0 3 (fun q hq hM hS => crV C (as := [aI u1, aI 2]) dX0_endPasses_58.1 kX0 (shP_0 hX hb) ml_X0_218 cal_X0_closePass cv_X0_closePass (hRm ⟨Nat.le_of_ble_eq_true rfl, Nat.le_of_ble_eq_true rfl⟩) rfl (Nat.le_of_ble_eq_true rfl) (c_X0_closePass (xl X) (xG X) hX hb hM ⟨hS.2.2.1, hS.2.1, hS.1, trivial⟩ hq)) (Nat.le_of_ble_eq_true rfl) (Nat.le_of_ble_eq_true rfl) rfl rfl rfl (fun M9 => ?_)
            exact (hj2  M9)
set_option maxRecDepth 100000 in
set_option maxHeartbeats 4000000 in
theorem c_X0_endPasses (l : Launch) (G : Gx) {K : Kx} (hK : K = kP) {b : Nat} (hb : isC b) {M : Mem} {res : Mem} (hM : OkM M) (ha : okS [aR b]) (hF : pCity_endPasses b M = some res) : Ct l G K yX0_endPasses (wsM yX0_endPasses cX0_endPasses 2 none) rmX0_endPasses [aR b] M none res := by
  refine ct_of RX0 (by decide +kernel) rfl (hK ▸ kP_ok) hM ha (Nat.le_of_ble_eq_true rfl) hF ?_
  intro X C hl hG hX0 hN hR hq
  have hX : xK X = kP := hX0.trans hK
  show Im X 0 0 0 [(0, aR b)] [] M res (pCity_endPasses b M)
  unfold pCity_endPasses
  have hl1 : 1 < xn X := by rw [hN]; decide
  have hRm : ∀ {rm : Room} {ny : Nat}, RmOk rmX0_endPasses rm ny → RmOk (xR X) rm ny := fun h => by rw [hR]; exact h
  refine i_iconst C dX0_endPasses_0 kI_0 ?_
  refine i_istore_n C dX0_endPasses_1 rfl hl1 (L' := [(0, aR b), (1, aI 0)]) rfl ?_
  exact (w_X0_endPasses_2 C hX hN hR hb hq FU 0 M)
set_option maxRecDepth 100000 in
set_option maxHeartbeats 4000000 in
theorem w_X7_foremost_5 {X : Xc} (C : Cx X RX7 cX7_foremost (some .int)) (hX : xK X = kP) (hN : xn X = 4) (hR : xR X = rmX7_foremost) {b : Nat} (hb : isC b) {res : Int × Mem} (hq : Rq X (some (aI res.1)) res.2) (y1 : Int) : ∀ (n : Nat) (u2 : Int) (u3 : Int) (M : Mem), Im X 0 0 5 [(0, aR (b + 30)), (1, aI y1), (2, aI u2), (3, aI u3)] [] M res (lpX7_foremost_5 b y1 n u2 u3 M) := by
  have hl2 : 2 < xn X := by rw [hN]; decide
  have hl3 : 3 < xn X := by rw [hN]; decide
  intro n
  induction n with
  | zero => intro _ _ _; exact i_none
  | succ n ih =>
    intro u2 u3 M
    unfold lpX7_foremost_5
    refine i_iload_n C dX7_foremost_5 rfl (q := 3) rfl ?_
    refine i_aload_n C dX7_foremost_6 rfl (q := 0) rfl ?_
    refine i_getI C (k := 4) kX7 dX7_foremost_7 (shP_30 hX hb) rfl (by decide) fl_X7_25 rfl ?_
    refine i_icmp_ge (tgt := 52) C dX7_foremost_10 (by decide) ?_ ?_
    · refine i_iload_n C dX7_foremost_52 rfl (q := 2) rfl ?_
      exact i_iret C hq dX7_foremost_53
    · refine i_aload_n C dX7_foremost_13 rfl (q := 0) rfl ?_
      refine i_getR C (k := 5) kX7 dX7_foremost_14 (shP_30 hX hb) rfl (by decide) fl_X7_28 ?_
      refine i_iload_n C dX7_foremost_17 rfl (q := 3) rfl ?_
      refine i_ald C dX7_foremost_18 (shP_34 hX hb) (fun v1 => ?_)
      refine i_iload_n C dX7_foremost_19 rfl (q := 1) rfl ?_
      refine i_jn (fun j => ∀ (p2 : Int) (M4 : Mem), Im X 0 0 46 [(0, aR (b + 30)), (1, aI y1), (2, aI p2), (3, aI u3)] [] M4 res (j p2 M4)) ?_ (fun j3 hj3 => ?_)
      · intro p2 M4
        refine i_iincN (L' := fun v5 => [(0, aR (b + 30)), (1, aI y1), (2, aI p2), (3, aI v5)]) C dX7_foremost_46 (q := 3) rfl hl3 (fun _ => rfl) (fun v5 => ?_)
        refine i_goto (tgt := 5) C dX7_foremost_49 (by decide) ?_
        exact (ih p2 v5 M4)
      refine i_icmp_ne (tgt := 46) C dX7_foremost_20 (by decide) ?_ ?_
      · exact (hj3 u2 M)
      · refine i_iload_n C dX7_foremost_23 rfl (q := 2) rfl ?_
        refine i_ldc C dX7_foremost_24 kc_X7_50 kI_m1000000005 ?_
        refine i_jn (fun j => ∀  (M7 : Mem), Im X 0 0 44 [(0, aR (b + 30)), (1, aI y1), (3, aI u3)] [] M7 res (j  M7)) ?_ (fun j6 hj6 => ?_)
        · intro  M7
          refine i_iload_n C dX7_foremost_44 rfl (q := 2) rfl ?_
          refine i_istore_n C dX7_foremost_45 rfl hl2 (L' := [(0, aR (b + 30)), (1, aI y1), (2, aI u3), (3, aI u3)]) rfl ?_
          exact (hj3 u3 M7)
        refine i_icmp_eq (tgt := 44) C dX7_foremost_26 (by decide) ?_ ?_
        · exact i_sub [0, 1, 3] rfl (hj6  M)
        · refine i_aload_n C dX7_foremost_29 rfl (q := 0) rfl ?_
          refine i_getR C (k := 6) kX7 dX7_foremost_30 (shP_30 hX hb) rfl (by decide) fl_X7_31 ?_
          refine i_iload_n C dX7_foremost_33 rfl (q := 3) rfl ?_
          refine i_ald C dX7_foremost_34 (shP_35 hX hb) (fun v8 => ?_)
          refine i_aload_n C dX7_foremost_35 rfl (q := 0) rfl ?_
          refine i_getR C (k := 6) kX7 dX7_foremost_36 (shP_30 hX hb) rfl (by decide) fl_X7_31 ?_
          refine i_iload_n C dX7_foremost_39 rfl (q := 2) rfl ?_
          refine i_ald C dX7_foremost_40 (shP_35 hX hb) (fun v9 => ?_)
          refine i_icmp_le (tgt := 46) C dX7_foremost_41 (by decide) ?_ ?_
          · exact (hj3 u2 M)
          · exact i_sub [0, 1, 3] rfl (hj6  M)
set_option maxRecDepth 100000 in
set_option maxHeartbeats 4000000 in
theorem c_X7_foremost (l : Launch) (G : Gx) {K : Kx} (hK : K = kP) {b : Nat} {x1 : Int} (hb : isC b) {M : Mem} {res : Int × Mem} (hM : OkM M) (ha : okS [aR (b + 30), aI x1]) (hF : pPost_foremost b x1 M = some res) : Ct l G K yX7_foremost (wsM yX7_foremost cX7_foremost 4 (some .int)) rmX7_foremost [aR (b + 30), aI x1] M (some (aI res.1)) res.2 := by
  refine ct_of RX7 (by decide +kernel) rfl (hK ▸ kP_ok) hM ha (Nat.le_of_ble_eq_true rfl) hF ?_
  intro X C hl hG hX0 hN hR hq
  have hX : xK X = kP := hX0.trans hK
  show Im X 0 0 0 [(0, aR (b + 30)), (1, aI x1)] [] M res (pPost_foremost b x1 M)
  unfold pPost_foremost
  have hl2 : 2 < xn X := by rw [hN]; decide
  have hl3 : 3 < xn X := by rw [hN]; decide
  refine i_ldc C dX7_foremost_0 kc_X7_50 kI_m1000000005 ?_
  refine i_istore_n C dX7_foremost_2 rfl hl2 (L' := [(0, aR (b + 30)), (1, aI x1), (2, aI (-1000000005))]) rfl ?_
  refine i_iconst C dX7_foremost_3 kI_0 ?_
  refine i_istore_n C dX7_foremost_4 rfl hl3 (L' := [(0, aR (b + 30)), (1, aI x1), (2, aI (-1000000005)), (3, aI 0)]) rfl ?_
  exact (w_X7_foremost_5 C hX hN hR hb hq x1 FU (-1000000005) 0 M)
set_option maxRecDepth 100000 in
set_option maxHeartbeats 4000000 in
theorem w_X7_dropCall_2 {X : Xc} (C : Cx X RX7 cX7_dropCall none) (hX : xK X = kP) (hN : xn X = 3) (hR : xR X = rmX7_dropCall) {b : Nat} (hb : isC b) {res : Mem} (hq : Rq X none res) {k60 : Mem → Option (Mem)} (hk60 : ∀ (M : Mem), Im X 0 0 60 [(0, aR (b + 30))] [] M res (k60 M)) : ∀ (n : Nat) (u2 : Int) (M : Mem), Im X 0 0 2 [(0, aR (b + 30)), (2, aI u2)] [] M res (lpX7_dropCall_2 b k60 n u2 M) := by
  have hl2 : 2 < xn X := by rw [hN]; decide
  intro n
  induction n with
  | zero => intro _ _; exact i_none
  | succ n ih =>
    intro u2 M
    unfold lpX7_dropCall_2
    refine i_iload_n C dX7_dropCall_2 rfl (q := 1) rfl ?_
    refine i_aload_n C dX7_dropCall_3 rfl (q := 0) rfl ?_
    refine i_getI C (k := 4) kX7 dX7_dropCall_4 (shP_30 hX hb) rfl (by decide) fl_X7_25 rfl ?_
    refine i_iconst C dX7_dropCall_7 kI_1 ?_
    refine i_isub C dX7_dropCall_8 ?_
    refine i_icmp_ge (tgt := 60) C dX7_dropCall_9 (by decide) ?_ ?_
    · exact i_sub [0] rfl (hk60  M)
    · refine i_aload_n C dX7_dropCall_12 rfl (q := 0) rfl ?_
      refine i_getR C (k := 5) kX7 dX7_dropCall_13 (shP_30 hX hb) rfl (by decide) fl_X7_28 ?_
      refine i_iload_n C dX7_dropCall_16 rfl (q := 1) rfl ?_
      refine i_aload_n C dX7_dropCall_17 rfl (q := 0) rfl ?_
      refine i_getR C (k := 5) kX7 dX7_dropCall_18 (shP_30 hX hb) rfl (by decide) fl_X7_28 ?_
      refine i_iload_n C dX7_dropCall_21 rfl (q := 1) rfl ?_
      refine i_iconst C dX7_dropCall_22 kI_1 ?_
      refine i_iadd C dX7_dropCall_23 ?_
      refine i_ald C dX7_dropCall_24 (shP_34 hX hb) (fun v1 => ?_)
      refine i_ast C dX7_dropCall_25 (shP_34 hX hb) (fun M2 => ?_)
      refine i_aload_n C dX7_dropCall_26 rfl (q := 0) rfl ?_
      refine i_getR C (k := 6) kX7 dX7_dropCall_27 (shP_30 hX hb) rfl (by decide) fl_X7_31 ?_
      refine i_iload_n C dX7_dropCall_30 rfl (q := 1) rfl ?_
      refine i_aload_n C dX7_dropCall_31 rfl (q := 0) rfl ?_
      refine i_getR C (k := 6) kX7 dX7_dropCall_32 (shP_30 hX hb) rfl (by decide) fl_X7_31 ?_
      refine i_iload_n C dX7_dropCall_35 rfl (q := 1) rfl ?_
      refine i_iconst C dX7_dropCall_36 kI_1 ?_
      refine i_iadd C dX7_dropCall_37 ?_
      refine i_ald C dX7_dropCall_38 (shP_35 hX hb) (fun v3 => ?_)
      refine i_ast C dX7_dropCall_39 (shP_35 hX hb) (fun M4 => ?_)
      refine i_aload_n C dX7_dropCall_40 rfl (q := 0) rfl ?_
      refine i_getR C (k := 7) kX7 dX7_dropCall_41 (shP_30 hX hb) rfl (by decide) fl_X7_34 ?_
      refine i_iload_n C dX7_dropCall_44 rfl (q := 1) rfl ?_
      refine i_aload_n C dX7_dropCall_45 rfl (q := 0) rfl ?_
      refine i_getR C (k := 7) kX7 dX7_dropCall_46 (shP_30 hX hb) rfl (by decide) fl_X7_34 ?_
      refine i_iload_n C dX7_dropCall_49 rfl (q := 1) rfl ?_
      refine i_iconst C dX7_dropCall_50 kI_1 ?_
      refine i_iadd C dX7_dropCall_51 ?_
      refine i_ald C dX7_dropCall_52 (shP_36 hX hb) (fun v5 => ?_)
      refine i_ast C dX7_dropCall_53 (shP_36 hX hb) (fun M6 => ?_)
      refine i_iincN (L' := fun v7 => [(0, aR (b + 30)), (2, aI v7)]) C dX7_dropCall_54 (q := 1) rfl hl2 (fun _ => rfl) (fun v7 => ?_)
      refine i_goto (tgt := 2) C dX7_dropCall_57 (by decide) ?_
      exact (ih v7 M6)
set_option maxRecDepth 100000 in
set_option maxHeartbeats 4000000 in
theorem c_X7_dropCall (l : Launch) (G : Gx) {K : Kx} (hK : K = kP) {b : Nat} {x1 : Int} (hb : isC b) {M : Mem} {res : Mem} (hM : OkM M) (ha : okS [aR (b + 30), aI x1]) (hF : pPost_dropCall b x1 M = some res) : Ct l G K yX7_dropCall (wsM yX7_dropCall cX7_dropCall 3 none) rmX7_dropCall [aR (b + 30), aI x1] M none res := by
  refine ct_of RX7 (by decide +kernel) rfl (hK ▸ kP_ok) hM ha (Nat.le_of_ble_eq_true rfl) hF ?_
  intro X C hl hG hX0 hN hR hq
  have hX : xK X = kP := hX0.trans hK
  show Im X 0 0 0 [(0, aR (b + 30)), (1, aI x1)] [] M res (pPost_dropCall b x1 M)
  unfold pPost_dropCall
  have hl2 : 2 < xn X := by rw [hN]; decide
  refine i_iload_n C dX7_dropCall_0 rfl (q := 1) rfl ?_
  refine i_istore_n C dX7_dropCall_1 rfl hl2 (L' := [(0, aR (b + 30)), (1, aI x1), (2, aI x1)]) rfl ?_
  refine i_sub [0, 2] rfl (w_X7_dropCall_2 C hX hN hR hb hq (fun M8 => ?_) FU x1 M)
  refine i_aload_n C dX7_dropCall_60 rfl (q := 0) rfl ?_
  refine i_dup C dX7_dropCall_61 rfl ?_
  refine i_getI C (k := 4) kX7 dX7_dropCall_62 (shP_30 hX hb) rfl (by decide) fl_X7_25 rfl ?_
  refine i_iconst C dX7_dropCall_65 kI_1 ?_
  refine i_isub C dX7_dropCall_66 ?_
  refine i_putI C (k := 4) kX7 dX7_dropCall_67 (shP_30 hX hb) rfl (by decide) fl_X7_25 rfl rfl rfl rfl (fun M9 => ?_)
  exact i_vret C hq dX7_dropCall_70
set_option maxRecDepth 100000 in
set_option maxHeartbeats 4000000 in
theorem w_X7_serve_6 {X : Xc} (C : Cx X RX7 cX7_serve none) (hX : xK X = kP) (hN : xn X = 8) (hR : xR X = rmX7_serve) {b : Nat} (hb : isC b) {res : Mem} (hq : Rq X none res) (y1 : Int) : ∀ (n : Nat) (u4 : Int) (u5 : Int) (M : Mem), Im X 0 0 6 [(0, aR (b + 30)), (1, aI y1), (3, aR (b + 6)), (4, aI u4), (5, aI u5)] [] M res (lpX7_serve_6 b y1 n u4 u5 M) := by
  have hl4 : 4 < xn X := by rw [hN]; decide
  have hl5 : 5 < xn X := by rw [hN]; decide
  have hl6 : 6 < xn X := by rw [hN]; decide
  have hl7 : 7 < xn X := by rw [hN]; decide
  have hRj : 1 ≤ (xR X).frames ∧ 60 ≤ (xR X).locals := by rw [hR]; exact ⟨Nat.le_of_ble_eq_true rfl, Nat.le_of_ble_eq_true rfl⟩
  have hRm : ∀ {rm : Room} {ny : Nat}, RmOk rmX7_serve rm ny → RmOk (xR X) rm ny := fun h => by rw [hR]; exact h
  intro n
  induction n with
  | zero => intro _ _ _; exact i_none
  | succ n ih =>
    intro u4 u5 M
    unfold lpX7_serve_6
    refine i_iload C dX7_serve_6 (q := 4) rfl ?_
    refine i_bipush C dX7_serve_8 kB_20 ?_
    refine i_icmp_ge (tgt := 98) C dX7_serve_10 (by decide) ?_ ?_
    · exact i_vret C hq dX7_serve_98
    · refine i_iload C dX7_serve_13 (q := 3) rfl ?_
      refine i_if_le (tgt := 98) C dX7_serve_15 (by decide) ?_ ?_
      · exact i_vret C hq dX7_serve_98
      · refine i_aload_n C dX7_serve_18 rfl (q := 0) rfl ?_
        refine i_iload_n C dX7_serve_19 rfl (q := 1) rfl ?_
        refine i_cI (kc' := 0) (ks' := 0) 0 0 2 (fun q hq hM hS => crV C (as := [aI y1]) dX7_serve_20.1 kX7 (shP_30 hX hb) ml_X7_46 cal_X7_foremost cv_X7_foremost (hRm ⟨Nat.le_of_ble_eq_true rfl, Nat.le_of_ble_eq_true rfl⟩) rfl (Nat.le_of_ble_eq_true rfl) (c_X7_foremost (xl X) (xG X) hX hb hM ⟨hS.2.1, hS.1, trivial⟩ hq)) (Nat.le_of_ble_eq_true rfl) (Nat.le_of_ble_eq_true rfl) rfl rfl rfl (fun v2 M1 => ?_)
        refine i_istore C dX7_serve_23 hl6 (L' := [(0, aR (b + 30)), (1, aI y1), (3, aR (b + 6)), (4, aI u4), (5, aI u5), (6, aI v2)]) rfl ?_
        refine i_iload C dX7_serve_25 (q := 5) rfl ?_
        refine i_ldc C dX7_serve_27 kc_X7_50 kI_m1000000005 ?_
        refine i_icmp_ne (tgt := 33) C dX7_serve_29 (by decide) ?_ ?_
        · refine i_iload C dX7_serve_33 (q := 3) rfl ?_
          refine i_aload_n C dX7_serve_35 rfl (q := 0) rfl ?_
          refine i_getR C (k := 7) kX7 dX7_serve_36 (shP_30 hX hb) rfl (by decide) fl_X7_34 ?_
          refine i_iload C dX7_serve_39 (q := 5) rfl ?_
          refine i_ald C dX7_serve_41 (shP_36 hX hb) (fun v3 => ?_)
          refine i_mmin C hRj ml_X7_51 dX7_serve_42 (Nat.le_of_ble_eq_true rfl) ?_
          refine i_nm (fun v4 => ?_)
          refine i_istore C dX7_serve_45 hl7 (L' := [(0, aR (b + 30)), (1, aI y1), (3, aR (b + 6)), (4, aI u4), (5, aI u5), (6, aI v2), (7, aI v4)]) rfl ?_
          refine i_iload C dX7_serve_47 (q := 3) rfl ?_
          refine i_iload C dX7_serve_49 (q := 6) rfl ?_
          refine i_isub C dX7_serve_51 ?_
          refine i_nm (fun v5 => ?_)
          refine i_istore C dX7_serve_52 hl4 (L' := [(0, aR (b + 30)), (1, aI y1), (3, aR (b + 6)), (4, aI v5), (5, aI u5), (6, aI v2), (7, aI v4)]) rfl ?_
          refine i_aload_n C dX7_serve_54 rfl (q := 0) rfl ?_
          refine i_getR C (k := 7) kX7 dX7_serve_55 (shP_30 hX hb) rfl (by decide) fl_X7_34 ?_
          refine i_iload C dX7_serve_58 (q := 5) rfl ?_
          refine i_dup2 C dX7_serve_60 rfl rfl ?_
          refine i_ald C dX7_serve_61 (shP_36 hX hb) (fun v6 => ?_)
          refine i_iload C dX7_serve_62 (q := 6) rfl ?_
          refine i_isub C dX7_serve_64 ?_
          refine i_ast C dX7_serve_65 (shP_36 hX hb) (fun M7 => ?_)
          refine i_aload_n C dX7_serve_66 rfl (q := 0) rfl ?_
          refine i_getR C (k := 7) kX7 dX7_serve_67 (shP_30 hX hb) rfl (by decide) fl_X7_34 ?_
          refine i_iload C dX7_serve_70 (q := 5) rfl ?_
          refine i_ald C dX7_serve_72 (shP_36 hX hb) (fun v8 => ?_)
          refine i_jn (fun j => ∀  (M10 : Mem), Im X 0 0 92 [(0, aR (b + 30)), (1, aI y1), (3, aR (b + 6)), (4, aI v5), (5, aI u5)] [] M10 res (j  M10)) ?_ (fun j9 hj9 => ?_)
          · intro  M10
            refine i_iincN (L' := fun v11 => [(0, aR (b + 30)), (1, aI y1), (3, aR (b + 6)), (4, aI v5), (5, aI v11)]) C dX7_serve_92 (q := 4) rfl hl5 (fun _ => rfl) (fun v11 => ?_)
            refine i_goto (tgt := 6) C dX7_serve_95 (by decide) ?_
            exact (ih v5 v11 M10)
          refine i_if_ne (tgt := 92) C dX7_serve_73 (by decide) ?_ ?_
          · exact i_sub [0, 1, 2, 3, 4] rfl (hj9  M7)
          · refine i_aload_n C dX7_serve_76 rfl (q := 0) rfl ?_
            refine i_iload C dX7_serve_77 (q := 5) rfl ?_
            refine i_cV (kc' := 0) (ks' := 0) 0 0 2 (fun q hq hM hS => crV C (as := [aI v2]) dX7_serve_79.1 kX7 (shP_30 hX hb) ml_X7_57 cal_X7_dropCall cv_X7_dropCall (hRm ⟨Nat.le_of_ble_eq_true rfl, Nat.le_of_ble_eq_true rfl⟩) rfl (Nat.le_of_ble_eq_true rfl) (c_X7_dropCall (xl X) (xG X) hX hb hM ⟨hS.2.1, hS.1, trivial⟩ hq)) (Nat.le_of_ble_eq_true rfl) (Nat.le_of_ble_eq_true rfl) rfl rfl rfl (fun M12 => ?_)
            refine i_aload_n C dX7_serve_82 rfl (q := 2) rfl ?_
            refine i_iconst C dX7_serve_83 kI_0 ?_
            refine i_cV (kc' := 0) (ks' := 0) 0 0 2 (fun q hq hM hS => crV C (as := [aI 0]) dX7_serve_84.1 kX6 (shP_6 hX hb) ml_X7_61 cal_X6_learn cv_X6_learn (hRm ⟨Nat.le_of_ble_eq_true rfl, Nat.le_of_ble_eq_true rfl⟩) rfl (Nat.le_of_ble_eq_true rfl) (c_X6_learn (xl X) (xG X) hX hb hM ⟨hS.2.1, hS.1, trivial⟩ hq)) (Nat.le_of_ble_eq_true rfl) (Nat.le_of_ble_eq_true rfl) rfl rfl rfl (fun M13 => ?_)
            refine i_aload_n C dX7_serve_87 rfl (q := 2) rfl ?_
            refine i_iconst C dX7_serve_88 kI_1 ?_
            refine i_cV (kc' := 0) (ks' := 0) 0 0 2 (fun q hq hM hS => crV C (as := [aI 1]) dX7_serve_89.1 kX6 (shP_6 hX hb) ml_X7_61 cal_X6_learn cv_X6_learn (hRm ⟨Nat.le_of_ble_eq_true rfl, Nat.le_of_ble_eq_true rfl⟩) rfl (Nat.le_of_ble_eq_true rfl) (c_X6_learn (xl X) (xG X) hX hb hM ⟨hS.2.1, hS.1, trivial⟩ hq)) (Nat.le_of_ble_eq_true rfl) (Nat.le_of_ble_eq_true rfl) rfl rfl rfl (fun M14 => ?_)
            exact i_sub [0, 1, 2, 3, 4] rfl (hj9  M14)
        · exact i_vret C hq dX7_serve_32
set_option maxRecDepth 100000 in
set_option maxHeartbeats 4000000 in
theorem c_X7_serve (l : Launch) (G : Gx) {K : Kx} (hK : K = kP) {b : Nat} {x1 : Int} {x2 : Int} (hb : isC b) {M : Mem} {res : Mem} (hM : OkM M) (ha : okS [aR (b + 30), aI x1, aI x2, aR (b + 6)]) (hF : pPost_serve b x1 x2 M = some res) : Ct l G K yX7_serve (wsM yX7_serve cX7_serve 8 none) rmX7_serve [aR (b + 30), aI x1, aI x2, aR (b + 6)] M none res := by
  refine ct_of RX7 (by decide +kernel) rfl (hK ▸ kP_ok) hM ha (Nat.le_of_ble_eq_true rfl) hF ?_
  intro X C hl hG hX0 hN hR hq
  have hX : xK X = kP := hX0.trans hK
  show Im X 0 0 0 [(0, aR (b + 30)), (1, aI x1), (2, aI x2), (3, aR (b + 6))] [] M res (pPost_serve b x1 x2 M)
  unfold pPost_serve
  have hl4 : 4 < xn X := by rw [hN]; decide
  have hl5 : 5 < xn X := by rw [hN]; decide
  have hl6 : 6 < xn X := by rw [hN]; decide
  have hl7 : 7 < xn X := by rw [hN]; decide
  have hRj : 1 ≤ (xR X).frames ∧ 60 ≤ (xR X).locals := by rw [hR]; exact ⟨Nat.le_of_ble_eq_true rfl, Nat.le_of_ble_eq_true rfl⟩
  have hRm : ∀ {rm : Room} {ny : Nat}, RmOk rmX7_serve rm ny → RmOk (xR X) rm ny := fun h => by rw [hR]; exact h
  refine i_iload_n C dX7_serve_0 rfl (q := 2) rfl ?_
  refine i_istore C dX7_serve_1 hl4 (L' := [(0, aR (b + 30)), (1, aI x1), (2, aI x2), (3, aR (b + 6)), (4, aI x2)]) rfl ?_
  refine i_iconst C dX7_serve_3 kI_0 ?_
  refine i_istore C dX7_serve_4 hl5 (L' := [(0, aR (b + 30)), (1, aI x1), (2, aI x2), (3, aR (b + 6)), (4, aI x2), (5, aI 0)]) rfl ?_
  exact i_sub [0, 1, 3, 4, 5] rfl (w_X7_serve_6 C hX hN hR hb hq x1 FU x2 0 M)
set_option maxRecDepth 100000 in
set_option maxHeartbeats 4000000 in
theorem w_X0_serveWires_2 {X : Xc} (C : Cx X RX0 cX0_serveWires none) (hX : xK X = kP) (hN : xn X = 2) (hR : xR X = rmX0_serveWires) {b : Nat} (hb : isC b) {res : Mem} (hq : Rq X none res) : ∀ (n : Nat) (u1 : Int) (M : Mem), Im X 0 0 2 [(0, aR b), (1, aI u1)] [] M res (lpX0_serveWires_2 b n u1 M) := by
  have hl1 : 1 < xn X := by rw [hN]; decide
  have hRm : ∀ {rm : Room} {ny : Nat}, RmOk rmX0_serveWires rm ny → RmOk (xR X) rm ny := fun h => by rw [hR]; exact h
  intro n
  induction n with
  | zero => intro _ _; exact i_none
  | succ n ih =>
    intro u1 M
    unfold lpX0_serveWires_2
    refine i_iload_n C dX0_serveWires_2 rfl (q := 1) rfl ?_
    refine i_aload_n C dX0_serveWires_3 rfl (q := 0) rfl ?_
    refine i_getR C (k := 8) kX0 dX0_serveWires_4 (shP_0 hX hb) rfl (by decide) fl_X0_45 ?_
    refine i_getI C (k := 0) kX9 dX0_serveWires_7 (shP_15 hX hb) rfl (by decide) fl_X0_169 rfl ?_
    refine i_icmp_ge (tgt := 53) C dX0_serveWires_10 (by decide) ?_ ?_
    · exact i_vret C hq dX0_serveWires_53
    · refine i_aload_n C dX0_serveWires_13 rfl (q := 0) rfl ?_
      refine i_getR C (k := 8) kX0 dX0_serveWires_14 (shP_0 hX hb) rfl (by decide) fl_X0_45 ?_
      refine i_getR C (k := 1) kX9 dX0_serveWires_17 (shP_15 hX hb) rfl (by decide) fl_X0_127 ?_
      refine i_iload_n C dX0_serveWires_20 rfl (q := 1) rfl ?_
      refine i_ald C dX0_serveWires_21 (shP_16 hX hb) (fun v1 => ?_)
      refine i_iconst C dX0_serveWires_22 kI_4 ?_
      refine i_jn (fun j => ∀  (M3 : Mem), Im X 0 0 47 [(0, aR b), (1, aI u1)] [] M3 res (j  M3)) ?_ (fun j2 hj2 => ?_)
      · intro  M3
        refine i_iincN (L' := fun v4 => [(0, aR b), (1, aI v4)]) C dX0_serveWires_47 (q := 1) rfl hl1 (fun _ => rfl) (fun v4 => ?_)
        refine i_goto (tgt := 2) C dX0_serveWires_50 (by decide) ?_
        exact (ih v4 M3)
      refine i_icmp_ne (tgt := 47) C dX0_serveWires_23 (by decide) ?_ ?_
      · exact (hj2  M)
      · refine i_aload_n C dX0_serveWires_26 rfl (q := 0) rfl ?_
        refine i_getR C (k := 9) kX0 dX0_serveWires_27 (shP_0 hX hb) rfl (by decide) fl_X0_52 ?_
        refine i_iload_n C dX0_serveWires_30 rfl (q := 1) rfl ?_
        refine i_aload_n C dX0_serveWires_31 rfl (q := 0) rfl ?_
        refine i_getR C (k := 8) kX0 dX0_serveWires_32 (shP_0 hX hb) rfl (by decide) fl_X0_45 ?_
        refine i_getR C (k := 4) kX9 dX0_serveWires_35 (shP_15 hX hb) rfl (by decide) fl_X0_177 ?_
        refine i_iload_n C dX0_serveWires_38 rfl (q := 1) rfl ?_
        refine i_ald C dX0_serveWires_39 (shP_19 hX hb) (fun v5 => ?_)
        refine i_aload_n C dX0_serveWires_40 rfl (q := 0) rfl ?_
        refine i_getR C (k := 7) kX0 dX0_serveWires_41 (shP_0 hX hb) rfl (by decide) fl_X0_38 ?_
        refine i_cV (kc' := 0) (ks' := 0) 0 0 4 (fun q hq hM hS => crV C (as := [aI u1, aI v5, aR (b + 6)]) dX0_serveWires_44.1 kX7 (shP_30 hX hb) ml_X0_221 cal_X7_serve cv_X7_serve (hRm ⟨Nat.le_of_ble_eq_true rfl, Nat.le_of_ble_eq_true rfl⟩) rfl (Nat.le_of_ble_eq_true rfl) (c_X7_serve (xl X) (xG X) hX hb hM ⟨hS.2.2.2.1, hS.2.2.1, hS.2.1, hS.1, trivial⟩ hq)) (Nat.le_of_ble_eq_true rfl) (Nat.le_of_ble_eq_true rfl) rfl rfl rfl (fun M6 => ?_)
        exact (hj2  M6)
set_option maxRecDepth 100000 in
set_option maxHeartbeats 4000000 in
theorem c_X0_serveWires (l : Launch) (G : Gx) {K : Kx} (hK : K = kP) {b : Nat} (hb : isC b) {M : Mem} {res : Mem} (hM : OkM M) (ha : okS [aR b]) (hF : pCity_serveWires b M = some res) : Ct l G K yX0_serveWires (wsM yX0_serveWires cX0_serveWires 2 none) rmX0_serveWires [aR b] M none res := by
  refine ct_of RX0 (by decide +kernel) rfl (hK ▸ kP_ok) hM ha (Nat.le_of_ble_eq_true rfl) hF ?_
  intro X C hl hG hX0 hN hR hq
  have hX : xK X = kP := hX0.trans hK
  show Im X 0 0 0 [(0, aR b)] [] M res (pCity_serveWires b M)
  unfold pCity_serveWires
  have hl1 : 1 < xn X := by rw [hN]; decide
  have hRm : ∀ {rm : Room} {ny : Nat}, RmOk rmX0_serveWires rm ny → RmOk (xR X) rm ny := fun h => by rw [hR]; exact h
  refine i_iconst C dX0_serveWires_0 kI_0 ?_
  refine i_istore_n C dX0_serveWires_1 rfl hl1 (L' := [(0, aR b), (1, aI 0)]) rfl ?_
  exact (w_X0_serveWires_2 C hX hN hR hb hq FU 0 M)
set_option maxRecDepth 100000 in
set_option maxHeartbeats 4000000 in
theorem c_X0_passHour (l : Launch) (G : Gx) {K : Kx} (hK : K = kP) {b : Nat} (hb : isC b) {M : Mem} {res : Mem} (hM : OkM M) (ha : okS [aR b]) (hF : pCity_passHour b M = some res) : Ct l G K yX0_passHour (wsM yX0_passHour cX0_passHour 1 none) rmX0_passHour [aR b] M none res := by
  refine ct_of RX0 (by decide +kernel) rfl (hK ▸ kP_ok) hM ha (Nat.le_of_ble_eq_true rfl) hF ?_
  intro X C hl hG hX0 hN hR hq
  have hX : xK X = kP := hX0.trans hK
  show Im X 0 0 0 [(0, aR b)] [] M res (pCity_passHour b M)
  unfold pCity_passHour
  have hRm : ∀ {rm : Room} {ny : Nat}, RmOk rmX0_passHour rm ny → RmOk (xR X) rm ny := fun h => by rw [hR]; exact h
  refine i_aload_n C dX0_passHour_0 rfl (q := 0) rfl ?_
  refine i_getR C (k := 9) kX0 dX0_passHour_1 (shP_0 hX hb) rfl (by decide) fl_X0_52 ?_
  refine i_aload_n C dX0_passHour_4 rfl (q := 0) rfl ?_
  refine i_getI C (k := 0) kX0 dX0_passHour_5 (shP_0 hX hb) rfl (by decide) fl_X0_9 rfl ?_
  refine i_aload_n C dX0_passHour_8 rfl (q := 0) rfl ?_
  refine i_getR C (k := 7) kX0 dX0_passHour_9 (shP_0 hX hb) rfl (by decide) fl_X0_38 ?_
  refine i_cV (kc' := 0) (ks' := 0) 0 0 3 (fun q hq hM hS => crV C (as := [aI (M b 0), aR (b + 6)]) dX0_passHour_12.1 kX7 (shP_30 hX hb) ml_X0_153 cal_X7_deliver cv_X7_deliver (hRm ⟨Nat.le_of_ble_eq_true rfl, Nat.le_of_ble_eq_true rfl⟩) rfl (Nat.le_of_ble_eq_true rfl) (c_X7_deliver (xl X) (xG X) hX hb hM ⟨hS.2.2.1, hS.2.1, hS.1, trivial⟩ hq)) (Nat.le_of_ble_eq_true rfl) (Nat.le_of_ble_eq_true rfl) rfl rfl rfl (fun M1 => ?_)
  refine i_aload_n C dX0_passHour_15 rfl (q := 0) rfl ?_
  refine i_cV (kc' := 0) (ks' := 0) 0 0 1 (fun q hq hM hS => crV C (as := []) dX0_passHour_16.1 kX0 (shP_0 hX hb) ml_X0_157 cal_X0_openStreets cv_X0_openStreets (hRm ⟨Nat.le_of_ble_eq_true rfl, Nat.le_of_ble_eq_true rfl⟩) rfl (Nat.le_of_ble_eq_true rfl) (c_X0_openStreets (xl X) (xG X) hX hb hM ⟨hS.1, trivial⟩ hq)) (Nat.le_of_ble_eq_true rfl) (Nat.le_of_ble_eq_true rfl) rfl rfl rfl (fun M2 => ?_)
  refine i_aload_n C dX0_passHour_19 rfl (q := 0) rfl ?_
  refine i_cV (kc' := 0) (ks' := 0) 0 0 1 (fun q hq hM hS => crV C (as := []) dX0_passHour_20.1 kX0 (shP_0 hX hb) ml_X0_160 cal_X0_endStays cv_X0_endStays (hRm ⟨Nat.le_of_ble_eq_true rfl, Nat.le_of_ble_eq_true rfl⟩) rfl (Nat.le_of_ble_eq_true rfl) (c_X0_endStays (xl X) (xG X) hX hb hM ⟨hS.1, trivial⟩ hq)) (Nat.le_of_ble_eq_true rfl) (Nat.le_of_ble_eq_true rfl) rfl rfl rfl (fun M3 => ?_)
  refine i_aload_n C dX0_passHour_23 rfl (q := 0) rfl ?_
  refine i_cV (kc' := 0) (ks' := 0) 0 0 1 (fun q hq hM hS => crV C (as := []) dX0_passHour_24.1 kX0 (shP_0 hX hb) ml_X0_163 cal_X0_endPasses cv_X0_endPasses (hRm ⟨Nat.le_of_ble_eq_true rfl, Nat.le_of_ble_eq_true rfl⟩) rfl (Nat.le_of_ble_eq_true rfl) (c_X0_endPasses (xl X) (xG X) hX hb hM ⟨hS.1, trivial⟩ hq)) (Nat.le_of_ble_eq_true rfl) (Nat.le_of_ble_eq_true rfl) rfl rfl rfl (fun M4 => ?_)
  refine i_aload_n C dX0_passHour_27 rfl (q := 0) rfl ?_
  refine i_cV (kc' := 0) (ks' := 0) 0 0 1 (fun q hq hM hS => crV C (as := []) dX0_passHour_28.1 kX0 (shP_0 hX hb) ml_X0_166 cal_X0_serveWires cv_X0_serveWires (hRm ⟨Nat.le_of_ble_eq_true rfl, Nat.le_of_ble_eq_true rfl⟩) rfl (Nat.le_of_ble_eq_true rfl) (c_X0_serveWires (xl X) (xG X) hX hb hM ⟨hS.1, trivial⟩ hq)) (Nat.le_of_ble_eq_true rfl) (Nat.le_of_ble_eq_true rfl) rfl rfl rfl (fun M5 => ?_)
  refine i_aload_n C dX0_passHour_31 rfl (q := 0) rfl ?_
  refine i_dup C dX0_passHour_32 rfl ?_
  refine i_getI C (k := 0) kX0 dX0_passHour_33 (shP_0 hX hb) rfl (by decide) fl_X0_9 rfl ?_
  refine i_iconst C dX0_passHour_36 kI_1 ?_
  refine i_iadd C dX0_passHour_37 ?_
  refine i_putI C (k := 0) kX0 dX0_passHour_38 (shP_0 hX hb) rfl (by decide) fl_X0_9 rfl rfl rfl rfl (fun M6 => ?_)
  exact i_vret C hq dX0_passHour_41
set_option maxRecDepth 100000 in
set_option maxHeartbeats 4000000 in
theorem c_X4_holdsOn (l : Launch) (G : Gx) {K : Kx} (hK : K = kP) {b : Nat} {x1 : Int} {x2 : Int} (hb : isC b) {M : Mem} {res : Int × Mem} (hM : OkM M) (ha : okS [aR (b + 37), aI x1, aI x2]) (hF : pLaws_holdsOn b x1 x2 M = some res) : Ct l G K yX4_holdsOn (wsM yX4_holdsOn cX4_holdsOn 3 (some .boolean)) rmX4_holdsOn [aR (b + 37), aI x1, aI x2] M (some (aI res.1)) res.2 := by
  refine ct_of RX4 (by decide +kernel) rfl (hK ▸ kP_ok) hM ha (Nat.le_of_ble_eq_true rfl) hF ?_
  intro X C hl hG hX0 hN hR hq
  have hX : xK X = kP := hX0.trans hK
  show Im X 0 0 0 [(0, aR (b + 37)), (1, aI x1), (2, aI x2)] [] M res (pLaws_holdsOn b x1 x2 M)
  unfold pLaws_holdsOn
  refine i_aload_n C dX4_holdsOn_0 rfl (q := 0) rfl ?_
  refine i_getR C (k := 3) kX4 dX4_holdsOn_1 (shP_37 hX hb) rfl (by decide) fl_X4_22 ?_
  refine i_iload_n C dX4_holdsOn_4 rfl (q := 1) rfl ?_
  refine i_ald C dX4_holdsOn_5 (shP_40 hX hb) (fun v1 => ?_)
  refine i_iload_n C dX4_holdsOn_6 rfl (q := 2) rfl ?_
  refine i_icmp_gt (tgt := 35) C dX4_holdsOn_7 (by decide) ?_ ?_
  · refine i_iconst C dX4_holdsOn_35 kI_0 ?_
    exact i_zret C hq dX4_holdsOn_36 (Or.inl rfl)
  · refine i_aload_n C dX4_holdsOn_10 rfl (q := 0) rfl ?_
    refine i_getR C (k := 4) kX4 dX4_holdsOn_11 (shP_37 hX hb) rfl (by decide) fl_X4_25 ?_
    refine i_iload_n C dX4_holdsOn_14 rfl (q := 1) rfl ?_
    refine i_ald C dX4_holdsOn_15 (shP_41 hX hb) (fun v2 => ?_)
    refine i_ldc C dX4_holdsOn_16 kc_X4_51 kI_m1000000005 ?_
    refine i_icmp_eq (tgt := 31) C dX4_holdsOn_18 (by decide) ?_ ?_
    · refine i_iconst C dX4_holdsOn_31 kI_1 ?_
      refine i_goto (tgt := 36) C dX4_holdsOn_32 (by decide) ?_
      exact i_zret C hq dX4_holdsOn_36 (Or.inr rfl)
    · refine i_iload_n C dX4_holdsOn_21 rfl (q := 2) rfl ?_
      refine i_aload_n C dX4_holdsOn_22 rfl (q := 0) rfl ?_
      refine i_getR C (k := 4) kX4 dX4_holdsOn_23 (shP_37 hX hb) rfl (by decide) fl_X4_25 ?_
      refine i_iload_n C dX4_holdsOn_26 rfl (q := 1) rfl ?_
      refine i_ald C dX4_holdsOn_27 (shP_41 hX hb) (fun v3 => ?_)
      refine i_icmp_ge (tgt := 35) C dX4_holdsOn_28 (by decide) ?_ ?_
      · refine i_iconst C dX4_holdsOn_35 kI_0 ?_
        exact i_zret C hq dX4_holdsOn_36 (Or.inl rfl)
      · refine i_iconst C dX4_holdsOn_31 kI_1 ?_
        refine i_goto (tgt := 36) C dX4_holdsOn_32 (by decide) ?_
        exact i_zret C hq dX4_holdsOn_36 (Or.inr rfl)
set_option maxRecDepth 100000 in
set_option maxHeartbeats 4000000 in
theorem w_X4_counting_7 {X : Xc} (C : Cx X RX4 cX4_counting (some .int)) (hX : xK X = kP) (hN : xn X = 6) (hR : xR X = rmX4_counting) {b : Nat} (hb : isC b) {res : Int × Mem} (hq : Rq X (some (aI res.1)) res.2) (y1 : Int) (y2 : Int) (y3 : Int) : ∀ (n : Nat) (u4 : Int) (u5 : Int) (M : Mem), Im X 0 0 7 [(0, aR (b + 37)), (1, aI y1), (2, aI y2), (3, aI y3), (4, aI u4), (5, aI u5)] [] M res (lpX4_counting_7 b y1 y2 y3 n u4 u5 M) := by
  have hl4 : 4 < xn X := by rw [hN]; decide
  have hl5 : 5 < xn X := by rw [hN]; decide
  have hRm : ∀ {rm : Room} {ny : Nat}, RmOk rmX4_counting rm ny → RmOk (xR X) rm ny := fun h => by rw [hR]; exact h
  intro n
  induction n with
  | zero => intro _ _ _; exact i_none
  | succ n ih =>
    intro u4 u5 M
    unfold lpX4_counting_7
    refine i_iload C dX4_counting_7 (q := 5) rfl ?_
    refine i_aload_n C dX4_counting_9 rfl (q := 0) rfl ?_
    refine i_getI C (k := 0) kX4 dX4_counting_10 (shP_37 hX hb) rfl (by decide) fl_X4_9 rfl ?_
    refine i_icmp_ge (tgt := 85) C dX4_counting_13 (by decide) ?_ ?_
    · refine i_iload C dX4_counting_85 (q := 4) rfl ?_
      exact i_iret C hq dX4_counting_87
    · refine i_aload_n C dX4_counting_16 rfl (q := 0) rfl ?_
      refine i_getR C (k := 2) kX4 dX4_counting_17 (shP_37 hX hb) rfl (by decide) fl_X4_19 ?_
      refine i_iload C dX4_counting_20 (q := 5) rfl ?_
      refine i_ald C dX4_counting_22 (shP_39 hX hb) (fun v1 => ?_)
      refine i_iload_n C dX4_counting_23 rfl (q := 1) rfl ?_
      refine i_jn (fun j => ∀ (p2 : Int) (M4 : Mem), Im X 0 0 79 [(0, aR (b + 37)), (1, aI y1), (2, aI y2), (3, aI y3), (4, aI p2), (5, aI u5)] [] M4 res (j p2 M4)) ?_ (fun j3 hj3 => ?_)
      · intro p2 M4
        refine i_iincN (L' := fun v5 => [(0, aR (b + 37)), (1, aI y1), (2, aI y2), (3, aI y3), (4, aI p2), (5, aI v5)]) C dX4_counting_79 (q := 5) rfl hl5 (fun _ => rfl) (fun v5 => ?_)
        refine i_goto (tgt := 7) C dX4_counting_82 (by decide) ?_
        exact (ih p2 v5 M4)
      refine i_icmp_ne (tgt := 79) C dX4_counting_24 (by decide) ?_ ?_
      · exact (hj3 u4 M)
      · refine i_aload_n C dX4_counting_27 rfl (q := 0) rfl ?_
        refine i_getR C (k := 1) kX4 dX4_counting_28 (shP_37 hX hb) rfl (by decide) fl_X4_15 ?_
        refine i_iload C dX4_counting_31 (q := 5) rfl ?_
        refine i_ald C dX4_counting_33 (shP_38 hX hb) (fun v6 => ?_)
        refine i_iload_n C dX4_counting_34 rfl (q := 2) rfl ?_
        refine i_icmp_ne (tgt := 79) C dX4_counting_35 (by decide) ?_ ?_
        · exact (hj3 u4 M)
        · refine i_aload_n C dX4_counting_38 rfl (q := 0) rfl ?_
          refine i_iload C dX4_counting_39 (q := 5) rfl ?_
          refine i_iload_n C dX4_counting_41 rfl (q := 3) rfl ?_
          refine i_cI (kc' := 0) (ks' := 0) 0 0 3 (fun q hq hM hS => crV C (as := [aI u5, aI y3]) dX4_counting_42.1 kX4 (shP_37 hX hb) ml_X4_63 cal_X4_holdsOn cv_X4_holdsOn (hRm ⟨Nat.le_of_ble_eq_true rfl, Nat.le_of_ble_eq_true rfl⟩) rfl (Nat.le_of_ble_eq_true rfl) (c_X4_holdsOn (xl X) (xG X) hX hb hM ⟨hS.2.2.1, hS.2.1, hS.1, trivial⟩ hq)) (Nat.le_of_ble_eq_true rfl) (Nat.le_of_ble_eq_true rfl) rfl rfl rfl (fun v8 M7 => ?_)
          refine i_if_ne (tgt := 51) C dX4_counting_45 (by decide) ?_ ?_
          · refine i_iload C dX4_counting_51 (q := 4) rfl ?_
            refine i_ldc C dX4_counting_53 kc_X4_51 kI_m1000000005 ?_
            refine i_jn (fun j => ∀  (M10 : Mem), Im X 0 0 75 [(0, aR (b + 37)), (1, aI y1), (2, aI y2), (3, aI y3), (5, aI u5)] [] M10 res (j  M10)) ?_ (fun j9 hj9 => ?_)
            · intro  M10
              refine i_iload C dX4_counting_75 (q := 4) rfl ?_
              refine i_istore C dX4_counting_77 hl4 (L' := [(0, aR (b + 37)), (1, aI y1), (2, aI y2), (3, aI y3), (4, aI u5), (5, aI u5)]) rfl ?_
              exact (hj3 u5 M10)
            refine i_icmp_eq (tgt := 75) C dX4_counting_55 (by decide) ?_ ?_
            · exact i_sub [0, 1, 2, 3, 5] rfl (hj9  M7)
            · refine i_aload_n C dX4_counting_58 rfl (q := 0) rfl ?_
              refine i_getR C (k := 3) kX4 dX4_counting_59 (shP_37 hX hb) rfl (by decide) fl_X4_22 ?_
              refine i_iload C dX4_counting_62 (q := 5) rfl ?_
              refine i_ald C dX4_counting_64 (shP_40 hX hb) (fun v11 => ?_)
              refine i_aload_n C dX4_counting_65 rfl (q := 0) rfl ?_
              refine i_getR C (k := 3) kX4 dX4_counting_66 (shP_37 hX hb) rfl (by decide) fl_X4_22 ?_
              refine i_iload C dX4_counting_69 (q := 4) rfl ?_
              refine i_ald C dX4_counting_71 (shP_40 hX hb) (fun v12 => ?_)
              refine i_icmp_lt (tgt := 79) C dX4_counting_72 (by decide) ?_ ?_
              · exact (hj3 u4 M7)
              · exact i_sub [0, 1, 2, 3, 5] rfl (hj9  M7)
          · refine i_goto (tgt := 79) C dX4_counting_48 (by decide) ?_
            exact (hj3 u4 M7)
set_option maxRecDepth 100000 in
set_option maxHeartbeats 4000000 in
theorem c_X4_counting (l : Launch) (G : Gx) {K : Kx} (hK : K = kP) {b : Nat} {x1 : Int} {x2 : Int} {x3 : Int} (hb : isC b) {M : Mem} {res : Int × Mem} (hM : OkM M) (ha : okS [aR (b + 37), aI x1, aI x2, aI x3]) (hF : pLaws_counting b x1 x2 x3 M = some res) : Ct l G K yX4_counting (wsM yX4_counting cX4_counting 6 (some .int)) rmX4_counting [aR (b + 37), aI x1, aI x2, aI x3] M (some (aI res.1)) res.2 := by
  refine ct_of RX4 (by decide +kernel) rfl (hK ▸ kP_ok) hM ha (Nat.le_of_ble_eq_true rfl) hF ?_
  intro X C hl hG hX0 hN hR hq
  have hX : xK X = kP := hX0.trans hK
  show Im X 0 0 0 [(0, aR (b + 37)), (1, aI x1), (2, aI x2), (3, aI x3)] [] M res (pLaws_counting b x1 x2 x3 M)
  unfold pLaws_counting
  have hl4 : 4 < xn X := by rw [hN]; decide
  have hl5 : 5 < xn X := by rw [hN]; decide
  have hRm : ∀ {rm : Room} {ny : Nat}, RmOk rmX4_counting rm ny → RmOk (xR X) rm ny := fun h => by rw [hR]; exact h
  refine i_ldc C dX4_counting_0 kc_X4_51 kI_m1000000005 ?_
  refine i_istore C dX4_counting_2 hl4 (L' := [(0, aR (b + 37)), (1, aI x1), (2, aI x2), (3, aI x3), (4, aI (-1000000005))]) rfl ?_
  refine i_iconst C dX4_counting_4 kI_0 ?_
  refine i_istore C dX4_counting_5 hl5 (L' := [(0, aR (b + 37)), (1, aI x1), (2, aI x2), (3, aI x3), (4, aI (-1000000005)), (5, aI 0)]) rfl ?_
  exact (w_X4_counting_7 C hX hN hR hb hq x1 x2 x3 FU (-1000000005) 0 M)
set_option maxRecDepth 100000 in
set_option maxHeartbeats 4000000 in
theorem c_X0_lawOf (l : Launch) (G : Gx) {K : Kx} (hK : K = kP) {b : Nat} {x1 : Int} {x2 : Int} (hb : isC b) {M : Mem} {res : Int × Mem} (hM : OkM M) (ha : okS [aR b, aI x1, aI x2]) (hF : pCity_lawOf b x1 x2 M = some res) : Ct l G K yX0_lawOf (wsM yX0_lawOf cX0_lawOf 3 (some .int)) rmX0_lawOf [aR b, aI x1, aI x2] M (some (aI res.1)) res.2 := by
  refine ct_of RX0 (by decide +kernel) rfl (hK ▸ kP_ok) hM ha (Nat.le_of_ble_eq_true rfl) hF ?_
  intro X C hl hG hX0 hN hR hq
  have hX : xK X = kP := hX0.trans hK
  show Im X 0 0 0 [(0, aR b), (1, aI x1), (2, aI x2)] [] M res (pCity_lawOf b x1 x2 M)
  unfold pCity_lawOf
  have hRm : ∀ {rm : Room} {ny : Nat}, RmOk rmX0_lawOf rm ny → RmOk (xR X) rm ny := fun h => by rw [hR]; exact h
  refine i_aload_n C dX0_lawOf_0 rfl (q := 0) rfl ?_
  refine i_getR C (k := 10) kX0 dX0_lawOf_1 (shP_0 hX hb) rfl (by decide) fl_X0_59 ?_
  refine i_iload_n C dX0_lawOf_4 rfl (q := 1) rfl ?_
  refine i_iload_n C dX0_lawOf_5 rfl (q := 2) rfl ?_
  refine i_aload_n C dX0_lawOf_6 rfl (q := 0) rfl ?_
  refine i_cI (kc' := 0) (ks' := 0) 0 0 1 (fun q hq hM hS => crV C (as := []) dX0_lawOf_7.1 kX0 (shP_0 hX hb) ml_X0_214 cal_X0_day cv_X0_day (hRm ⟨Nat.le_of_ble_eq_true rfl, Nat.le_of_ble_eq_true rfl⟩) rfl (Nat.le_of_ble_eq_true rfl) (c_X0_day (xl X) (xG X) hX hb hM ⟨hS.1, trivial⟩ hq)) (Nat.le_of_ble_eq_true rfl) (Nat.le_of_ble_eq_true rfl) rfl rfl rfl (fun v2 M1 => ?_)
  refine i_cI (kc' := 0) (ks' := 0) 0 0 4 (fun q hq hM hS => crV C (as := [aI x1, aI x2, aI v2]) dX0_lawOf_10.1 kX4 (shP_37 hX hb) ml_X0_225 cal_X4_counting cv_X4_counting (hRm ⟨Nat.le_of_ble_eq_true rfl, Nat.le_of_ble_eq_true rfl⟩) rfl (Nat.le_of_ble_eq_true rfl) (c_X4_counting (xl X) (xG X) hX hb hM ⟨hS.2.2.2.1, hS.2.2.1, hS.2.1, hS.1, trivial⟩ hq)) (Nat.le_of_ble_eq_true rfl) (Nat.le_of_ble_eq_true rfl) rfl rfl rfl (fun v4 M3 => ?_)
  exact i_iret C hq dX0_lawOf_13
set_option maxRecDepth 100000 in
set_option maxHeartbeats 4000000 in
theorem c_X11_within (l : Launch) (G : Gx) {K : Kx} (hK : K = kP) {x0 : Int} {x1 : Int} {x2 : Int} {M : Mem} {res : Int × Mem} (hM : OkM M) (ha : okS [aI x0, aI x1, aI x2]) (hF : pTop_within x0 x1 x2 M = some res) : Ct l G K yX11_within (wsM yX11_within cX11_within 3 (some .boolean)) rmX11_within [aI x0, aI x1, aI x2] M (some (aI res.1)) res.2 := by
  refine ct_of RX11 (by decide +kernel) rfl (hK ▸ kP_ok) hM ha (Nat.le_of_ble_eq_true rfl) hF ?_
  intro X C hl hG hX0 hN hR hq
  have hX : xK X = kP := hX0.trans hK
  show Im X 0 0 0 [(0, aI x0), (1, aI x1), (2, aI x2)] [] M res (pTop_within x0 x1 x2 M)
  unfold pTop_within
  refine i_iload_n C dX11_within_0 rfl (q := 0) rfl ?_
  refine i_iload_n C dX11_within_1 rfl (q := 1) rfl ?_
  refine i_icmp_lt (tgt := 14) C dX11_within_2 (by decide) ?_ ?_
  · refine i_iconst C dX11_within_14 kI_0 ?_
    exact i_zret C hq dX11_within_15 (Or.inl rfl)
  · refine i_iload_n C dX11_within_5 rfl (q := 0) rfl ?_
    refine i_iload_n C dX11_within_6 rfl (q := 2) rfl ?_
    refine i_icmp_gt (tgt := 14) C dX11_within_7 (by decide) ?_ ?_
    · refine i_iconst C dX11_within_14 kI_0 ?_
      exact i_zret C hq dX11_within_15 (Or.inl rfl)
    · refine i_iconst C dX11_within_10 kI_1 ?_
      refine i_goto (tgt := 15) C dX11_within_11 (by decide) ?_
      exact i_zret C hq dX11_within_15 (Or.inr rfl)
set_option maxRecDepth 100000 in
set_option maxHeartbeats 4000000 in
theorem w_X9_comeNearer_4 {X : Xc} (C : Cx X RX9 cX9_comeNearer (some .boolean)) (hX : xK X = kP) (hN : xn X = 5) (hR : xR X = rmX9_comeNearer) {b : Nat} (hb : isC b) {res : Int × Mem} (hq : Rq X (some (aI res.1)) res.2) : ∀ (n : Nat) (u1 : Int) (u2 : Int) (M : Mem), Im X 0 0 4 [(0, aR (b + 15)), (1, aI u1), (2, aI u2)] [] M res (lpX9_comeNearer_4 b n u1 u2 M) := by
  have hl1 : 1 < xn X := by rw [hN]; decide
  have hl2 : 2 < xn X := by rw [hN]; decide
  have hl3 : 3 < xn X := by rw [hN]; decide
  have hl4 : 4 < xn X := by rw [hN]; decide
  intro n
  induction n with
  | zero => intro _ _ _; exact i_none
  | succ n ih =>
    intro u1 u2 M
    unfold lpX9_comeNearer_4
    refine i_iload_n C dX9_comeNearer_4 rfl (q := 2) rfl ?_
    refine i_aload_n C dX9_comeNearer_5 rfl (q := 0) rfl ?_
    refine i_getI C (k := 0) kX9 dX9_comeNearer_6 (shP_15 hX hb) rfl (by decide) fl_X9_9 rfl ?_
    refine i_icmp_ge (tgt := 139) C dX9_comeNearer_9 (by decide) ?_ ?_
    · refine i_iload_n C dX9_comeNearer_139 rfl (q := 1) rfl ?_
      exact i_zretQ C hq dX9_comeNearer_140
    · refine i_aload_n C dX9_comeNearer_12 rfl (q := 0) rfl ?_
      refine i_getR C (k := 1) kX9 dX9_comeNearer_13 (shP_15 hX hb) rfl (by decide) fl_X9_15 ?_
      refine i_iload_n C dX9_comeNearer_16 rfl (q := 2) rfl ?_
      refine i_ald C dX9_comeNearer_17 (shP_16 hX hb) (fun v1 => ?_)
      refine i_iconst C dX9_comeNearer_18 kI_5 ?_
      refine i_jn (fun j => ∀ (p2 : Int) (M4 : Mem), Im X 0 0 133 [(0, aR (b + 15)), (1, aI p2), (2, aI u2)] [] M4 res (j p2 M4)) ?_ (fun j3 hj3 => ?_)
      · intro p2 M4
        refine i_iincN (L' := fun v5 => [(0, aR (b + 15)), (1, aI p2), (2, aI v5)]) C dX9_comeNearer_133 (q := 2) rfl hl2 (fun _ => rfl) (fun v5 => ?_)
        refine i_goto (tgt := 4) C dX9_comeNearer_136 (by decide) ?_
        exact (ih p2 v5 M4)
      refine i_icmp_eq (tgt := 25) C dX9_comeNearer_19 (by decide) ?_ ?_
      · refine i_aload_n C dX9_comeNearer_25 rfl (q := 0) rfl ?_
        refine i_getR C (k := 2) kX9 dX9_comeNearer_26 (shP_15 hX hb) rfl (by decide) fl_X9_19 ?_
        refine i_iload_n C dX9_comeNearer_29 rfl (q := 2) rfl ?_
        refine i_ald C dX9_comeNearer_30 (shP_17 hX hb) (fun v6 => ?_)
        refine i_istore_n C dX9_comeNearer_31 rfl hl3 (L' := [(0, aR (b + 15)), (1, aI u1), (2, aI u2), (3, aI v6)]) rfl ?_
        refine i_aload_n C dX9_comeNearer_32 rfl (q := 0) rfl ?_
        refine i_getR C (k := 3) kX9 dX9_comeNearer_33 (shP_15 hX hb) rfl (by decide) fl_X9_22 ?_
        refine i_iload_n C dX9_comeNearer_36 rfl (q := 2) rfl ?_
        refine i_ald C dX9_comeNearer_37 (shP_18 hX hb) (fun v7 => ?_)
        refine i_istore C dX9_comeNearer_38 hl4 (L' := [(0, aR (b + 15)), (1, aI u1), (2, aI u2), (3, aI v6), (4, aI v7)]) rfl ?_
        refine i_aload_n C dX9_comeNearer_40 rfl (q := 0) rfl ?_
        refine i_getR C (k := 14) kX9 dX9_comeNearer_41 (shP_15 hX hb) rfl (by decide) fl_X9_55 ?_
        refine i_iload_n C dX9_comeNearer_44 rfl (q := 3) rfl ?_
        refine i_ald C dX9_comeNearer_45 (shP_29 hX hb) (fun v8 => ?_)
        refine i_aload_n C dX9_comeNearer_46 rfl (q := 0) rfl ?_
        refine i_getR C (k := 4) kX9 dX9_comeNearer_47 (shP_15 hX hb) rfl (by decide) fl_X9_25 ?_
        refine i_iload_n C dX9_comeNearer_50 rfl (q := 2) rfl ?_
        refine i_ald C dX9_comeNearer_51 (shP_19 hX hb) (fun v9 => ?_)
        refine i_iadd C dX9_comeNearer_52 ?_
        refine i_aload_n C dX9_comeNearer_53 rfl (q := 0) rfl ?_
        refine i_getR C (k := 14) kX9 dX9_comeNearer_54 (shP_15 hX hb) rfl (by decide) fl_X9_55 ?_
        refine i_iload C dX9_comeNearer_57 (q := 4) rfl ?_
        refine i_ald C dX9_comeNearer_59 (shP_29 hX hb) (fun v10 => ?_)
        refine i_icmp_ge (tgt := 88) C dX9_comeNearer_60 (by decide) ?_ ?_
        · refine i_aload_n C dX9_comeNearer_88 rfl (q := 0) rfl ?_
          refine i_getR C (k := 14) kX9 dX9_comeNearer_89 (shP_15 hX hb) rfl (by decide) fl_X9_55 ?_
          refine i_iload C dX9_comeNearer_92 (q := 4) rfl ?_
          refine i_ald C dX9_comeNearer_94 (shP_29 hX hb) (fun v11 => ?_)
          refine i_aload_n C dX9_comeNearer_95 rfl (q := 0) rfl ?_
          refine i_getR C (k := 4) kX9 dX9_comeNearer_96 (shP_15 hX hb) rfl (by decide) fl_X9_25 ?_
          refine i_iload_n C dX9_comeNearer_99 rfl (q := 2) rfl ?_
          refine i_ald C dX9_comeNearer_100 (shP_19 hX hb) (fun v12 => ?_)
          refine i_iadd C dX9_comeNearer_101 ?_
          refine i_aload_n C dX9_comeNearer_102 rfl (q := 0) rfl ?_
          refine i_getR C (k := 14) kX9 dX9_comeNearer_103 (shP_15 hX hb) rfl (by decide) fl_X9_55 ?_
          refine i_iload_n C dX9_comeNearer_106 rfl (q := 3) rfl ?_
          refine i_ald C dX9_comeNearer_107 (shP_29 hX hb) (fun v13 => ?_)
          refine i_icmp_ge (tgt := 133) C dX9_comeNearer_108 (by decide) ?_ ?_
          · exact i_sub [0, 1, 2] rfl (hj3 u1 M)
          · refine i_aload_n C dX9_comeNearer_111 rfl (q := 0) rfl ?_
            refine i_getR C (k := 14) kX9 dX9_comeNearer_112 (shP_15 hX hb) rfl (by decide) fl_X9_55 ?_
            refine i_iload_n C dX9_comeNearer_115 rfl (q := 3) rfl ?_
            refine i_aload_n C dX9_comeNearer_116 rfl (q := 0) rfl ?_
            refine i_getR C (k := 14) kX9 dX9_comeNearer_117 (shP_15 hX hb) rfl (by decide) fl_X9_55 ?_
            refine i_iload C dX9_comeNearer_120 (q := 4) rfl ?_
            refine i_ald C dX9_comeNearer_122 (shP_29 hX hb) (fun v14 => ?_)
            refine i_aload_n C dX9_comeNearer_123 rfl (q := 0) rfl ?_
            refine i_getR C (k := 4) kX9 dX9_comeNearer_124 (shP_15 hX hb) rfl (by decide) fl_X9_25 ?_
            refine i_iload_n C dX9_comeNearer_127 rfl (q := 2) rfl ?_
            refine i_ald C dX9_comeNearer_128 (shP_19 hX hb) (fun v15 => ?_)
            refine i_iadd C dX9_comeNearer_129 ?_
            refine i_ast C dX9_comeNearer_130 (shP_29 hX hb) (fun M16 => ?_)
            refine i_iconst C dX9_comeNearer_131 kI_1 ?_
            refine i_istore_n C dX9_comeNearer_132 rfl hl1 (L' := [(0, aR (b + 15)), (1, aI 1), (2, aI u2), (3, aI v6), (4, aI v7)]) rfl ?_
            exact i_sub [0, 1, 2] rfl (hj3 1 M16)
        · refine i_aload_n C dX9_comeNearer_63 rfl (q := 0) rfl ?_
          refine i_getR C (k := 14) kX9 dX9_comeNearer_64 (shP_15 hX hb) rfl (by decide) fl_X9_55 ?_
          refine i_iload C dX9_comeNearer_67 (q := 4) rfl ?_
          refine i_aload_n C dX9_comeNearer_69 rfl (q := 0) rfl ?_
          refine i_getR C (k := 14) kX9 dX9_comeNearer_70 (shP_15 hX hb) rfl (by decide) fl_X9_55 ?_
          refine i_iload_n C dX9_comeNearer_73 rfl (q := 3) rfl ?_
          refine i_ald C dX9_comeNearer_74 (shP_29 hX hb) (fun v17 => ?_)
          refine i_aload_n C dX9_comeNearer_75 rfl (q := 0) rfl ?_
          refine i_getR C (k := 4) kX9 dX9_comeNearer_76 (shP_15 hX hb) rfl (by decide) fl_X9_25 ?_
          refine i_iload_n C dX9_comeNearer_79 rfl (q := 2) rfl ?_
          refine i_ald C dX9_comeNearer_80 (shP_19 hX hb) (fun v18 => ?_)
          refine i_iadd C dX9_comeNearer_81 ?_
          refine i_ast C dX9_comeNearer_82 (shP_29 hX hb) (fun M19 => ?_)
          refine i_iconst C dX9_comeNearer_83 kI_1 ?_
          refine i_istore_n C dX9_comeNearer_84 rfl hl1 (L' := [(0, aR (b + 15)), (1, aI 1), (2, aI u2), (3, aI v6), (4, aI v7)]) rfl ?_
          refine i_goto (tgt := 133) C dX9_comeNearer_85 (by decide) ?_
          exact i_sub [0, 1, 2] rfl (hj3 1 M19)
      · refine i_goto (tgt := 133) C dX9_comeNearer_22 (by decide) ?_
        exact (hj3 u1 M)
set_option maxRecDepth 100000 in
set_option maxHeartbeats 4000000 in
theorem c_X9_comeNearer (l : Launch) (G : Gx) {K : Kx} (hK : K = kP) {b : Nat} (hb : isC b) {M : Mem} {res : Int × Mem} (hM : OkM M) (ha : okS [aR (b + 15)]) (hF : pTies_comeNearer b M = some res) : Ct l G K yX9_comeNearer (wsM yX9_comeNearer cX9_comeNearer 5 (some .boolean)) rmX9_comeNearer [aR (b + 15)] M (some (aI res.1)) res.2 := by
  refine ct_of RX9 (by decide +kernel) rfl (hK ▸ kP_ok) hM ha (Nat.le_of_ble_eq_true rfl) hF ?_
  intro X C hl hG hX0 hN hR hq
  have hX : xK X = kP := hX0.trans hK
  show Im X 0 0 0 [(0, aR (b + 15))] [] M res (pTies_comeNearer b M)
  unfold pTies_comeNearer
  have hl1 : 1 < xn X := by rw [hN]; decide
  have hl2 : 2 < xn X := by rw [hN]; decide
  have hl3 : 3 < xn X := by rw [hN]; decide
  have hl4 : 4 < xn X := by rw [hN]; decide
  refine i_iconst C dX9_comeNearer_0 kI_0 ?_
  refine i_istore_n C dX9_comeNearer_1 rfl hl1 (L' := [(0, aR (b + 15)), (1, aI 0)]) rfl ?_
  refine i_iconst C dX9_comeNearer_2 kI_0 ?_
  refine i_istore_n C dX9_comeNearer_3 rfl hl2 (L' := [(0, aR (b + 15)), (1, aI 0), (2, aI 0)]) rfl ?_
  exact (w_X9_comeNearer_4 C hX hN hR hb hq FU 0 0 M)
set_option maxRecDepth 100000 in
set_option maxHeartbeats 4000000 in
theorem w_X9_findKin_20 {X : Xc} (C : Cx X RX9 cX9_findKin none) (hX : xK X = kP) (hN : xn X = 4) (hR : xR X = rmX9_findKin) {b : Nat} (hb : isC b) {res : Mem} (hq : Rq X none res) {k41 : Mem → Option (Mem)} (hk41 : ∀ (M : Mem), Im X 0 0 41 [(0, aR (b + 15))] [] M res (k41 M)) : ∀ (n : Nat) (u2 : Int) (u3 : Int) (M : Mem), Im X 0 0 20 [(0, aR (b + 15)), (2, aI u2), (3, aI u3)] [] M res (lpX9_findKin_20 b k41 n u2 u3 M) := by
  have hl2 : 2 < xn X := by rw [hN]; decide
  have hl3 : 3 < xn X := by rw [hN]; decide
  have hRm : ∀ {rm : Room} {ny : Nat}, RmOk rmX9_findKin rm ny → RmOk (xR X) rm ny := fun h => by rw [hR]; exact h
  intro n
  induction n with
  | zero => intro _ _ _; exact i_none
  | succ n ih =>
    intro u2 u3 M
    unfold lpX9_findKin_20
    refine i_iload_n C dX9_findKin_20 rfl (q := 2) rfl ?_
    refine i_bipush C dX9_findKin_21 kB_20 ?_
    refine i_icmp_ge (tgt := 41) C dX9_findKin_23 (by decide) ?_ ?_
    · exact i_sub [0] rfl (hk41  M)
    · refine i_iload_n C dX9_findKin_26 rfl (q := 1) rfl ?_
      refine i_if_eq (tgt := 41) C dX9_findKin_27 (by decide) ?_ ?_
      · exact i_sub [0] rfl (hk41  M)
      · refine i_aload_n C dX9_findKin_30 rfl (q := 0) rfl ?_
        refine i_cI (kc' := 0) (ks' := 0) 0 0 1 (fun q hq hM hS => crV C (as := []) dX9_findKin_31.1 kX9 (shP_15 hX hb) ml_X9_84 cal_X9_comeNearer cv_X9_comeNearer (hRm ⟨Nat.le_of_ble_eq_true rfl, Nat.le_of_ble_eq_true rfl⟩) rfl (Nat.le_of_ble_eq_true rfl) (c_X9_comeNearer (xl X) (xG X) hX hb hM ⟨hS.1, trivial⟩ hq)) (Nat.le_of_ble_eq_true rfl) (Nat.le_of_ble_eq_true rfl) rfl rfl rfl (fun v4 M3 => ?_)
        refine i_istore_n C dX9_findKin_34 rfl hl2 (L' := [(0, aR (b + 15)), (2, aI v4), (3, aI u3)]) rfl ?_
        refine i_iincN (L' := fun v5 => [(0, aR (b + 15)), (2, aI v4), (3, aI v5)]) C dX9_findKin_35 (q := 2) rfl hl3 (fun _ => rfl) (fun v5 => ?_)
        refine i_goto (tgt := 20) C dX9_findKin_38 (by decide) ?_
        exact (ih v4 v5 M3)
set_option maxRecDepth 100000 in
set_option maxHeartbeats 4000000 in
theorem w_X9_findKin_43 {X : Xc} (C : Cx X RX9 cX9_findKin none) (hX : xK X = kP) (hN : xn X = 4) (hR : xR X = rmX9_findKin) {b : Nat} (hb : isC b) {res : Mem} (hq : Rq X none res) : ∀ (n : Nat) (u3 : Int) (M : Mem), Im X 0 0 43 [(0, aR (b + 15)), (3, aI u3)] [] M res (lpX9_findKin_43 b n u3 M) := by
  have hl2 : 2 < xn X := by rw [hN]; decide
  have hl3 : 3 < xn X := by rw [hN]; decide
  have hRm : ∀ {rm : Room} {ny : Nat}, RmOk rmX9_findKin rm ny → RmOk (xR X) rm ny := fun h => by rw [hR]; exact h
  intro n
  induction n with
  | zero => intro _ _; exact i_none
  | succ n ih =>
    intro u3 M
    unfold lpX9_findKin_43
    refine i_iload_n C dX9_findKin_43 rfl (q := 1) rfl ?_
    refine i_bipush C dX9_findKin_44 kB_20 ?_
    refine i_icmp_ge (tgt := 73) C dX9_findKin_46 (by decide) ?_ ?_
    · exact i_vret C hq dX9_findKin_73
    · refine i_aload_n C dX9_findKin_49 rfl (q := 0) rfl ?_
      refine i_getR C (k := 14) kX9 dX9_findKin_50 (shP_15 hX hb) rfl (by decide) fl_X9_55 ?_
      refine i_iload_n C dX9_findKin_53 rfl (q := 1) rfl ?_
      refine i_ald C dX9_findKin_54 (shP_29 hX hb) (fun v7 => ?_)
      refine i_bipush C dX9_findKin_55 kB_10 ?_
      refine i_jn (fun j => ∀  (M9 : Mem), Im X 0 0 67 [(0, aR (b + 15)), (3, aI u3)] [] M9 res (j  M9)) ?_ (fun j8 hj8 => ?_)
      · intro  M9
        refine i_iincN (L' := fun v10 => [(0, aR (b + 15)), (3, aI v10)]) C dX9_findKin_67 (q := 1) rfl hl3 (fun _ => rfl) (fun v10 => ?_)
        refine i_goto (tgt := 43) C dX9_findKin_70 (by decide) ?_
        exact (ih v10 M9)
      refine i_icmp_ne (tgt := 67) C dX9_findKin_57 (by decide) ?_ ?_
      · exact (hj8  M)
      · refine i_aload_n C dX9_findKin_60 rfl (q := 0) rfl ?_
        refine i_getR C (k := 14) kX9 dX9_findKin_61 (shP_15 hX hb) rfl (by decide) fl_X9_55 ?_
        refine i_iload_n C dX9_findKin_64 rfl (q := 1) rfl ?_
        refine i_iconst C dX9_findKin_65 kI_0 ?_
        refine i_ast C dX9_findKin_66 (shP_29 hX hb) (fun M11 => ?_)
        exact (hj8  M11)
set_option maxRecDepth 100000 in
set_option maxHeartbeats 4000000 in
theorem c_X9_findKin (l : Launch) (G : Gx) {K : Kx} (hK : K = kP) {b : Nat} {x1 : Int} (hb : isC b) {M : Mem} {res : Mem} (hM : OkM M) (ha : okS [aR (b + 15), aI x1]) (hF : pTies_findKin b x1 M = some res) : Ct l G K yX9_findKin (wsM yX9_findKin cX9_findKin 4 none) rmX9_findKin [aR (b + 15), aI x1] M none res := by
  refine ct_of RX9 (by decide +kernel) rfl (hK ▸ kP_ok) hM ha (Nat.le_of_ble_eq_true rfl) hF ?_
  intro X C hl hG hX0 hN hR hq
  have hX : xK X = kP := hX0.trans hK
  show Im X 0 0 0 [(0, aR (b + 15)), (1, aI x1)] [] M res (pTies_findKin b x1 M)
  unfold pTies_findKin
  have hl2 : 2 < xn X := by rw [hN]; decide
  have hl3 : 3 < xn X := by rw [hN]; decide
  have hRm : ∀ {rm : Room} {ny : Nat}, RmOk rmX9_findKin rm ny → RmOk (xR X) rm ny := fun h => by rw [hR]; exact h
  refine i_aload_n C dX9_findKin_0 rfl (q := 0) rfl ?_
  refine i_getR C (k := 14) kX9 dX9_findKin_1 (shP_15 hX hb) rfl (by decide) fl_X9_55 ?_
  refine i_bipush C dX9_findKin_4 kB_10 ?_
  refine i_cV (kc' := 0) (ks' := 0) 0 0 2 (fun q hq hM hS => crS C (as := [aR (b + 29), aI 10]) dX9_findKin_6.1 ml_X9_78 cal_J7_fill_53178 st_J7_fill_53178 (hRm ⟨Nat.le_of_ble_eq_true rfl, Nat.le_of_ble_eq_true rfl⟩) rfl (Nat.le_of_ble_eq_true rfl) (c_J7_fill_53178 (xl X) (xG X) hX (shP_29 hX hb) hM ⟨hS.2.1, hS.1, trivial⟩ hq)) (Nat.le_of_ble_eq_true rfl) (Nat.le_of_ble_eq_true rfl) rfl rfl rfl (fun M1 => ?_)
  refine i_aload_n C dX9_findKin_9 rfl (q := 0) rfl ?_
  refine i_getR C (k := 14) kX9 dX9_findKin_10 (shP_15 hX hb) rfl (by decide) fl_X9_55 ?_
  refine i_iload_n C dX9_findKin_13 rfl (q := 1) rfl ?_
  refine i_iconst C dX9_findKin_14 kI_0 ?_
  refine i_ast C dX9_findKin_15 (shP_29 hX hb) (fun M2 => ?_)
  refine i_iconst C dX9_findKin_16 kI_1 ?_
  refine i_istore_n C dX9_findKin_17 rfl hl2 (L' := [(0, aR (b + 15)), (1, aI x1), (2, aI 1)]) rfl ?_
  refine i_iconst C dX9_findKin_18 kI_0 ?_
  refine i_istore_n C dX9_findKin_19 rfl hl3 (L' := [(0, aR (b + 15)), (1, aI x1), (2, aI 1), (3, aI 0)]) rfl ?_
  refine i_sub [0, 2, 3] rfl (w_X9_findKin_20 C hX hN hR hb hq (fun M6 => ?_) FU 1 0 M2)
  refine i_iconst C dX9_findKin_41 kI_0 ?_
  refine i_istore_n C dX9_findKin_42 rfl hl3 (L' := [(0, aR (b + 15)), (3, aI 0)]) rfl ?_
  exact (w_X9_findKin_43 C hX hN hR hb hq FU 0 M6)
set_option maxRecDepth 100000 in
set_option maxHeartbeats 4000000 in
theorem c_X9_kinOf (l : Launch) (G : Gx) {K : Kx} (hK : K = kP) {b : Nat} {x1 : Int} {x2 : Int} (hb : isC b) {M : Mem} {res : Int × Mem} (hM : OkM M) (ha : okS [aR (b + 15), aI x1, aI x2]) (hF : pTies_kinOf b x1 x2 M = some res) : Ct l G K yX9_kinOf (wsM yX9_kinOf cX9_kinOf 3 (some .int)) rmX9_kinOf [aR (b + 15), aI x1, aI x2] M (some (aI res.1)) res.2 := by
  refine ct_of RX9 (by decide +kernel) rfl (hK ▸ kP_ok) hM ha (Nat.le_of_ble_eq_true rfl) hF ?_
  intro X C hl hG hX0 hN hR hq
  have hX : xK X = kP := hX0.trans hK
  show Im X 0 0 0 [(0, aR (b + 15)), (1, aI x1), (2, aI x2)] [] M res (pTies_kinOf b x1 x2 M)
  unfold pTies_kinOf
  have hRm : ∀ {rm : Room} {ny : Nat}, RmOk rmX9_kinOf rm ny → RmOk (xR X) rm ny := fun h => by rw [hR]; exact h
  refine i_aload_n C dX9_kinOf_0 rfl (q := 0) rfl ?_
  refine i_iload_n C dX9_kinOf_1 rfl (q := 1) rfl ?_
  refine i_cV (kc' := 0) (ks' := 0) 0 0 2 (fun q hq hM hS => crV C (as := [aI x1]) dX9_kinOf_2.1 kX9 (shP_15 hX hb) ml_X9_74 cal_X9_findKin cv_X9_findKin (hRm ⟨Nat.le_of_ble_eq_true rfl, Nat.le_of_ble_eq_true rfl⟩) rfl (Nat.le_of_ble_eq_true rfl) (c_X9_findKin (xl X) (xG X) hX hb hM ⟨hS.2.1, hS.1, trivial⟩ hq)) (Nat.le_of_ble_eq_true rfl) (Nat.le_of_ble_eq_true rfl) rfl rfl rfl (fun M1 => ?_)
  refine i_aload_n C dX9_kinOf_5 rfl (q := 0) rfl ?_
  refine i_getR C (k := 14) kX9 dX9_kinOf_6 (shP_15 hX hb) rfl (by decide) fl_X9_55 ?_
  refine i_iload_n C dX9_kinOf_9 rfl (q := 2) rfl ?_
  refine i_ald C dX9_kinOf_10 (shP_29 hX hb) (fun v2 => ?_)
  exact i_iret C hq dX9_kinOf_11
set_option maxRecDepth 100000 in
set_option maxHeartbeats 4000000 in
theorem c_X4_setNames (l : Launch) (G : Gx) {K : Kx} (hK : K = kP) {b : Nat} {x1 : Int} {x2 : Int} {x3 : Int} {x4 : Int} (hb : isC b) {M : Mem} {res : Mem} (hM : OkM M) (ha : okS [aR (b + 37), aI x1, aI x2, aI x3, aI x4]) (hF : pLaws_setNames b x1 x2 x3 x4 M = some res) : Ct l G K yX4_setNames (wsM yX4_setNames cX4_setNames 5 none) rmX4_setNames [aR (b + 37), aI x1, aI x2, aI x3, aI x4] M none res := by
  refine ct_of RX4 (by decide +kernel) rfl (hK ▸ kP_ok) hM ha (Nat.le_of_ble_eq_true rfl) hF ?_
  intro X C hl hG hX0 hN hR hq
  have hX : xK X = kP := hX0.trans hK
  show Im X 0 0 0 [(0, aR (b + 37)), (1, aI x1), (2, aI x2), (3, aI x3), (4, aI x4)] [] M res (pLaws_setNames b x1 x2 x3 x4 M)
  unfold pLaws_setNames
  refine i_aload_n C dX4_setNames_0 rfl (q := 0) rfl ?_
  refine i_getR C (k := 8) kX4 dX4_setNames_1 (shP_37 hX hb) rfl (by decide) fl_X4_37 ?_
  refine i_iconst C dX4_setNames_4 kI_0 ?_
  refine i_iload_n C dX4_setNames_5 rfl (q := 1) rfl ?_
  refine i_ast C dX4_setNames_6 (shP_45 hX hb) (fun M1 => ?_)
  refine i_aload_n C dX4_setNames_7 rfl (q := 0) rfl ?_
  refine i_getR C (k := 8) kX4 dX4_setNames_8 (shP_37 hX hb) rfl (by decide) fl_X4_37 ?_
  refine i_iconst C dX4_setNames_11 kI_1 ?_
  refine i_iload_n C dX4_setNames_12 rfl (q := 2) rfl ?_
  refine i_ast C dX4_setNames_13 (shP_45 hX hb) (fun M2 => ?_)
  refine i_aload_n C dX4_setNames_14 rfl (q := 0) rfl ?_
  refine i_getR C (k := 8) kX4 dX4_setNames_15 (shP_37 hX hb) rfl (by decide) fl_X4_37 ?_
  refine i_iconst C dX4_setNames_18 kI_2 ?_
  refine i_iload_n C dX4_setNames_19 rfl (q := 3) rfl ?_
  refine i_ast C dX4_setNames_20 (shP_45 hX hb) (fun M3 => ?_)
  refine i_aload_n C dX4_setNames_21 rfl (q := 0) rfl ?_
  refine i_getR C (k := 8) kX4 dX4_setNames_22 (shP_37 hX hb) rfl (by decide) fl_X4_37 ?_
  refine i_iconst C dX4_setNames_25 kI_3 ?_
  refine i_iload C dX4_setNames_26 (q := 4) rfl ?_
  refine i_ast C dX4_setNames_28 (shP_45 hX hb) (fun M4 => ?_)
  exact i_vret C hq dX4_setNames_29
set_option maxRecDepth 100000 in
set_option maxHeartbeats 4000000 in
theorem c_X4_truth (l : Launch) (G : Gx) {K : Kx} (hK : K = kP) {x0 : Int} {M : Mem} {res : Int × Mem} (hM : OkM M) (ha : okS [aI x0]) (hF : pLaws_truth x0 M = some res) : Ct l G K yX4_truth (wsM yX4_truth cX4_truth 1 (some .int)) rmX4_truth [aI x0] M (some (aI res.1)) res.2 := by
  refine ct_of RX4 (by decide +kernel) rfl (hK ▸ kP_ok) hM ha (Nat.le_of_ble_eq_true rfl) hF ?_
  intro X C hl hG hX0 hN hR hq
  have hX : xK X = kP := hX0.trans hK
  show Im X 0 0 0 [(0, aI x0)] [] M res (pLaws_truth x0 M)
  unfold pLaws_truth
  refine i_iload_n C dX4_truth_0 rfl (q := 0) rfl ?_
  refine i_if_eq (tgt := 8) C dX4_truth_1 (by decide) ?_ ?_
  · refine i_iconst C dX4_truth_8 kI_0 ?_
    exact i_iret C hq dX4_truth_9
  · refine i_iconst C dX4_truth_4 kI_1 ?_
    refine i_goto (tgt := 9) C dX4_truth_5 (by decide) ?_
    exact i_iret C hq dX4_truth_9
set_option maxRecDepth 100000 in
set_option maxHeartbeats 4000000 in
theorem c_X4_worth (l : Launch) (G : Gx) {K : Kx} (hK : K = kP) {x0 : Int} {x1 : Int} {x2 : Int} {M : Mem} {res : Int × Mem} (hM : OkM M) (ha : okS [aI x0, aI x1, aI x2]) (hF : pLaws_worth x0 x1 x2 M = some res) : Ct l G K yX4_worth (wsM yX4_worth cX4_worth 3 (some .int)) rmX4_worth [aI x0, aI x1, aI x2] M (some (aI res.1)) res.2 := by
  refine ct_of RX4 (by decide +kernel) rfl (hK ▸ kP_ok) hM ha (Nat.le_of_ble_eq_true rfl) hF ?_
  intro X C hl hG hX0 hN hR hq
  have hX : xK X = kP := hX0.trans hK
  show Im X 0 0 0 [(0, aI x0), (1, aI x1), (2, aI x2)] [] M res (pLaws_worth x0 x1 x2 M)
  unfold pLaws_worth
  have hRm : ∀ {rm : Room} {ny : Nat}, RmOk rmX4_worth rm ny → RmOk (xR X) rm ny := fun h => by rw [hR]; exact h
  refine i_iload_n C dX4_worth_0 rfl (q := 0) rfl ?_
  refine i_split (fun e8 => ?_) (fun e8 => ?_)
  · refine i_tswIn (tgt := 48) C dX4_worth_1 e8 (by decide) (by decide) rfl (by decide) ?_
    refine i_iload_n C dX4_worth_48 rfl (q := 1) rfl ?_
    refine i_jn (fun j => ∀ (p1 : Int) (M3 : Mem), Im X 0 0 61 [] [aI p1] M3 res (j p1 M3)) ?_ (fun j2 hj2 => ?_)
    · intro p1 M3
      refine i_cI (kc' := 0) (ks' := 0) 0 0 1 (fun q hq hM hS => crS C (as := [aI p1]) dX4_worth_61.1 ml_X4_67 cal_X4_truth st_X4_truth (hRm ⟨Nat.le_of_ble_eq_true rfl, Nat.le_of_ble_eq_true rfl⟩) rfl (Nat.le_of_ble_eq_true rfl) (c_X4_truth (xl X) (xG X) hX hM ⟨hS.1, trivial⟩ hq)) (Nat.le_of_ble_eq_true rfl) (Nat.le_of_ble_eq_true rfl) rfl rfl rfl (fun v5 M4 => ?_)
      exact i_iret C hq dX4_worth_64
    refine i_jn (fun j => ∀  (M7 : Mem), Im X 0 0 56 [] [] M7 res (j  M7)) ?_ (fun j6 hj6 => ?_)
    · intro  M7
      refine i_iconst C dX4_worth_56 kI_1 ?_
      refine i_goto (tgt := 61) C dX4_worth_57 (by decide) ?_
      exact (hj2 1 M7)
    refine i_if_ne (tgt := 56) C dX4_worth_49 (by decide) ?_ ?_
    · exact i_sub [] rfl (hj6  M)
    · refine i_iload_n C dX4_worth_52 rfl (q := 2) rfl ?_
      refine i_if_eq (tgt := 60) C dX4_worth_53 (by decide) ?_ ?_
      · refine i_iconst C dX4_worth_60 kI_0 ?_
        exact i_sub [] rfl (hj2 0 M)
      · exact i_sub [] rfl (hj6  M)
  refine i_split (fun e16 => ?_) (fun e16 => ?_)
  · refine i_tswIn (tgt := 65) C dX4_worth_1 e16 (by decide) (by decide) rfl (by decide) ?_
    refine i_iload_n C dX4_worth_65 rfl (q := 1) rfl ?_
    refine i_jn (fun j => ∀ (p9 : Int) (M11 : Mem), Im X 0 0 78 [] [aI p9] M11 res (j p9 M11)) ?_ (fun j10 hj10 => ?_)
    · intro p9 M11
      refine i_cI (kc' := 0) (ks' := 0) 0 0 1 (fun q hq hM hS => crS C (as := [aI p9]) dX4_worth_78.1 ml_X4_67 cal_X4_truth st_X4_truth (hRm ⟨Nat.le_of_ble_eq_true rfl, Nat.le_of_ble_eq_true rfl⟩) rfl (Nat.le_of_ble_eq_true rfl) (c_X4_truth (xl X) (xG X) hX hM ⟨hS.1, trivial⟩ hq)) (Nat.le_of_ble_eq_true rfl) (Nat.le_of_ble_eq_true rfl) rfl rfl rfl (fun v13 M12 => ?_)
      exact i_iret C hq dX4_worth_81
    refine i_jn (fun j => ∀  (M15 : Mem), Im X 0 0 77 [] [] M15 res (j  M15)) ?_ (fun j14 hj14 => ?_)
    · intro  M15
      refine i_iconst C dX4_worth_77 kI_0 ?_
      exact (hj10 0 M15)
    refine i_if_eq (tgt := 77) C dX4_worth_66 (by decide) ?_ ?_
    · exact i_sub [] rfl (hj14  M)
    · refine i_iload_n C dX4_worth_69 rfl (q := 2) rfl ?_
      refine i_if_eq (tgt := 77) C dX4_worth_70 (by decide) ?_ ?_
      · exact i_sub [] rfl (hj14  M)
      · refine i_iconst C dX4_worth_73 kI_1 ?_
        refine i_goto (tgt := 78) C dX4_worth_74 (by decide) ?_
        exact i_sub [] rfl (hj10 1 M)
  refine i_split (fun e22 => ?_) (fun e22 => ?_)
  · refine i_tswIn (tgt := 82) C dX4_worth_1 e22 (by decide) (by decide) rfl (by decide) ?_
    refine i_iload_n C dX4_worth_82 rfl (q := 1) rfl ?_
    refine i_iload_n C dX4_worth_83 rfl (q := 2) rfl ?_
    refine i_jn (fun j => ∀ (p17 : Int) (M19 : Mem), Im X 0 0 92 [] [aI p17] M19 res (j p17 M19)) ?_ (fun j18 hj18 => ?_)
    · intro p17 M19
      refine i_cI (kc' := 0) (ks' := 0) 0 0 1 (fun q hq hM hS => crS C (as := [aI p17]) dX4_worth_92.1 ml_X4_67 cal_X4_truth st_X4_truth (hRm ⟨Nat.le_of_ble_eq_true rfl, Nat.le_of_ble_eq_true rfl⟩) rfl (Nat.le_of_ble_eq_true rfl) (c_X4_truth (xl X) (xG X) hX hM ⟨hS.1, trivial⟩ hq)) (Nat.le_of_ble_eq_true rfl) (Nat.le_of_ble_eq_true rfl) rfl rfl rfl (fun v21 M20 => ?_)
      exact i_iret C hq dX4_worth_95
    refine i_icmp_ge (tgt := 91) C dX4_worth_84 (by decide) ?_ ?_
    · refine i_iconst C dX4_worth_91 kI_0 ?_
      exact i_sub [] rfl (hj18 0 M)
    · refine i_iconst C dX4_worth_87 kI_1 ?_
      refine i_goto (tgt := 92) C dX4_worth_88 (by decide) ?_
      exact i_sub [] rfl (hj18 1 M)
  refine i_split (fun e28 => ?_) (fun e28 => ?_)
  · refine i_tswIn (tgt := 96) C dX4_worth_1 e28 (by decide) (by decide) rfl (by decide) ?_
    refine i_iload_n C dX4_worth_96 rfl (q := 1) rfl ?_
    refine i_iload_n C dX4_worth_97 rfl (q := 2) rfl ?_
    refine i_jn (fun j => ∀ (p23 : Int) (M25 : Mem), Im X 0 0 106 [] [aI p23] M25 res (j p23 M25)) ?_ (fun j24 hj24 => ?_)
    · intro p23 M25
      refine i_cI (kc' := 0) (ks' := 0) 0 0 1 (fun q hq hM hS => crS C (as := [aI p23]) dX4_worth_106.1 ml_X4_67 cal_X4_truth st_X4_truth (hRm ⟨Nat.le_of_ble_eq_true rfl, Nat.le_of_ble_eq_true rfl⟩) rfl (Nat.le_of_ble_eq_true rfl) (c_X4_truth (xl X) (xG X) hX hM ⟨hS.1, trivial⟩ hq)) (Nat.le_of_ble_eq_true rfl) (Nat.le_of_ble_eq_true rfl) rfl rfl rfl (fun v27 M26 => ?_)
      exact i_iret C hq dX4_worth_109
    refine i_icmp_ne (tgt := 105) C dX4_worth_98 (by decide) ?_ ?_
    · refine i_iconst C dX4_worth_105 kI_0 ?_
      exact i_sub [] rfl (hj24 0 M)
    · refine i_iconst C dX4_worth_101 kI_1 ?_
      refine i_goto (tgt := 106) C dX4_worth_102 (by decide) ?_
      exact i_sub [] rfl (hj24 1 M)
  refine i_split (fun e34 => ?_) (fun e34 => ?_)
  · refine i_tswIn (tgt := 110) C dX4_worth_1 e34 (by decide) (by decide) rfl (by decide) ?_
    refine i_iload_n C dX4_worth_110 rfl (q := 1) rfl ?_
    refine i_iload_n C dX4_worth_111 rfl (q := 2) rfl ?_
    refine i_jn (fun j => ∀ (p29 : Int) (M31 : Mem), Im X 0 0 120 [] [aI p29] M31 res (j p29 M31)) ?_ (fun j30 hj30 => ?_)
    · intro p29 M31
      refine i_cI (kc' := 0) (ks' := 0) 0 0 1 (fun q hq hM hS => crS C (as := [aI p29]) dX4_worth_120.1 ml_X4_67 cal_X4_truth st_X4_truth (hRm ⟨Nat.le_of_ble_eq_true rfl, Nat.le_of_ble_eq_true rfl⟩) rfl (Nat.le_of_ble_eq_true rfl) (c_X4_truth (xl X) (xG X) hX hM ⟨hS.1, trivial⟩ hq)) (Nat.le_of_ble_eq_true rfl) (Nat.le_of_ble_eq_true rfl) rfl rfl rfl (fun v33 M32 => ?_)
      exact i_iret C hq dX4_worth_123
    refine i_icmp_le (tgt := 119) C dX4_worth_112 (by decide) ?_ ?_
    · refine i_iconst C dX4_worth_119 kI_0 ?_
      exact i_sub [] rfl (hj30 0 M)
    · refine i_iconst C dX4_worth_115 kI_1 ?_
      refine i_goto (tgt := 120) C dX4_worth_116 (by decide) ?_
      exact i_sub [] rfl (hj30 1 M)
  refine i_split (fun e35 => ?_) (fun e35 => ?_)
  · refine i_tswIn (tgt := 124) C dX4_worth_1 e35 (by decide) (by decide) rfl (by decide) ?_
    refine i_iload_n C dX4_worth_124 rfl (q := 1) rfl ?_
    refine i_iload_n C dX4_worth_125 rfl (q := 2) rfl ?_
    refine i_iadd C dX4_worth_126 ?_
    exact i_iret C hq dX4_worth_127
  refine i_split (fun e36 => ?_) (fun e36 => ?_)
  · refine i_tswIn (tgt := 128) C dX4_worth_1 e36 (by decide) (by decide) rfl (by decide) ?_
    refine i_iload_n C dX4_worth_128 rfl (q := 1) rfl ?_
    refine i_iload_n C dX4_worth_129 rfl (q := 2) rfl ?_
    refine i_isub C dX4_worth_130 ?_
    exact i_iret C hq dX4_worth_131
  refine i_split (fun e37 => ?_) (fun e37 => ?_)
  · refine i_tswIn (tgt := 132) C dX4_worth_1 e37 (by decide) (by decide) rfl (by decide) ?_
    refine i_iload_n C dX4_worth_132 rfl (q := 1) rfl ?_
    refine i_iload_n C dX4_worth_133 rfl (q := 2) rfl ?_
    refine i_imul C dX4_worth_134 ?_
    exact i_iret C hq dX4_worth_135
  refine i_tswOut (tgt := 136) C dX4_worth_1 (by omega) (by decide) ?_
  refine i_iload_n C dX4_worth_136 rfl (q := 2) rfl ?_
  refine i_if_ne (tgt := 144) C dX4_worth_137 (by decide) ?_ ?_
  · refine i_iload_n C dX4_worth_144 rfl (q := 1) rfl ?_
    refine i_iload_n C dX4_worth_145 rfl (q := 2) rfl ?_
    refine i_split (fun _ => i_none) (fun e38 => ?_)
    refine i_idiv C dX4_worth_146 e38 ?_
    exact i_iret C hq dX4_worth_147
  · refine i_iconst C dX4_worth_140 kI_0 ?_
    refine i_goto (tgt := 147) C dX4_worth_141 (by decide) ?_
    exact i_iret C hq dX4_worth_147
set_option maxRecDepth 100000 in
set_option maxHeartbeats 4000000 in
theorem w_X4_valueOf_10 {X : Xc} (C : Cx X RX4 cX4_valueOf (some .int)) (hX : xK X = kP) (hN : xn X = 6) (hR : xR X = rmX4_valueOf) {b : Nat} (hb : isC b) {res : Int × Mem} (hq : Rq X (some (aI res.1)) res.2) (y1 : Int) (y3 : Int) : ∀ (n : Nat) (u2 : Int) (u4 : Int) (M : Mem), Im X 0 0 10 [(0, aR (b + 37)), (1, aI y1), (2, aI u2), (3, aI y3), (4, aI u4)] [] M res (lpX4_valueOf_10 b y1 y3 n u2 u4 M) := by
  have hl2 : 2 < xn X := by rw [hN]; decide
  have hl3 : 3 < xn X := by rw [hN]; decide
  have hl4 : 4 < xn X := by rw [hN]; decide
  have hl5 : 5 < xn X := by rw [hN]; decide
  have hRm : ∀ {rm : Room} {ny : Nat}, RmOk rmX4_valueOf rm ny → RmOk (xR X) rm ny := fun h => by rw [hR]; exact h
  intro n
  induction n with
  | zero => intro _ _ _; exact i_none
  | succ n ih =>
    intro u2 u4 M
    unfold lpX4_valueOf_10
    refine i_iload C dX4_valueOf_10 (q := 4) rfl ?_
    refine i_iload_n C dX4_valueOf_12 rfl (q := 3) rfl ?_
    refine i_aload_n C dX4_valueOf_13 rfl (q := 0) rfl ?_
    refine i_getR C (k := 6) kX4 dX4_valueOf_14 (shP_37 hX hb) rfl (by decide) fl_X4_31 ?_
    refine i_iload_n C dX4_valueOf_17 rfl (q := 1) rfl ?_
    refine i_ald C dX4_valueOf_18 (shP_43 hX hb) (fun v2 => ?_)
    refine i_iadd C dX4_valueOf_19 ?_
    refine i_icmp_ge (tgt := 169) C dX4_valueOf_20 (by decide) ?_ ?_
    · refine i_aload_n C dX4_valueOf_169 rfl (q := 0) rfl ?_
      refine i_getR C (k := 9) kX4 dX4_valueOf_170 (shP_37 hX hb) rfl (by decide) fl_X4_40 ?_
      refine i_iconst C dX4_valueOf_173 kI_0 ?_
      refine i_ald C dX4_valueOf_174 (shP_46 hX hb) (fun v3 => ?_)
      exact i_iret C hq dX4_valueOf_175
    · refine i_aload_n C dX4_valueOf_23 rfl (q := 0) rfl ?_
      refine i_getR C (k := 7) kX4 dX4_valueOf_24 (shP_37 hX hb) rfl (by decide) fl_X4_34 ?_
      refine i_iload C dX4_valueOf_27 (q := 4) rfl ?_
      refine i_ald C dX4_valueOf_29 (shP_44 hX hb) (fun v4 => ?_)
      refine i_istore C dX4_valueOf_30 hl5 (L' := [(0, aR (b + 37)), (1, aI y1), (2, aI u2), (3, aI y3), (4, aI u4), (5, aI v4)]) rfl ?_
      refine i_iload C dX4_valueOf_32 (q := 5) rfl ?_
      refine i_sipush C dX4_valueOf_34 kS_20000 ?_
      refine i_jn (fun j => ∀ (p5 : Int) (M7 : Mem), Im X 0 0 163 [(0, aR (b + 37)), (1, aI y1), (2, aI p5), (3, aI y3), (4, aI u4)] [] M7 res (j p5 M7)) ?_ (fun j6 hj6 => ?_)
      · intro p5 M7
        refine i_iincN (L' := fun v8 => [(0, aR (b + 37)), (1, aI y1), (2, aI p5), (3, aI y3), (4, aI v8)]) C dX4_valueOf_163 (q := 4) rfl hl4 (fun _ => rfl) (fun v8 => ?_)
        refine i_goto (tgt := 10) C dX4_valueOf_166 (by decide) ?_
        exact (ih p5 v8 M7)
      refine i_icmp_ge (tgt := 82) C dX4_valueOf_37 (by decide) ?_ ?_
      · refine i_iload C dX4_valueOf_82 (q := 5) rfl ?_
        refine i_sipush C dX4_valueOf_84 kS_20009 ?_
        refine i_icmp_ne (tgt := 124) C dX4_valueOf_87 (by decide) ?_ ?_
        · refine i_iload_n C dX4_valueOf_124 rfl (q := 2) rfl ?_
          refine i_iconst C dX4_valueOf_125 kI_1 ?_
          refine i_icmp_le (tgt := 163) C dX4_valueOf_126 (by decide) ?_ ?_
          · exact i_sub [0, 1, 2, 3, 4] rfl (hj6 u2 M)
          · refine i_iincN (L' := fun v9 => [(0, aR (b + 37)), (1, aI y1), (2, aI v9), (3, aI y3), (4, aI u4), (5, aI v4)]) C dX4_valueOf_129 (q := 2) rfl hl2 (fun _ => rfl) (fun v9 => ?_)
            refine i_aload_n C dX4_valueOf_132 rfl (q := 0) rfl ?_
            refine i_getR C (k := 9) kX4 dX4_valueOf_133 (shP_37 hX hb) rfl (by decide) fl_X4_40 ?_
            refine i_iload_n C dX4_valueOf_136 rfl (q := 2) rfl ?_
            refine i_iconst C dX4_valueOf_137 kI_1 ?_
            refine i_isub C dX4_valueOf_138 ?_
            refine i_iload C dX4_valueOf_139 (q := 5) rfl ?_
            refine i_sipush C dX4_valueOf_141 kS_20000 ?_
            refine i_isub C dX4_valueOf_144 ?_
            refine i_aload_n C dX4_valueOf_145 rfl (q := 0) rfl ?_
            refine i_getR C (k := 9) kX4 dX4_valueOf_146 (shP_37 hX hb) rfl (by decide) fl_X4_40 ?_
            refine i_iload_n C dX4_valueOf_149 rfl (q := 2) rfl ?_
            refine i_iconst C dX4_valueOf_150 kI_1 ?_
            refine i_isub C dX4_valueOf_151 ?_
            refine i_ald C dX4_valueOf_152 (shP_46 hX hb) (fun v10 => ?_)
            refine i_aload_n C dX4_valueOf_153 rfl (q := 0) rfl ?_
            refine i_getR C (k := 9) kX4 dX4_valueOf_154 (shP_37 hX hb) rfl (by decide) fl_X4_40 ?_
            refine i_iload_n C dX4_valueOf_157 rfl (q := 2) rfl ?_
            refine i_ald C dX4_valueOf_158 (shP_46 hX hb) (fun v11 => ?_)
            refine i_cI (kc' := 0) (ks' := 0) 0 0 3 (fun q hq hM hS => crS C (as := [aI (w32 (v4 - 20000)), aI v10, aI v11]) dX4_valueOf_159.1 ml_X4_71 cal_X4_worth st_X4_worth (hRm ⟨Nat.le_of_ble_eq_true rfl, Nat.le_of_ble_eq_true rfl⟩) rfl (Nat.le_of_ble_eq_true rfl) (c_X4_worth (xl X) (xG X) hX hM ⟨hS.2.2.1, hS.2.1, hS.1, trivial⟩ hq)) (Nat.le_of_ble_eq_true rfl) (Nat.le_of_ble_eq_true rfl) rfl rfl rfl (fun v13 M12 => ?_)
            refine i_ast C dX4_valueOf_162 (shP_46 hX hb) (fun M14 => ?_)
            exact i_sub [0, 1, 2, 3, 4] rfl (hj6 v9 M14)
        · refine i_iload_n C dX4_valueOf_90 rfl (q := 2) rfl ?_
          refine i_if_le (tgt := 163) C dX4_valueOf_91 (by decide) ?_ ?_
          · exact i_sub [0, 1, 2, 3, 4] rfl (hj6 u2 M)
          · refine i_aload_n C dX4_valueOf_94 rfl (q := 0) rfl ?_
            refine i_getR C (k := 9) kX4 dX4_valueOf_95 (shP_37 hX hb) rfl (by decide) fl_X4_40 ?_
            refine i_iload_n C dX4_valueOf_98 rfl (q := 2) rfl ?_
            refine i_iconst C dX4_valueOf_99 kI_1 ?_
            refine i_isub C dX4_valueOf_100 ?_
            refine i_aload_n C dX4_valueOf_101 rfl (q := 0) rfl ?_
            refine i_getR C (k := 9) kX4 dX4_valueOf_102 (shP_37 hX hb) rfl (by decide) fl_X4_40 ?_
            refine i_iload_n C dX4_valueOf_105 rfl (q := 2) rfl ?_
            refine i_iconst C dX4_valueOf_106 kI_1 ?_
            refine i_isub C dX4_valueOf_107 ?_
            refine i_ald C dX4_valueOf_108 (shP_46 hX hb) (fun v15 => ?_)
            refine i_jn (fun j => ∀ (p16 : Int) (M18 : Mem), Im X 0 0 117 [(0, aR (b + 37)), (1, aI y1), (2, aI u2), (3, aI y3), (4, aI u4)] [aI p16, aI (w32 (u2 - 1)), aR (b + 46)] M18 res (j p16 M18)) ?_ (fun j17 hj17 => ?_)
            · intro p16 M18
              refine i_cI (kc' := 0) (ks' := 0) 0 0 1 (fun q hq hM hS => crS C (as := [aI p16]) dX4_valueOf_117.1 ml_X4_67 cal_X4_truth st_X4_truth (hRm ⟨Nat.le_of_ble_eq_true rfl, Nat.le_of_ble_eq_true rfl⟩) rfl (Nat.le_of_ble_eq_true rfl) (c_X4_truth (xl X) (xG X) hX hM ⟨hS.1, trivial⟩ hq)) (Nat.le_of_ble_eq_true rfl) (Nat.le_of_ble_eq_true rfl) rfl rfl rfl (fun v20 M19 => ?_)
              refine i_ast C dX4_valueOf_120 (shP_46 hX hb) (fun M21 => ?_)
              refine i_goto (tgt := 163) C dX4_valueOf_121 (by decide) ?_
              exact (hj6 u2 M21)
            refine i_if_ne (tgt := 116) C dX4_valueOf_109 (by decide) ?_ ?_
            · refine i_iconst C dX4_valueOf_116 kI_0 ?_
              exact i_sub [0, 1, 2, 3, 4] rfl (hj17 0 M)
            · refine i_iconst C dX4_valueOf_112 kI_1 ?_
              refine i_goto (tgt := 117) C dX4_valueOf_113 (by decide) ?_
              exact i_sub [0, 1, 2, 3, 4] rfl (hj17 1 M)
      · refine i_iload_n C dX4_valueOf_40 rfl (q := 2) rfl ?_
        refine i_bipush C dX4_valueOf_41 kB_96 ?_
        refine i_icmp_ge (tgt := 163) C dX4_valueOf_43 (by decide) ?_ ?_
        · exact i_sub [0, 1, 2, 3, 4] rfl (hj6 u2 M)
        · refine i_aload_n C dX4_valueOf_46 rfl (q := 0) rfl ?_
          refine i_getR C (k := 9) kX4 dX4_valueOf_47 (shP_37 hX hb) rfl (by decide) fl_X4_40 ?_
          refine i_iload_n C dX4_valueOf_50 rfl (q := 2) rfl ?_
          refine i_iincN (L' := fun v22 => [(0, aR (b + 37)), (1, aI y1), (2, aI v22), (3, aI y3), (4, aI u4), (5, aI v4)]) C dX4_valueOf_51 (q := 2) rfl hl2 (fun _ => rfl) (fun v22 => ?_)
          refine i_iload C dX4_valueOf_54 (q := 5) rfl ?_
          refine i_sipush C dX4_valueOf_56 kS_10000 ?_
          refine i_jn (fun j => ∀ (p23 : Int) (M25 : Mem), Im X 0 0 78 [(0, aR (b + 37)), (1, aI y1), (2, aI v22), (3, aI y3), (4, aI u4)] [aI p23, aI u2, aR (b + 46)] M25 res (j p23 M25)) ?_ (fun j24 hj24 => ?_)
          · intro p23 M25
            refine i_ast C dX4_valueOf_78 (shP_46 hX hb) (fun M26 => ?_)
            refine i_goto (tgt := 163) C dX4_valueOf_79 (by decide) ?_
            exact (hj6 v22 M26)
          refine i_icmp_ge (tgt := 67) C dX4_valueOf_59 (by decide) ?_ ?_
          · refine i_aload_n C dX4_valueOf_67 rfl (q := 0) rfl ?_
            refine i_getR C (k := 8) kX4 dX4_valueOf_68 (shP_37 hX hb) rfl (by decide) fl_X4_37 ?_
            refine i_iload C dX4_valueOf_71 (q := 5) rfl ?_
            refine i_sipush C dX4_valueOf_73 kS_10000 ?_
            refine i_isub C dX4_valueOf_76 ?_
            refine i_ald C dX4_valueOf_77 (shP_45 hX hb) (fun v27 => ?_)
            exact i_sub [0, 1, 2, 3, 4] rfl (hj24 v27 M)
          · refine i_iload C dX4_valueOf_62 (q := 5) rfl ?_
            refine i_goto (tgt := 78) C dX4_valueOf_64 (by decide) ?_
            exact i_sub [0, 1, 2, 3, 4] rfl (hj24 v4 M)
set_option maxRecDepth 100000 in
set_option maxHeartbeats 4000000 in
theorem c_X4_valueOf (l : Launch) (G : Gx) {K : Kx} (hK : K = kP) {b : Nat} {x1 : Int} (hb : isC b) {M : Mem} {res : Int × Mem} (hM : OkM M) (ha : okS [aR (b + 37), aI x1]) (hF : pLaws_valueOf b x1 M = some res) : Ct l G K yX4_valueOf (wsM yX4_valueOf cX4_valueOf 6 (some .int)) rmX4_valueOf [aR (b + 37), aI x1] M (some (aI res.1)) res.2 := by
  refine ct_of RX4 (by decide +kernel) rfl (hK ▸ kP_ok) hM ha (Nat.le_of_ble_eq_true rfl) hF ?_
  intro X C hl hG hX0 hN hR hq
  have hX : xK X = kP := hX0.trans hK
  show Im X 0 0 0 [(0, aR (b + 37)), (1, aI x1)] [] M res (pLaws_valueOf b x1 M)
  unfold pLaws_valueOf
  have hl2 : 2 < xn X := by rw [hN]; decide
  have hl3 : 3 < xn X := by rw [hN]; decide
  have hl4 : 4 < xn X := by rw [hN]; decide
  have hl5 : 5 < xn X := by rw [hN]; decide
  have hRm : ∀ {rm : Room} {ny : Nat}, RmOk rmX4_valueOf rm ny → RmOk (xR X) rm ny := fun h => by rw [hR]; exact h
  refine i_iconst C dX4_valueOf_0 kI_0 ?_
  refine i_istore_n C dX4_valueOf_1 rfl hl2 (L' := [(0, aR (b + 37)), (1, aI x1), (2, aI 0)]) rfl ?_
  refine i_iload_n C dX4_valueOf_2 rfl (q := 1) rfl ?_
  refine i_bipush C dX4_valueOf_3 kB_96 ?_
  refine i_imul C dX4_valueOf_5 ?_
  refine i_nm (fun v1 => ?_)
  refine i_istore_n C dX4_valueOf_6 rfl hl3 (L' := [(0, aR (b + 37)), (1, aI x1), (2, aI 0), (3, aI v1)]) rfl ?_
  refine i_iload_n C dX4_valueOf_7 rfl (q := 3) rfl ?_
  refine i_istore C dX4_valueOf_8 hl4 (L' := [(0, aR (b + 37)), (1, aI x1), (2, aI 0), (3, aI v1), (4, aI v1)]) rfl ?_
  exact (w_X4_valueOf_10 C hX hN hR hb hq x1 v1 FU 0 v1 M)
set_option maxRecDepth 100000 in
set_option maxHeartbeats 4000000 in
theorem w_X0_letsParcels_2 {X : Xc} (C : Cx X RX0 cX0_letsParcels (some .boolean)) (hX : xK X = kP) (hN : xn X = 4) (hR : xR X = rmX0_letsParcels) {b : Nat} (hb : isC b) {res : Int × Mem} (hq : Rq X (some (aI res.1)) res.2) (y1 : Int) (y2 : Int) : ∀ (n : Nat) (u3 : Int) (M : Mem), Im X 0 0 2 [(0, aR b), (1, aI y1), (2, aI y2), (3, aI u3)] [] M res (lpX0_letsParcels_2 b y1 y2 n u3 M) := by
  have hl3 : 3 < xn X := by rw [hN]; decide
  have hRm : ∀ {rm : Room} {ny : Nat}, RmOk rmX0_letsParcels rm ny → RmOk (xR X) rm ny := fun h => by rw [hR]; exact h
  intro n
  induction n with
  | zero => intro _ _; exact i_none
  | succ n ih =>
    intro u3 M
    unfold lpX0_letsParcels_2
    refine i_iload_n C dX0_letsParcels_2 rfl (q := 3) rfl ?_
    refine i_aload_n C dX0_letsParcels_3 rfl (q := 0) rfl ?_
    refine i_getR C (k := 8) kX0 dX0_letsParcels_4 (shP_0 hX hb) rfl (by decide) fl_X0_45 ?_
    refine i_getI C (k := 0) kX9 dX0_letsParcels_7 (shP_15 hX hb) rfl (by decide) fl_X0_169 rfl ?_
    refine i_icmp_ge (tgt := 113) C dX0_letsParcels_10 (by decide) ?_ ?_
    · refine i_iconst C dX0_letsParcels_113 kI_1 ?_
      exact i_zret C hq dX0_letsParcels_114 (Or.inr rfl)
    · refine i_aload_n C dX0_letsParcels_13 rfl (q := 0) rfl ?_
      refine i_getR C (k := 8) kX0 dX0_letsParcels_14 (shP_0 hX hb) rfl (by decide) fl_X0_45 ?_
      refine i_getR C (k := 1) kX9 dX0_letsParcels_17 (shP_15 hX hb) rfl (by decide) fl_X0_127 ?_
      refine i_iload_n C dX0_letsParcels_20 rfl (q := 3) rfl ?_
      refine i_ald C dX0_letsParcels_21 (shP_16 hX hb) (fun v1 => ?_)
      refine i_bipush C dX0_letsParcels_22 kB_7 ?_
      refine i_jn (fun j => ∀  (M3 : Mem), Im X 0 0 107 [(0, aR b), (1, aI y1), (2, aI y2), (3, aI u3)] [] M3 res (j  M3)) ?_ (fun j2 hj2 => ?_)
      · intro  M3
        refine i_iincN (L' := fun v4 => [(0, aR b), (1, aI y1), (2, aI y2), (3, aI v4)]) C dX0_letsParcels_107 (q := 3) rfl hl3 (fun _ => rfl) (fun v4 => ?_)
        refine i_goto (tgt := 2) C dX0_letsParcels_110 (by decide) ?_
        exact (ih v4 M3)
      refine i_icmp_ne (tgt := 107) C dX0_letsParcels_24 (by decide) ?_ ?_
      · exact (hj2  M)
      · refine i_aload_n C dX0_letsParcels_27 rfl (q := 0) rfl ?_
        refine i_getR C (k := 8) kX0 dX0_letsParcels_28 (shP_0 hX hb) rfl (by decide) fl_X0_45 ?_
        refine i_getR C (k := 10) kX9 dX0_letsParcels_31 (shP_15 hX hb) rfl (by decide) fl_X0_261 ?_
        refine i_iload_n C dX0_letsParcels_34 rfl (q := 3) rfl ?_
        refine i_ald C dX0_letsParcels_35 (shP_25 hX hb) (fun v5 => ?_)
        refine i_iload_n C dX0_letsParcels_36 rfl (q := 1) rfl ?_
        refine i_icmp_eq (tgt := 43) C dX0_letsParcels_37 (by decide) ?_ ?_
        · refine i_iload_n C dX0_letsParcels_43 rfl (q := 2) rfl ?_
          refine i_ldc C dX0_letsParcels_44 kc_X0_28 kI_m1000000005 ?_
          refine i_icmp_ne (tgt := 51) C dX0_letsParcels_46 (by decide) ?_ ?_
          · refine i_aload_n C dX0_letsParcels_51 rfl (q := 0) rfl ?_
            refine i_getR C (k := 10) kX0 dX0_letsParcels_52 (shP_0 hX hb) rfl (by decide) fl_X0_59 ?_
            refine i_aload_n C dX0_letsParcels_55 rfl (q := 0) rfl ?_
            refine i_getR C (k := 8) kX0 dX0_letsParcels_56 (shP_0 hX hb) rfl (by decide) fl_X0_45 ?_
            refine i_getR C (k := 4) kX9 dX0_letsParcels_59 (shP_15 hX hb) rfl (by decide) fl_X0_177 ?_
            refine i_iload_n C dX0_letsParcels_62 rfl (q := 3) rfl ?_
            refine i_ald C dX0_letsParcels_63 (shP_19 hX hb) (fun v6 => ?_)
            refine i_aload_n C dX0_letsParcels_64 rfl (q := 0) rfl ?_
            refine i_getR C (k := 8) kX0 dX0_letsParcels_65 (shP_0 hX hb) rfl (by decide) fl_X0_45 ?_
            refine i_getR C (k := 9) kX9 dX0_letsParcels_68 (shP_15 hX hb) rfl (by decide) fl_X0_264 ?_
            refine i_iload_n C dX0_letsParcels_71 rfl (q := 3) rfl ?_
            refine i_ald C dX0_letsParcels_72 (shP_24 hX hb) (fun v7 => ?_)
            refine i_aload_n C dX0_letsParcels_73 rfl (q := 0) rfl ?_
            refine i_getR C (k := 7) kX0 dX0_letsParcels_74 (shP_0 hX hb) rfl (by decide) fl_X0_38 ?_
            refine i_getR C (k := 2) kX6 dX0_letsParcels_77 (shP_6 hX hb) rfl (by decide) fl_X0_242 ?_
            refine i_aload_n C dX0_letsParcels_80 rfl (q := 0) rfl ?_
            refine i_getR C (k := 8) kX0 dX0_letsParcels_81 (shP_0 hX hb) rfl (by decide) fl_X0_45 ?_
            refine i_getR C (k := 2) kX9 dX0_letsParcels_84 (shP_15 hX hb) rfl (by decide) fl_X0_140 ?_
            refine i_iload_n C dX0_letsParcels_87 rfl (q := 1) rfl ?_
            refine i_ald C dX0_letsParcels_88 (shP_17 hX hb) (fun v8 => ?_)
            refine i_ald C dX0_letsParcels_89 (shP_8 hX hb) (fun v9 => ?_)
            refine i_iconst C dX0_letsParcels_90 kI_0 ?_
            refine i_cV (kc' := 0) (ks' := 0) 0 0 5 (fun q hq hM hS => crV C (as := [aI v6, aI v7, aI v9, aI 0]) dX0_letsParcels_91.1 kX4 (shP_37 hX hb) ml_X0_251 cal_X4_setNames cv_X4_setNames (hRm ⟨Nat.le_of_ble_eq_true rfl, Nat.le_of_ble_eq_true rfl⟩) rfl (Nat.le_of_ble_eq_true rfl) (c_X4_setNames (xl X) (xG X) hX hb hM ⟨hS.2.2.2.2.1, hS.2.2.2.1, hS.2.2.1, hS.2.1, hS.1, trivial⟩ hq)) (Nat.le_of_ble_eq_true rfl) (Nat.le_of_ble_eq_true rfl) rfl rfl rfl (fun M10 => ?_)
            refine i_aload_n C dX0_letsParcels_94 rfl (q := 0) rfl ?_
            refine i_getR C (k := 10) kX0 dX0_letsParcels_95 (shP_0 hX hb) rfl (by decide) fl_X0_59 ?_
            refine i_iload_n C dX0_letsParcels_98 rfl (q := 2) rfl ?_
            refine i_cI (kc' := 0) (ks' := 0) 0 0 2 (fun q hq hM hS => crV C (as := [aI y2]) dX0_letsParcels_99.1 kX4 (shP_37 hX hb) ml_X0_255 cal_X4_valueOf cv_X4_valueOf (hRm ⟨Nat.le_of_ble_eq_true rfl, Nat.le_of_ble_eq_true rfl⟩) rfl (Nat.le_of_ble_eq_true rfl) (c_X4_valueOf (xl X) (xG X) hX hb hM ⟨hS.2.1, hS.1, trivial⟩ hq)) (Nat.le_of_ble_eq_true rfl) (Nat.le_of_ble_eq_true rfl) rfl rfl rfl (fun v12 M11 => ?_)
            refine i_if_ne (tgt := 107) C dX0_letsParcels_102 (by decide) ?_ ?_
            · exact (hj2  M11)
            · refine i_iconst C dX0_letsParcels_105 kI_0 ?_
              exact i_zret C hq dX0_letsParcels_106 (Or.inl rfl)
          · refine i_iconst C dX0_letsParcels_49 kI_0 ?_
            exact i_zret C hq dX0_letsParcels_50 (Or.inl rfl)
        · refine i_goto (tgt := 107) C dX0_letsParcels_40 (by decide) ?_
          exact (hj2  M)
set_option maxRecDepth 100000 in
set_option maxHeartbeats 4000000 in
theorem c_X0_letsParcels (l : Launch) (G : Gx) {K : Kx} (hK : K = kP) {b : Nat} {x1 : Int} {x2 : Int} (hb : isC b) {M : Mem} {res : Int × Mem} (hM : OkM M) (ha : okS [aR b, aI x1, aI x2]) (hF : pCity_letsParcels b x1 x2 M = some res) : Ct l G K yX0_letsParcels (wsM yX0_letsParcels cX0_letsParcels 4 (some .boolean)) rmX0_letsParcels [aR b, aI x1, aI x2] M (some (aI res.1)) res.2 := by
  refine ct_of RX0 (by decide +kernel) rfl (hK ▸ kP_ok) hM ha (Nat.le_of_ble_eq_true rfl) hF ?_
  intro X C hl hG hX0 hN hR hq
  have hX : xK X = kP := hX0.trans hK
  show Im X 0 0 0 [(0, aR b), (1, aI x1), (2, aI x2)] [] M res (pCity_letsParcels b x1 x2 M)
  unfold pCity_letsParcels
  have hl3 : 3 < xn X := by rw [hN]; decide
  have hRm : ∀ {rm : Room} {ny : Nat}, RmOk rmX0_letsParcels rm ny → RmOk (xR X) rm ny := fun h => by rw [hR]; exact h
  refine i_iconst C dX0_letsParcels_0 kI_0 ?_
  refine i_istore_n C dX0_letsParcels_1 rfl hl3 (L' := [(0, aR b), (1, aI x1), (2, aI x2), (3, aI 0)]) rfl ?_
  exact (w_X0_letsParcels_2 C hX hN hR hb hq x1 x2 FU 0 M)
set_option maxRecDepth 100000 in
set_option maxHeartbeats 4000000 in
theorem c_X0_lets (l : Launch) (G : Gx) {K : Kx} (hK : K = kP) {b : Nat} {x1 : Int} {x2 : Int} (hb : isC b) {M : Mem} {res : Int × Mem} (hM : OkM M) (ha : okS [aR b, aI x1, aI x2]) (hF : pCity_lets b x1 x2 M = some res) : Ct l G K yX0_lets (wsM yX0_lets cX0_lets 5 (some .boolean)) rmX0_lets [aR b, aI x1, aI x2] M (some (aI res.1)) res.2 := by
  refine ct_of RX0 (by decide +kernel) rfl (hK ▸ kP_ok) hM ha (Nat.le_of_ble_eq_true rfl) hF ?_
  intro X C hl hG hX0 hN hR hq
  have hX : xK X = kP := hX0.trans hK
  show Im X 0 0 0 [(0, aR b), (1, aI x1), (2, aI x2)] [] M res (pCity_lets b x1 x2 M)
  unfold pCity_lets
  have hl3 : 3 < xn X := by rw [hN]; decide
  have hl4 : 4 < xn X := by rw [hN]; decide
  have hRm : ∀ {rm : Room} {ny : Nat}, RmOk rmX0_lets rm ny → RmOk (xR X) rm ny := fun h => by rw [hR]; exact h
  refine i_aload_n C dX0_lets_0 rfl (q := 0) rfl ?_
  refine i_getR C (k := 8) kX0 dX0_lets_1 (shP_0 hX hb) rfl (by decide) fl_X0_45 ?_
  refine i_getR C (k := 2) kX9 dX0_lets_4 (shP_15 hX hb) rfl (by decide) fl_X0_140 ?_
  refine i_iload_n C dX0_lets_7 rfl (q := 1) rfl ?_
  refine i_ald C dX0_lets_8 (shP_17 hX hb) (fun v1 => ?_)
  refine i_istore_n C dX0_lets_9 rfl hl3 (L' := [(0, aR b), (1, aI x1), (2, aI x2), (3, aI v1)]) rfl ?_
  refine i_aload_n C dX0_lets_10 rfl (q := 0) rfl ?_
  refine i_iload_n C dX0_lets_11 rfl (q := 2) rfl ?_
  refine i_iconst C dX0_lets_12 kI_0 ?_
  refine i_cI (kc' := 0) (ks' := 0) 0 0 3 (fun q hq hM hS => crV C (as := [aI x2, aI 0]) dX0_lets_13.1 kX0 (shP_0 hX hb) ml_X0_239 cal_X0_lawOf cv_X0_lawOf (hRm ⟨Nat.le_of_ble_eq_true rfl, Nat.le_of_ble_eq_true rfl⟩) rfl (Nat.le_of_ble_eq_true rfl) (c_X0_lawOf (xl X) (xG X) hX hb hM ⟨hS.2.2.1, hS.2.1, hS.1, trivial⟩ hq)) (Nat.le_of_ble_eq_true rfl) (Nat.le_of_ble_eq_true rfl) rfl rfl rfl (fun v3 M2 => ?_)
  refine i_istore C dX0_lets_16 hl4 (L' := [(0, aR b), (1, aI x1), (2, aI x2), (3, aI v1), (4, aI v3)]) rfl ?_
  refine i_iload C dX0_lets_18 (q := 4) rfl ?_
  refine i_ldc C dX0_lets_20 kc_X0_28 kI_m1000000005 ?_
  refine i_icmp_ne (tgt := 27) C dX0_lets_22 (by decide) ?_ ?_
  · refine i_aload_n C dX0_lets_27 rfl (q := 0) rfl ?_
    refine i_getR C (k := 10) kX0 dX0_lets_28 (shP_0 hX hb) rfl (by decide) fl_X0_59 ?_
    refine i_aload_n C dX0_lets_31 rfl (q := 0) rfl ?_
    refine i_getR C (k := 7) kX0 dX0_lets_32 (shP_0 hX hb) rfl (by decide) fl_X0_38 ?_
    refine i_getR C (k := 2) kX6 dX0_lets_35 (shP_6 hX hb) rfl (by decide) fl_X0_242 ?_
    refine i_iload_n C dX0_lets_38 rfl (q := 3) rfl ?_
    refine i_ald C dX0_lets_39 (shP_8 hX hb) (fun v4 => ?_)
    refine i_aload_n C dX0_lets_40 rfl (q := 0) rfl ?_
    refine i_getR C (k := 7) kX0 dX0_lets_41 (shP_0 hX hb) rfl (by decide) fl_X0_38 ?_
    refine i_getR C (k := 3) kX6 dX0_lets_44 (shP_6 hX hb) rfl (by decide) fl_X0_245 ?_
    refine i_iload_n C dX0_lets_47 rfl (q := 3) rfl ?_
    refine i_ald C dX0_lets_48 (shP_9 hX hb) (fun v5 => ?_)
    refine i_aload_n C dX0_lets_49 rfl (q := 0) rfl ?_
    refine i_getR C (k := 8) kX0 dX0_lets_50 (shP_0 hX hb) rfl (by decide) fl_X0_45 ?_
    refine i_iload_n C dX0_lets_53 rfl (q := 3) rfl ?_
    refine i_aload_n C dX0_lets_54 rfl (q := 0) rfl ?_
    refine i_getR C (k := 8) kX0 dX0_lets_55 (shP_0 hX hb) rfl (by decide) fl_X0_45 ?_
    refine i_getR C (k := 3) kX9 dX0_lets_58 (shP_15 hX hb) rfl (by decide) fl_X0_202 ?_
    refine i_iload_n C dX0_lets_61 rfl (q := 1) rfl ?_
    refine i_ald C dX0_lets_62 (shP_18 hX hb) (fun v6 => ?_)
    refine i_cI (kc' := 0) (ks' := 0) 0 0 3 (fun q hq hM hS => crV C (as := [aI v1, aI v6]) dX0_lets_63.1 kX9 (shP_15 hX hb) ml_X0_248 cal_X9_kinOf cv_X9_kinOf (hRm ⟨Nat.le_of_ble_eq_true rfl, Nat.le_of_ble_eq_true rfl⟩) rfl (Nat.le_of_ble_eq_true rfl) (c_X9_kinOf (xl X) (xG X) hX hb hM ⟨hS.2.2.1, hS.2.1, hS.1, trivial⟩ hq)) (Nat.le_of_ble_eq_true rfl) (Nat.le_of_ble_eq_true rfl) rfl rfl rfl (fun v8 M7 => ?_)
    refine i_aload_n C dX0_lets_66 rfl (q := 0) rfl ?_
    refine i_cI (kc' := 0) (ks' := 0) 0 0 1 (fun q hq hM hS => crV C (as := []) dX0_lets_67.1 kX0 (shP_0 hX hb) ml_X0_214 cal_X0_day cv_X0_day (hRm ⟨Nat.le_of_ble_eq_true rfl, Nat.le_of_ble_eq_true rfl⟩) rfl (Nat.le_of_ble_eq_true rfl) (c_X0_day (xl X) (xG X) hX hb hM ⟨hS.1, trivial⟩ hq)) (Nat.le_of_ble_eq_true rfl) (Nat.le_of_ble_eq_true rfl) rfl rfl rfl (fun v10 M9 => ?_)
    refine i_bipush C dX0_lets_70 kB_7 ?_
    refine i_irem C dX0_lets_72 (by decide) ?_
    refine i_cV (kc' := 0) (ks' := 0) 0 0 5 (fun q hq hM hS => crV C (as := [aI v4, aI v5, aI v8, aI (w32 (Int.tmod v10 7))]) dX0_lets_73.1 kX4 (shP_37 hX hb) ml_X0_251 cal_X4_setNames cv_X4_setNames (hRm ⟨Nat.le_of_ble_eq_true rfl, Nat.le_of_ble_eq_true rfl⟩) rfl (Nat.le_of_ble_eq_true rfl) (c_X4_setNames (xl X) (xG X) hX hb hM ⟨hS.2.2.2.2.1, hS.2.2.2.1, hS.2.2.1, hS.2.1, hS.1, trivial⟩ hq)) (Nat.le_of_ble_eq_true rfl) (Nat.le_of_ble_eq_true rfl) rfl rfl rfl (fun M11 => ?_)
    refine i_aload_n C dX0_lets_76 rfl (q := 0) rfl ?_
    refine i_getR C (k := 10) kX0 dX0_lets_77 (shP_0 hX hb) rfl (by decide) fl_X0_59 ?_
    refine i_iload C dX0_lets_80 (q := 4) rfl ?_
    refine i_cI (kc' := 0) (ks' := 0) 0 0 2 (fun q hq hM hS => crV C (as := [aI v3]) dX0_lets_82.1 kX4 (shP_37 hX hb) ml_X0_255 cal_X4_valueOf cv_X4_valueOf (hRm ⟨Nat.le_of_ble_eq_true rfl, Nat.le_of_ble_eq_true rfl⟩) rfl (Nat.le_of_ble_eq_true rfl) (c_X4_valueOf (xl X) (xG X) hX hb hM ⟨hS.2.1, hS.1, trivial⟩ hq)) (Nat.le_of_ble_eq_true rfl) (Nat.le_of_ble_eq_true rfl) rfl rfl rfl (fun v13 M12 => ?_)
    refine i_if_eq (tgt := 106) C dX0_lets_85 (by decide) ?_ ?_
    · refine i_iconst C dX0_lets_106 kI_0 ?_
      exact i_zret C hq dX0_lets_107 (Or.inl rfl)
    · refine i_aload_n C dX0_lets_88 rfl (q := 0) rfl ?_
      refine i_iload_n C dX0_lets_89 rfl (q := 1) rfl ?_
      refine i_aload_n C dX0_lets_90 rfl (q := 0) rfl ?_
      refine i_iload_n C dX0_lets_91 rfl (q := 2) rfl ?_
      refine i_iconst C dX0_lets_92 kI_1 ?_
      refine i_cI (kc' := 0) (ks' := 0) 0 0 3 (fun q hq hM hS => crV C (as := [aI x2, aI 1]) dX0_lets_93.1 kX0 (shP_0 hX hb) ml_X0_239 cal_X0_lawOf cv_X0_lawOf (hRm ⟨Nat.le_of_ble_eq_true rfl, Nat.le_of_ble_eq_true rfl⟩) rfl (Nat.le_of_ble_eq_true rfl) (c_X0_lawOf (xl X) (xG X) hX hb hM ⟨hS.2.2.1, hS.2.1, hS.1, trivial⟩ hq)) (Nat.le_of_ble_eq_true rfl) (Nat.le_of_ble_eq_true rfl) rfl rfl rfl (fun v15 M14 => ?_)
      refine i_cI (kc' := 0) (ks' := 0) 0 0 3 (fun q hq hM hS => crV C (as := [aI x1, aI v15]) dX0_lets_96.1 kX0 (shP_0 hX hb) ml_X0_258 cal_X0_letsParcels cv_X0_letsParcels (hRm ⟨Nat.le_of_ble_eq_true rfl, Nat.le_of_ble_eq_true rfl⟩) rfl (Nat.le_of_ble_eq_true rfl) (c_X0_letsParcels (xl X) (xG X) hX hb hM ⟨hS.2.2.1, hS.2.1, hS.1, trivial⟩ hq)) (Nat.le_of_ble_eq_true rfl) (Nat.le_of_ble_eq_true rfl) rfl rfl rfl (fun v17 M16 => ?_)
      refine i_if_eq (tgt := 106) C dX0_lets_99 (by decide) ?_ ?_
      · refine i_iconst C dX0_lets_106 kI_0 ?_
        exact i_zret C hq dX0_lets_107 (Or.inl rfl)
      · refine i_iconst C dX0_lets_102 kI_1 ?_
        refine i_goto (tgt := 107) C dX0_lets_103 (by decide) ?_
        exact i_zret C hq dX0_lets_107 (Or.inr rfl)
  · refine i_iconst C dX0_lets_25 kI_0 ?_
    exact i_zret C hq dX0_lets_26 (Or.inl rfl)
set_option maxRecDepth 100000 in
set_option maxHeartbeats 4000000 in
theorem c_X0_whyNot (l : Launch) (G : Gx) {K : Kx} (hK : K = kP) {b : Nat} {x1 : Int} (hb : isC b) {M : Mem} {res : Int × Mem} (hM : OkM M) (ha : okS [aR b, aI x1]) (hF : pCity_whyNot b x1 M = some res) : Ct l G K yX0_whyNot (wsM yX0_whyNot cX0_whyNot 3 (some .int)) rmX0_whyNot [aR b, aI x1] M (some (aI res.1)) res.2 := by
  refine ct_of RX0 (by decide +kernel) rfl (hK ▸ kP_ok) hM ha (Nat.le_of_ble_eq_true rfl) hF ?_
  intro X C hl hG hX0 hN hR hq
  have hX : xK X = kP := hX0.trans hK
  show Im X 0 0 0 [(0, aR b), (1, aI x1)] [] M res (pCity_whyNot b x1 M)
  unfold pCity_whyNot
  have hl2 : 2 < xn X := by rw [hN]; decide
  have hRm : ∀ {rm : Room} {ny : Nat}, RmOk rmX0_whyNot rm ny → RmOk (xR X) rm ny := fun h => by rw [hR]; exact h
  refine i_aload_n C dX0_whyNot_0 rfl (q := 0) rfl ?_
  refine i_getR C (k := 8) kX0 dX0_whyNot_1 (shP_0 hX hb) rfl (by decide) fl_X0_45 ?_
  refine i_getR C (k := 2) kX9 dX0_whyNot_4 (shP_15 hX hb) rfl (by decide) fl_X0_140 ?_
  refine i_iload_n C dX0_whyNot_7 rfl (q := 1) rfl ?_
  refine i_ald C dX0_whyNot_8 (shP_17 hX hb) (fun v1 => ?_)
  refine i_istore_n C dX0_whyNot_9 rfl hl2 (L' := [(0, aR b), (1, aI x1), (2, aI v1)]) rfl ?_
  refine i_aload_n C dX0_whyNot_10 rfl (q := 0) rfl ?_
  refine i_getR C (k := 7) kX0 dX0_whyNot_11 (shP_0 hX hb) rfl (by decide) fl_X0_38 ?_
  refine i_getR C (k := 4) kX6 dX0_whyNot_14 (shP_6 hX hb) rfl (by decide) fl_X0_113 ?_
  refine i_iload_n C dX0_whyNot_17 rfl (q := 2) rfl ?_
  refine i_ald C dX0_whyNot_18 (shP_10 hX hb) (fun v2 => ?_)
  refine i_ldc C dX0_whyNot_19 kc_X0_28 kI_m1000000005 ?_
  refine i_icmp_eq (tgt := 32) C dX0_whyNot_21 (by decide) ?_ ?_
  · refine i_iconst C dX0_whyNot_32 kI_1 ?_
    exact i_iret C hq dX0_whyNot_33
  · refine i_aload_n C dX0_whyNot_24 rfl (q := 0) rfl ?_
    refine i_iload_n C dX0_whyNot_25 rfl (q := 2) rfl ?_
    refine i_cI (kc' := 0) (ks' := 0) 0 0 2 (fun q hq hM hS => crV C (as := [aI v1]) dX0_whyNot_26.1 kX0 (shP_0 hX hb) ml_X0_123 cal_X0_isAbroad cv_X0_isAbroad (hRm ⟨Nat.le_of_ble_eq_true rfl, Nat.le_of_ble_eq_true rfl⟩) rfl (Nat.le_of_ble_eq_true rfl) (c_X0_isAbroad (xl X) (xG X) hX hb hM ⟨hS.2.1, hS.1, trivial⟩ hq)) (Nat.le_of_ble_eq_true rfl) (Nat.le_of_ble_eq_true rfl) rfl rfl rfl (fun v4 M3 => ?_)
    refine i_if_eq (tgt := 34) C dX0_whyNot_29 (by decide) ?_ ?_
    · refine i_aload_n C dX0_whyNot_34 rfl (q := 0) rfl ?_
      refine i_getR C (k := 8) kX0 dX0_whyNot_35 (shP_0 hX hb) rfl (by decide) fl_X0_45 ?_
      refine i_getR C (k := 7) kX9 dX0_whyNot_38 (shP_15 hX hb) rfl (by decide) fl_X0_143 ?_
      refine i_iload_n C dX0_whyNot_41 rfl (q := 1) rfl ?_
      refine i_ald C dX0_whyNot_42 (shP_22 hX hb) (fun v5 => ?_)
      refine i_if_eq (tgt := 48) C dX0_whyNot_43 (by decide) ?_ ?_
      · refine i_aload_n C dX0_whyNot_48 rfl (q := 0) rfl ?_
        refine i_cI (kc' := 0) (ks' := 0) 0 0 1 (fun q hq hM hS => crV C (as := []) dX0_whyNot_49.1 kX0 (shP_0 hX hb) ml_X0_214 cal_X0_day cv_X0_day (hRm ⟨Nat.le_of_ble_eq_true rfl, Nat.le_of_ble_eq_true rfl⟩) rfl (Nat.le_of_ble_eq_true rfl) (c_X0_day (xl X) (xG X) hX hb hM ⟨hS.1, trivial⟩ hq)) (Nat.le_of_ble_eq_true rfl) (Nat.le_of_ble_eq_true rfl) rfl rfl rfl (fun v7 M6 => ?_)
        refine i_aload_n C dX0_whyNot_52 rfl (q := 0) rfl ?_
        refine i_getR C (k := 8) kX0 dX0_whyNot_53 (shP_0 hX hb) rfl (by decide) fl_X0_45 ?_
        refine i_getR C (k := 5) kX9 dX0_whyNot_56 (shP_15 hX hb) rfl (by decide) fl_X0_229 ?_
        refine i_iload_n C dX0_whyNot_59 rfl (q := 1) rfl ?_
        refine i_ald C dX0_whyNot_60 (shP_20 hX hb) (fun v8 => ?_)
        refine i_aload_n C dX0_whyNot_61 rfl (q := 0) rfl ?_
        refine i_getR C (k := 8) kX0 dX0_whyNot_62 (shP_0 hX hb) rfl (by decide) fl_X0_45 ?_
        refine i_getR C (k := 6) kX9 dX0_whyNot_65 (shP_15 hX hb) rfl (by decide) fl_X0_211 ?_
        refine i_iload_n C dX0_whyNot_68 rfl (q := 1) rfl ?_
        refine i_ald C dX0_whyNot_69 (shP_21 hX hb) (fun v9 => ?_)
        refine i_cI (kc' := 0) (ks' := 0) 0 0 3 (fun q hq hM hS => crN C (as := [aI v7, aI v8, aI v9]) dX0_whyNot_70.1 (by decide) cal_X11_within st_X11_within (hRm ⟨Nat.le_of_ble_eq_true rfl, Nat.le_of_ble_eq_true rfl⟩) rfl (Nat.le_of_ble_eq_true rfl) (c_X11_within (xl X) (xG X) hX hM ⟨hS.2.2.1, hS.2.1, hS.1, trivial⟩ hq)) (Nat.le_of_ble_eq_true rfl) (Nat.le_of_ble_eq_true rfl) rfl rfl rfl (fun v11 M10 => ?_)
        refine i_if_ne (tgt := 78) C dX0_whyNot_73 (by decide) ?_ ?_
        · refine i_aload_n C dX0_whyNot_78 rfl (q := 0) rfl ?_
          refine i_iload_n C dX0_whyNot_79 rfl (q := 1) rfl ?_
          refine i_iconst C dX0_whyNot_80 kI_0 ?_
          refine i_cI (kc' := 0) (ks' := 0) 0 0 3 (fun q hq hM hS => crV C (as := [aI x1, aI 0]) dX0_whyNot_81.1 kX0 (shP_0 hX hb) ml_X0_236 cal_X0_lets cv_X0_lets (hRm ⟨Nat.le_of_ble_eq_true rfl, Nat.le_of_ble_eq_true rfl⟩) rfl (Nat.le_of_ble_eq_true rfl) (c_X0_lets (xl X) (xG X) hX hb hM ⟨hS.2.2.1, hS.2.1, hS.1, trivial⟩ hq)) (Nat.le_of_ble_eq_true rfl) (Nat.le_of_ble_eq_true rfl) rfl rfl rfl (fun v13 M12 => ?_)
          refine i_if_ne (tgt := 89) C dX0_whyNot_84 (by decide) ?_ ?_
          · refine i_aload_n C dX0_whyNot_89 rfl (q := 0) rfl ?_
            refine i_iload_n C dX0_whyNot_90 rfl (q := 1) rfl ?_
            refine i_iconst C dX0_whyNot_91 kI_1 ?_
            refine i_cI (kc' := 0) (ks' := 0) 0 0 3 (fun q hq hM hS => crV C (as := [aI x1, aI 1]) dX0_whyNot_92.1 kX0 (shP_0 hX hb) ml_X0_236 cal_X0_lets cv_X0_lets (hRm ⟨Nat.le_of_ble_eq_true rfl, Nat.le_of_ble_eq_true rfl⟩) rfl (Nat.le_of_ble_eq_true rfl) (c_X0_lets (xl X) (xG X) hX hb hM ⟨hS.2.2.1, hS.2.1, hS.1, trivial⟩ hq)) (Nat.le_of_ble_eq_true rfl) (Nat.le_of_ble_eq_true rfl) rfl rfl rfl (fun v15 M14 => ?_)
            refine i_if_eq (tgt := 102) C dX0_whyNot_95 (by decide) ?_ ?_
            · refine i_iconst C dX0_whyNot_102 kI_5 ?_
              exact i_iret C hq dX0_whyNot_103
            · refine i_iconst C dX0_whyNot_98 kI_0 ?_
              refine i_goto (tgt := 103) C dX0_whyNot_99 (by decide) ?_
              exact i_iret C hq dX0_whyNot_103
          · refine i_iconst C dX0_whyNot_87 kI_4 ?_
            exact i_iret C hq dX0_whyNot_88
        · refine i_iconst C dX0_whyNot_76 kI_3 ?_
          exact i_iret C hq dX0_whyNot_77
      · refine i_iconst C dX0_whyNot_46 kI_2 ?_
        exact i_iret C hq dX0_whyNot_47
    · refine i_iconst C dX0_whyNot_32 kI_1 ?_
      exact i_iret C hq dX0_whyNot_33
set_option maxRecDepth 100000 in
set_option maxHeartbeats 4000000 in
theorem w_X0_visitsOf_14 {X : Xc} (C : Cx X RX0 cX0_visitsOf (some .int)) (hX : xK X = kP) (hN : xn X = 6) (hR : xR X = rmX0_visitsOf) {b : Nat} (hb : isC b) {res : Int × Mem} (hq : Rq X (some (aI res.1)) res.2) (y1 : Int) (y2 : Int) (y3 : Int) : ∀ (n : Nat) (u4 : Int) (u5 : Int) (M : Mem), Im X 0 0 14 [(0, aR b), (1, aI y1), (2, aI y2), (3, aI y3), (4, aI u4), (5, aI u5)] [] M res (lpX0_visitsOf_14 b y1 y2 y3 n u4 u5 M) := by
  have hl4 : 4 < xn X := by rw [hN]; decide
  have hl5 : 5 < xn X := by rw [hN]; decide
  have hRm : ∀ {rm : Room} {ny : Nat}, RmOk rmX0_visitsOf rm ny → RmOk (xR X) rm ny := fun h => by rw [hR]; exact h
  intro n
  induction n with
  | zero => intro _ _ _; exact i_none
  | succ n ih =>
    intro u4 u5 M
    unfold lpX0_visitsOf_14
    refine i_iload C dX0_visitsOf_14 (q := 5) rfl ?_
    refine i_aload_n C dX0_visitsOf_16 rfl (q := 0) rfl ?_
    refine i_getR C (k := 7) kX0 dX0_visitsOf_17 (shP_0 hX hb) rfl (by decide) fl_X0_38 ?_
    refine i_getI C (k := 0) kX6 dX0_visitsOf_20 (shP_6 hX hb) rfl (by decide) fl_X0_120 rfl ?_
    refine i_icmp_ge (tgt := 128) C dX0_visitsOf_23 (by decide) ?_ ?_
    · refine i_iload C dX0_visitsOf_128 (q := 4) rfl ?_
      exact i_iret C hq dX0_visitsOf_130
    · refine i_aload_n C dX0_visitsOf_26 rfl (q := 0) rfl ?_
      refine i_getR C (k := 7) kX0 dX0_visitsOf_27 (shP_0 hX hb) rfl (by decide) fl_X0_38 ?_
      refine i_iload C dX0_visitsOf_30 (q := 5) rfl ?_
      refine i_cI (kc' := 0) (ks' := 0) 0 0 2 (fun q hq hM hS => crV C (as := [aI u5]) dX0_visitsOf_32.1 kX6 (shP_6 hX hb) ml_X0_208 cal_X6_isDead cv_X6_isDead (hRm ⟨Nat.le_of_ble_eq_true rfl, Nat.le_of_ble_eq_true rfl⟩) rfl (Nat.le_of_ble_eq_true rfl) (c_X6_isDead (xl X) (xG X) hX hb hM ⟨hS.2.1, hS.1, trivial⟩ hq)) (Nat.le_of_ble_eq_true rfl) (Nat.le_of_ble_eq_true rfl) rfl rfl rfl (fun v3 M2 => ?_)
      refine i_jn (fun j => ∀ (p4 : Int) (M6 : Mem), Im X 0 0 122 [(0, aR b), (1, aI y1), (2, aI y2), (3, aI y3), (4, aI p4), (5, aI u5)] [] M6 res (j p4 M6)) ?_ (fun j5 hj5 => ?_)
      · intro p4 M6
        refine i_iincN (L' := fun v7 => [(0, aR b), (1, aI y1), (2, aI y2), (3, aI y3), (4, aI p4), (5, aI v7)]) C dX0_visitsOf_122 (q := 5) rfl hl5 (fun _ => rfl) (fun v7 => ?_)
        refine i_goto (tgt := 14) C dX0_visitsOf_125 (by decide) ?_
        exact (ih p4 v7 M6)
      refine i_if_ne (tgt := 122) C dX0_visitsOf_35 (by decide) ?_ ?_
      · exact (hj5 u4 M2)
      · refine i_aload_n C dX0_visitsOf_38 rfl (q := 0) rfl ?_
        refine i_iload C dX0_visitsOf_39 (q := 5) rfl ?_
        refine i_cI (kc' := 0) (ks' := 0) 0 0 2 (fun q hq hM hS => crV C (as := [aI u5]) dX0_visitsOf_41.1 kX0 (shP_0 hX hb) ml_X0_116 cal_X0_sideOf cv_X0_sideOf (hRm ⟨Nat.le_of_ble_eq_true rfl, Nat.le_of_ble_eq_true rfl⟩) rfl (Nat.le_of_ble_eq_true rfl) (c_X0_sideOf (xl X) (xG X) hX hb hM ⟨hS.2.1, hS.1, trivial⟩ hq)) (Nat.le_of_ble_eq_true rfl) (Nat.le_of_ble_eq_true rfl) rfl rfl rfl (fun v9 M8 => ?_)
        refine i_aload_n C dX0_visitsOf_44 rfl (q := 0) rfl ?_
        refine i_iload_n C dX0_visitsOf_45 rfl (q := 1) rfl ?_
        refine i_cI (kc' := 0) (ks' := 0) 0 0 2 (fun q hq hM hS => crV C (as := [aI y1]) dX0_visitsOf_46.1 kX0 (shP_0 hX hb) ml_X0_116 cal_X0_sideOf cv_X0_sideOf (hRm ⟨Nat.le_of_ble_eq_true rfl, Nat.le_of_ble_eq_true rfl⟩) rfl (Nat.le_of_ble_eq_true rfl) (c_X0_sideOf (xl X) (xG X) hX hb hM ⟨hS.2.1, hS.1, trivial⟩ hq)) (Nat.le_of_ble_eq_true rfl) (Nat.le_of_ble_eq_true rfl) rfl rfl rfl (fun v11 M10 => ?_)
        refine i_icmp_ne (tgt := 55) C dX0_visitsOf_49 (by decide) ?_ ?_
        · refine i_aload_n C dX0_visitsOf_55 rfl (q := 0) rfl ?_
          refine i_getR C (k := 10) kX0 dX0_visitsOf_56 (shP_0 hX hb) rfl (by decide) fl_X0_59 ?_
          refine i_aload_n C dX0_visitsOf_59 rfl (q := 0) rfl ?_
          refine i_getR C (k := 7) kX0 dX0_visitsOf_60 (shP_0 hX hb) rfl (by decide) fl_X0_38 ?_
          refine i_getR C (k := 2) kX6 dX0_visitsOf_63 (shP_6 hX hb) rfl (by decide) fl_X0_242 ?_
          refine i_iload_n C dX0_visitsOf_66 rfl (q := 1) rfl ?_
          refine i_ald C dX0_visitsOf_67 (shP_8 hX hb) (fun v12 => ?_)
          refine i_aload_n C dX0_visitsOf_68 rfl (q := 0) rfl ?_
          refine i_getR C (k := 7) kX0 dX0_visitsOf_69 (shP_0 hX hb) rfl (by decide) fl_X0_38 ?_
          refine i_getR C (k := 3) kX6 dX0_visitsOf_72 (shP_6 hX hb) rfl (by decide) fl_X0_245 ?_
          refine i_iload_n C dX0_visitsOf_75 rfl (q := 1) rfl ?_
          refine i_ald C dX0_visitsOf_76 (shP_9 hX hb) (fun v13 => ?_)
          refine i_aload_n C dX0_visitsOf_77 rfl (q := 0) rfl ?_
          refine i_getR C (k := 8) kX0 dX0_visitsOf_78 (shP_0 hX hb) rfl (by decide) fl_X0_45 ?_
          refine i_getR C (k := 14) kX9 dX0_visitsOf_81 (shP_15 hX hb) rfl (by decide) fl_X0_276 ?_
          refine i_iload C dX0_visitsOf_84 (q := 5) rfl ?_
          refine i_ald C dX0_visitsOf_86 (shP_29 hX hb) (fun v14 => ?_)
          refine i_aload_n C dX0_visitsOf_87 rfl (q := 0) rfl ?_
          refine i_cI (kc' := 0) (ks' := 0) 0 0 1 (fun q hq hM hS => crV C (as := []) dX0_visitsOf_88.1 kX0 (shP_0 hX hb) ml_X0_214 cal_X0_day cv_X0_day (hRm ⟨Nat.le_of_ble_eq_true rfl, Nat.le_of_ble_eq_true rfl⟩) rfl (Nat.le_of_ble_eq_true rfl) (c_X0_day (xl X) (xG X) hX hb hM ⟨hS.1, trivial⟩ hq)) (Nat.le_of_ble_eq_true rfl) (Nat.le_of_ble_eq_true rfl) rfl rfl rfl (fun v16 M15 => ?_)
          refine i_bipush C dX0_visitsOf_91 kB_7 ?_
          refine i_irem C dX0_visitsOf_93 (by decide) ?_
          refine i_cV (kc' := 0) (ks' := 0) 0 0 5 (fun q hq hM hS => crV C (as := [aI v12, aI v13, aI v14, aI (w32 (Int.tmod v16 7))]) dX0_visitsOf_94.1 kX4 (shP_37 hX hb) ml_X0_251 cal_X4_setNames cv_X4_setNames (hRm ⟨Nat.le_of_ble_eq_true rfl, Nat.le_of_ble_eq_true rfl⟩) rfl (Nat.le_of_ble_eq_true rfl) (c_X4_setNames (xl X) (xG X) hX hb hM ⟨hS.2.2.2.2.1, hS.2.2.2.1, hS.2.2.1, hS.2.1, hS.1, trivial⟩ hq)) (Nat.le_of_ble_eq_true rfl) (Nat.le_of_ble_eq_true rfl) rfl rfl rfl (fun M17 => ?_)
          refine i_aload_n C dX0_visitsOf_97 rfl (q := 0) rfl ?_
          refine i_getR C (k := 10) kX0 dX0_visitsOf_98 (shP_0 hX hb) rfl (by decide) fl_X0_59 ?_
          refine i_iload_n C dX0_visitsOf_101 rfl (q := 2) rfl ?_
          refine i_cI (kc' := 0) (ks' := 0) 0 0 2 (fun q hq hM hS => crV C (as := [aI y2]) dX0_visitsOf_102.1 kX4 (shP_37 hX hb) ml_X0_255 cal_X4_valueOf cv_X4_valueOf (hRm ⟨Nat.le_of_ble_eq_true rfl, Nat.le_of_ble_eq_true rfl⟩) rfl (Nat.le_of_ble_eq_true rfl) (c_X4_valueOf (xl X) (xG X) hX hb hM ⟨hS.2.1, hS.1, trivial⟩ hq)) (Nat.le_of_ble_eq_true rfl) (Nat.le_of_ble_eq_true rfl) rfl rfl rfl (fun v19 M18 => ?_)
          refine i_if_eq (tgt := 122) C dX0_visitsOf_105 (by decide) ?_ ?_
          · exact (hj5 u4 M18)
          · refine i_aload_n C dX0_visitsOf_108 rfl (q := 0) rfl ?_
            refine i_getR C (k := 10) kX0 dX0_visitsOf_109 (shP_0 hX hb) rfl (by decide) fl_X0_59 ?_
            refine i_iload_n C dX0_visitsOf_112 rfl (q := 3) rfl ?_
            refine i_cI (kc' := 0) (ks' := 0) 0 0 2 (fun q hq hM hS => crV C (as := [aI y3]) dX0_visitsOf_113.1 kX4 (shP_37 hX hb) ml_X0_255 cal_X4_valueOf cv_X4_valueOf (hRm ⟨Nat.le_of_ble_eq_true rfl, Nat.le_of_ble_eq_true rfl⟩) rfl (Nat.le_of_ble_eq_true rfl) (c_X4_valueOf (xl X) (xG X) hX hb hM ⟨hS.2.1, hS.1, trivial⟩ hq)) (Nat.le_of_ble_eq_true rfl) (Nat.le_of_ble_eq_true rfl) rfl rfl rfl (fun v21 M20 => ?_)
            refine i_if_eq (tgt := 122) C dX0_visitsOf_116 (by decide) ?_ ?_
            · exact (hj5 u4 M20)
            · refine i_iincN (L' := fun v22 => [(0, aR b), (1, aI y1), (2, aI y2), (3, aI y3), (4, aI v22), (5, aI u5)]) C dX0_visitsOf_119 (q := 4) rfl hl4 (fun _ => rfl) (fun v22 => ?_)
              exact (hj5 v22 M20)
        · refine i_goto (tgt := 122) C dX0_visitsOf_52 (by decide) ?_
          exact (hj5 u4 M10)
set_option maxRecDepth 100000 in
set_option maxHeartbeats 4000000 in
theorem c_X0_visitsOf (l : Launch) (G : Gx) {K : Kx} (hK : K = kP) {b : Nat} {x1 : Int} {x2 : Int} {x3 : Int} (hb : isC b) {M : Mem} {res : Int × Mem} (hM : OkM M) (ha : okS [aR b, aI x1, aI x2, aI x3]) (hF : pCity_visitsOf b x1 x2 x3 M = some res) : Ct l G K yX0_visitsOf (wsM yX0_visitsOf cX0_visitsOf 6 (some .int)) rmX0_visitsOf [aR b, aI x1, aI x2, aI x3] M (some (aI res.1)) res.2 := by
  refine ct_of RX0 (by decide +kernel) rfl (hK ▸ kP_ok) hM ha (Nat.le_of_ble_eq_true rfl) hF ?_
  intro X C hl hG hX0 hN hR hq
  have hX : xK X = kP := hX0.trans hK
  show Im X 0 0 0 [(0, aR b), (1, aI x1), (2, aI x2), (3, aI x3)] [] M res (pCity_visitsOf b x1 x2 x3 M)
  unfold pCity_visitsOf
  have hl4 : 4 < xn X := by rw [hN]; decide
  have hl5 : 5 < xn X := by rw [hN]; decide
  have hRm : ∀ {rm : Room} {ny : Nat}, RmOk rmX0_visitsOf rm ny → RmOk (xR X) rm ny := fun h => by rw [hR]; exact h
  refine i_iconst C dX0_visitsOf_0 kI_0 ?_
  refine i_istore C dX0_visitsOf_1 hl4 (L' := [(0, aR b), (1, aI x1), (2, aI x2), (3, aI x3), (4, aI 0)]) rfl ?_
  refine i_aload_n C dX0_visitsOf_3 rfl (q := 0) rfl ?_
  refine i_getR C (k := 8) kX0 dX0_visitsOf_4 (shP_0 hX hb) rfl (by decide) fl_X0_45 ?_
  refine i_iload_n C dX0_visitsOf_7 rfl (q := 1) rfl ?_
  refine i_cV (kc' := 0) (ks' := 0) 0 0 2 (fun q hq hM hS => crV C (as := [aI x1]) dX0_visitsOf_8.1 kX9 (shP_15 hX hb) ml_X0_273 cal_X9_findKin cv_X9_findKin (hRm ⟨Nat.le_of_ble_eq_true rfl, Nat.le_of_ble_eq_true rfl⟩) rfl (Nat.le_of_ble_eq_true rfl) (c_X9_findKin (xl X) (xG X) hX hb hM ⟨hS.2.1, hS.1, trivial⟩ hq)) (Nat.le_of_ble_eq_true rfl) (Nat.le_of_ble_eq_true rfl) rfl rfl rfl (fun M1 => ?_)
  refine i_iconst C dX0_visitsOf_11 kI_0 ?_
  refine i_istore C dX0_visitsOf_12 hl5 (L' := [(0, aR b), (1, aI x1), (2, aI x2), (3, aI x3), (4, aI 0), (5, aI 0)]) rfl ?_
  exact (w_X0_visitsOf_14 C hX hN hR hb hq x1 x2 x3 FU 0 0 M1)
set_option maxRecDepth 100000 in
set_option maxHeartbeats 4000000 in
theorem w_X0_visitsFrom_20 {X : Xc} (C : Cx X RX0 cX0_visitsFrom (some .int)) (hX : xK X = kP) (hN : xn X = 6) (hR : xR X = rmX0_visitsFrom) {b : Nat} (hb : isC b) {res : Int × Mem} (hq : Rq X (some (aI res.1)) res.2) (y1 : Int) (y2 : Int) (y3 : Int) : ∀ (n : Nat) (u4 : Int) (u5 : Int) (M : Mem), Im X 0 0 20 [(0, aR b), (1, aI y1), (2, aI y2), (3, aI y3), (4, aI u4), (5, aI u5)] [] M res (lpX0_visitsFrom_20 b y1 y2 y3 n u4 u5 M) := by
  have hl4 : 4 < xn X := by rw [hN]; decide
  have hl5 : 5 < xn X := by rw [hN]; decide
  have hRm : ∀ {rm : Room} {ny : Nat}, RmOk rmX0_visitsFrom rm ny → RmOk (xR X) rm ny := fun h => by rw [hR]; exact h
  intro n
  induction n with
  | zero => intro _ _ _; exact i_none
  | succ n ih =>
    intro u4 u5 M
    unfold lpX0_visitsFrom_20
    refine i_iload C dX0_visitsFrom_20 (q := 5) rfl ?_
    refine i_aload_n C dX0_visitsFrom_22 rfl (q := 0) rfl ?_
    refine i_getR C (k := 7) kX0 dX0_visitsFrom_23 (shP_0 hX hb) rfl (by decide) fl_X0_38 ?_
    refine i_getI C (k := 0) kX6 dX0_visitsFrom_26 (shP_6 hX hb) rfl (by decide) fl_X0_120 rfl ?_
    refine i_icmp_ge (tgt := 73) C dX0_visitsFrom_29 (by decide) ?_ ?_
    · refine i_iload C dX0_visitsFrom_73 (q := 4) rfl ?_
      exact i_iret C hq dX0_visitsFrom_75
    · refine i_aload_n C dX0_visitsFrom_32 rfl (q := 0) rfl ?_
      refine i_getR C (k := 7) kX0 dX0_visitsFrom_33 (shP_0 hX hb) rfl (by decide) fl_X0_38 ?_
      refine i_iload C dX0_visitsFrom_36 (q := 5) rfl ?_
      refine i_cI (kc' := 0) (ks' := 0) 0 0 2 (fun q hq hM hS => crV C (as := [aI u5]) dX0_visitsFrom_38.1 kX6 (shP_6 hX hb) ml_X0_208 cal_X6_isDead cv_X6_isDead (hRm ⟨Nat.le_of_ble_eq_true rfl, Nat.le_of_ble_eq_true rfl⟩) rfl (Nat.le_of_ble_eq_true rfl) (c_X6_isDead (xl X) (xG X) hX hb hM ⟨hS.2.1, hS.1, trivial⟩ hq)) (Nat.le_of_ble_eq_true rfl) (Nat.le_of_ble_eq_true rfl) rfl rfl rfl (fun v2 M1 => ?_)
      refine i_jn (fun j => ∀ (p3 : Int) (M5 : Mem), Im X 0 0 67 [(0, aR b), (1, aI y1), (2, aI y2), (3, aI y3), (4, aI p3), (5, aI u5)] [] M5 res (j p3 M5)) ?_ (fun j4 hj4 => ?_)
      · intro p3 M5
        refine i_iincN (L' := fun v6 => [(0, aR b), (1, aI y1), (2, aI y2), (3, aI y3), (4, aI p3), (5, aI v6)]) C dX0_visitsFrom_67 (q := 5) rfl hl5 (fun _ => rfl) (fun v6 => ?_)
        refine i_goto (tgt := 20) C dX0_visitsFrom_70 (by decide) ?_
        exact (ih p3 v6 M5)
      refine i_if_ne (tgt := 67) C dX0_visitsFrom_41 (by decide) ?_ ?_
      · exact (hj4 u4 M1)
      · refine i_aload_n C dX0_visitsFrom_44 rfl (q := 0) rfl ?_
        refine i_iload C dX0_visitsFrom_45 (q := 5) rfl ?_
        refine i_cI (kc' := 0) (ks' := 0) 0 0 2 (fun q hq hM hS => crV C (as := [aI u5]) dX0_visitsFrom_47.1 kX0 (shP_0 hX hb) ml_X0_116 cal_X0_sideOf cv_X0_sideOf (hRm ⟨Nat.le_of_ble_eq_true rfl, Nat.le_of_ble_eq_true rfl⟩) rfl (Nat.le_of_ble_eq_true rfl) (c_X0_sideOf (xl X) (xG X) hX hb hM ⟨hS.2.1, hS.1, trivial⟩ hq)) (Nat.le_of_ble_eq_true rfl) (Nat.le_of_ble_eq_true rfl) rfl rfl rfl (fun v8 M7 => ?_)
        refine i_iload_n C dX0_visitsFrom_50 rfl (q := 1) rfl ?_
        refine i_icmp_ne (tgt := 67) C dX0_visitsFrom_51 (by decide) ?_ ?_
        · exact (hj4 u4 M7)
        · refine i_iload C dX0_visitsFrom_54 (q := 4) rfl ?_
          refine i_aload_n C dX0_visitsFrom_56 rfl (q := 0) rfl ?_
          refine i_iload C dX0_visitsFrom_57 (q := 5) rfl ?_
          refine i_iload_n C dX0_visitsFrom_59 rfl (q := 2) rfl ?_
          refine i_iload_n C dX0_visitsFrom_60 rfl (q := 3) rfl ?_
          refine i_cI (kc' := 0) (ks' := 0) 0 0 4 (fun q hq hM hS => crV C (as := [aI u5, aI y2, aI y3]) dX0_visitsFrom_61.1 kX0 (shP_0 hX hb) ml_X0_270 cal_X0_visitsOf cv_X0_visitsOf (hRm ⟨Nat.le_of_ble_eq_true rfl, Nat.le_of_ble_eq_true rfl⟩) rfl (Nat.le_of_ble_eq_true rfl) (c_X0_visitsOf (xl X) (xG X) hX hb hM ⟨hS.2.2.2.1, hS.2.2.1, hS.2.1, hS.1, trivial⟩ hq)) (Nat.le_of_ble_eq_true rfl) (Nat.le_of_ble_eq_true rfl) rfl rfl rfl (fun v10 M9 => ?_)
          refine i_iadd C dX0_visitsFrom_64 ?_
          refine i_nm (fun v11 => ?_)
          refine i_istore C dX0_visitsFrom_65 hl4 (L' := [(0, aR b), (1, aI y1), (2, aI y2), (3, aI y3), (4, aI v11), (5, aI u5)]) rfl ?_
          exact (hj4 v11 M9)
set_option maxRecDepth 100000 in
set_option maxHeartbeats 4000000 in
theorem c_X0_visitsFrom (l : Launch) (G : Gx) {K : Kx} (hK : K = kP) {b : Nat} {x1 : Int} {x2 : Int} {x3 : Int} (hb : isC b) {M : Mem} {res : Int × Mem} (hM : OkM M) (ha : okS [aR b, aI x1, aI x2, aI x3]) (hF : pCity_visitsFrom b x1 x2 x3 M = some res) : Ct l G K yX0_visitsFrom (wsM yX0_visitsFrom cX0_visitsFrom 6 (some .int)) rmX0_visitsFrom [aR b, aI x1, aI x2, aI x3] M (some (aI res.1)) res.2 := by
  refine ct_of RX0 (by decide +kernel) rfl (hK ▸ kP_ok) hM ha (Nat.le_of_ble_eq_true rfl) hF ?_
  intro X C hl hG hX0 hN hR hq
  have hX : xK X = kP := hX0.trans hK
  show Im X 0 0 0 [(0, aR b), (1, aI x1), (2, aI x2), (3, aI x3)] [] M res (pCity_visitsFrom b x1 x2 x3 M)
  unfold pCity_visitsFrom
  have hl4 : 4 < xn X := by rw [hN]; decide
  have hl5 : 5 < xn X := by rw [hN]; decide
  have hRm : ∀ {rm : Room} {ny : Nat}, RmOk rmX0_visitsFrom rm ny → RmOk (xR X) rm ny := fun h => by rw [hR]; exact h
  refine i_iload_n C dX0_visitsFrom_0 rfl (q := 2) rfl ?_
  refine i_ldc C dX0_visitsFrom_1 kc_X0_28 kI_m1000000005 ?_
  refine i_icmp_eq (tgt := 12) C dX0_visitsFrom_3 (by decide) ?_ ?_
  · refine i_iconst C dX0_visitsFrom_12 kI_0 ?_
    exact i_iret C hq dX0_visitsFrom_13
  · refine i_iload_n C dX0_visitsFrom_6 rfl (q := 3) rfl ?_
    refine i_ldc C dX0_visitsFrom_7 kc_X0_28 kI_m1000000005 ?_
    refine i_icmp_ne (tgt := 14) C dX0_visitsFrom_9 (by decide) ?_ ?_
    · refine i_iconst C dX0_visitsFrom_14 kI_0 ?_
      refine i_istore C dX0_visitsFrom_15 hl4 (L' := [(0, aR b), (1, aI x1), (2, aI x2), (3, aI x3), (4, aI 0)]) rfl ?_
      refine i_iconst C dX0_visitsFrom_17 kI_0 ?_
      refine i_istore C dX0_visitsFrom_18 hl5 (L' := [(0, aR b), (1, aI x1), (2, aI x2), (3, aI x3), (4, aI 0), (5, aI 0)]) rfl ?_
      exact (w_X0_visitsFrom_20 C hX hN hR hb hq x1 x2 x3 FU 0 0 M)
    · refine i_iconst C dX0_visitsFrom_12 kI_0 ?_
      exact i_iret C hq dX0_visitsFrom_13
set_option maxRecDepth 100000 in
set_option maxHeartbeats 4000000 in
theorem c_X0_allVisits (l : Launch) (G : Gx) {K : Kx} (hK : K = kP) {b : Nat} {x1 : Int} {x2 : Int} (hb : isC b) {M : Mem} {res : Int × Mem} (hM : OkM M) (ha : okS [aR b, aI x1, aI x2]) (hF : pCity_allVisits b x1 x2 M = some res) : Ct l G K yX0_allVisits (wsM yX0_allVisits cX0_allVisits 3 (some .int)) rmX0_allVisits [aR b, aI x1, aI x2] M (some (aI res.1)) res.2 := by
  refine ct_of RX0 (by decide +kernel) rfl (hK ▸ kP_ok) hM ha (Nat.le_of_ble_eq_true rfl) hF ?_
  intro X C hl hG hX0 hN hR hq
  have hX : xK X = kP := hX0.trans hK
  show Im X 0 0 0 [(0, aR b), (1, aI x1), (2, aI x2)] [] M res (pCity_allVisits b x1 x2 M)
  unfold pCity_allVisits
  have hRm : ∀ {rm : Room} {ny : Nat}, RmOk rmX0_allVisits rm ny → RmOk (xR X) rm ny := fun h => by rw [hR]; exact h
  refine i_aload_n C dX0_allVisits_0 rfl (q := 0) rfl ?_
  refine i_iconst C dX0_allVisits_1 kI_0 ?_
  refine i_iload_n C dX0_allVisits_2 rfl (q := 1) rfl ?_
  refine i_iload_n C dX0_allVisits_3 rfl (q := 2) rfl ?_
  refine i_cI (kc' := 0) (ks' := 0) 0 0 4 (fun q hq hM hS => crV C (as := [aI 0, aI x1, aI x2]) dX0_allVisits_4.1 kX0 (shP_0 hX hb) ml_X0_267 cal_X0_visitsFrom cv_X0_visitsFrom (hRm ⟨Nat.le_of_ble_eq_true rfl, Nat.le_of_ble_eq_true rfl⟩) rfl (Nat.le_of_ble_eq_true rfl) (c_X0_visitsFrom (xl X) (xG X) hX hb hM ⟨hS.2.2.2.1, hS.2.2.1, hS.2.1, hS.1, trivial⟩ hq)) (Nat.le_of_ble_eq_true rfl) (Nat.le_of_ble_eq_true rfl) rfl rfl rfl (fun v2 M1 => ?_)
  refine i_aload_n C dX0_allVisits_7 rfl (q := 0) rfl ?_
  refine i_iconst C dX0_allVisits_8 kI_1 ?_
  refine i_iload_n C dX0_allVisits_9 rfl (q := 1) rfl ?_
  refine i_iload_n C dX0_allVisits_10 rfl (q := 2) rfl ?_
  refine i_cI (kc' := 0) (ks' := 0) 0 0 4 (fun q hq hM hS => crV C (as := [aI 1, aI x1, aI x2]) dX0_allVisits_11.1 kX0 (shP_0 hX hb) ml_X0_267 cal_X0_visitsFrom cv_X0_visitsFrom (hRm ⟨Nat.le_of_ble_eq_true rfl, Nat.le_of_ble_eq_true rfl⟩) rfl (Nat.le_of_ble_eq_true rfl) (c_X0_visitsFrom (xl X) (xG X) hX hb hM ⟨hS.2.2.2.1, hS.2.2.1, hS.2.1, hS.1, trivial⟩ hq)) (Nat.le_of_ble_eq_true rfl) (Nat.le_of_ble_eq_true rfl) rfl rfl rfl (fun v4 M3 => ?_)
  refine i_iadd C dX0_allVisits_14 ?_
  exact i_iret C hq dX0_allVisits_15
set_option maxRecDepth 100000 in
set_option maxHeartbeats 4000000 in
theorem c_X0_haltsAt (l : Launch) (G : Gx) {K : Kx} (hK : K = kP) {b : Nat} {x1 : Int} {x2 : Int} {x3 : Int} (hb : isC b) {M : Mem} {res : Int × Mem} (hM : OkM M) (ha : okS [aR b, aI x1, aI x2, aI x3]) (hF : pCity_haltsAt b x1 x2 x3 M = some res) : Ct l G K yX0_haltsAt (wsM yX0_haltsAt cX0_haltsAt 6 (some .boolean)) rmX0_haltsAt [aR b, aI x1, aI x2, aI x3] M (some (aI res.1)) res.2 := by
  refine ct_of RX0 (by decide +kernel) rfl (hK ▸ kP_ok) hM ha (Nat.le_of_ble_eq_true rfl) hF ?_
  intro X C hl hG hX0 hN hR hq
  have hX : xK X = kP := hX0.trans hK
  show Im X 0 0 0 [(0, aR b), (1, aI x1), (2, aI x2), (3, aI x3)] [] M res (pCity_haltsAt b x1 x2 x3 M)
  unfold pCity_haltsAt
  have hl4 : 4 < xn X := by rw [hN]; decide
  have hl5 : 5 < xn X := by rw [hN]; decide
  have hRm : ∀ {rm : Room} {ny : Nat}, RmOk rmX0_haltsAt rm ny → RmOk (xR X) rm ny := fun h => by rw [hR]; exact h
  refine i_aload_n C dX0_haltsAt_0 rfl (q := 0) rfl ?_
  refine i_getR C (k := 2) kX0 dX0_haltsAt_1 (shP_0 hX hb) rfl (by decide) fl_X0_18 ?_
  refine i_aload_n C dX0_haltsAt_4 rfl (q := 0) rfl ?_
  refine i_getR C (k := 8) kX0 dX0_haltsAt_5 (shP_0 hX hb) rfl (by decide) fl_X0_45 ?_
  refine i_getR C (k := 12) kX9 dX0_haltsAt_8 (shP_15 hX hb) rfl (by decide) fl_X0_285 ?_
  refine i_iload_n C dX0_haltsAt_11 rfl (q := 1) rfl ?_
  refine i_bipush C dX0_haltsAt_12 kB_8 ?_
  refine i_imul C dX0_haltsAt_14 ?_
  refine i_iload_n C dX0_haltsAt_15 rfl (q := 2) rfl ?_
  refine i_iadd C dX0_haltsAt_16 ?_
  refine i_ald C dX0_haltsAt_17 (shP_27 hX hb) (fun v1 => ?_)
  refine i_ald C dX0_haltsAt_18 (shP_1 hX hb) (fun v2 => ?_)
  refine i_istore C dX0_haltsAt_19 hl4 (L' := [(0, aR b), (1, aI x1), (2, aI x2), (3, aI x3), (4, aI v2)]) rfl ?_
  refine i_aload_n C dX0_haltsAt_21 rfl (q := 0) rfl ?_
  refine i_iload C dX0_haltsAt_22 (q := 4) rfl ?_
  refine i_iconst C dX0_haltsAt_24 kI_2 ?_
  refine i_cI (kc' := 0) (ks' := 0) 0 0 3 (fun q hq hM hS => crV C (as := [aI v2, aI 2]) dX0_haltsAt_25.1 kX0 (shP_0 hX hb) ml_X0_239 cal_X0_lawOf cv_X0_lawOf (hRm ⟨Nat.le_of_ble_eq_true rfl, Nat.le_of_ble_eq_true rfl⟩) rfl (Nat.le_of_ble_eq_true rfl) (c_X0_lawOf (xl X) (xG X) hX hb hM ⟨hS.2.2.1, hS.2.1, hS.1, trivial⟩ hq)) (Nat.le_of_ble_eq_true rfl) (Nat.le_of_ble_eq_true rfl) rfl rfl rfl (fun v4 M3 => ?_)
  refine i_istore C dX0_haltsAt_28 hl5 (L' := [(0, aR b), (1, aI x1), (2, aI x2), (3, aI x3), (4, aI v2), (5, aI v4)]) rfl ?_
  refine i_iload C dX0_haltsAt_30 (q := 5) rfl ?_
  refine i_ldc C dX0_haltsAt_32 kc_X0_28 kI_m1000000005 ?_
  refine i_icmp_ne (tgt := 39) C dX0_haltsAt_34 (by decide) ?_ ?_
  · refine i_aload_n C dX0_haltsAt_39 rfl (q := 0) rfl ?_
    refine i_getR C (k := 10) kX0 dX0_haltsAt_40 (shP_0 hX hb) rfl (by decide) fl_X0_59 ?_
    refine i_iload_n C dX0_haltsAt_43 rfl (q := 2) rfl ?_
    refine i_iload C dX0_haltsAt_44 (q := 4) rfl ?_
    refine i_aload_n C dX0_haltsAt_46 rfl (q := 0) rfl ?_
    refine i_getI C (k := 0) kX0 dX0_haltsAt_47 (shP_0 hX hb) rfl (by decide) fl_X0_9 rfl ?_
    refine i_iload_n C dX0_haltsAt_50 rfl (q := 3) rfl ?_
    refine i_bipush C dX0_haltsAt_51 kB_60 ?_
    refine i_idiv C dX0_haltsAt_53 (by decide) ?_
    refine i_iadd C dX0_haltsAt_54 ?_
    refine i_bipush C dX0_haltsAt_55 kB_24 ?_
    refine i_irem C dX0_haltsAt_57 (by decide) ?_
    refine i_iconst C dX0_haltsAt_58 kI_0 ?_
    refine i_cV (kc' := 0) (ks' := 0) 0 0 5 (fun q hq hM hS => crV C (as := [aI x2, aI v2, aI (w32 (Int.tmod (w32 ((M3 b 0) + (w32 (Int.tdiv x3 60)))) 24)), aI 0]) dX0_haltsAt_59.1 kX4 (shP_37 hX hb) ml_X0_251 cal_X4_setNames cv_X4_setNames (hRm ⟨Nat.le_of_ble_eq_true rfl, Nat.le_of_ble_eq_true rfl⟩) rfl (Nat.le_of_ble_eq_true rfl) (c_X4_setNames (xl X) (xG X) hX hb hM ⟨hS.2.2.2.2.1, hS.2.2.2.1, hS.2.2.1, hS.2.1, hS.1, trivial⟩ hq)) (Nat.le_of_ble_eq_true rfl) (Nat.le_of_ble_eq_true rfl) rfl rfl rfl (fun M5 => ?_)
    refine i_aload_n C dX0_haltsAt_62 rfl (q := 0) rfl ?_
    refine i_getR C (k := 10) kX0 dX0_haltsAt_63 (shP_0 hX hb) rfl (by decide) fl_X0_59 ?_
    refine i_iload C dX0_haltsAt_66 (q := 5) rfl ?_
    refine i_cI (kc' := 0) (ks' := 0) 0 0 2 (fun q hq hM hS => crV C (as := [aI v4]) dX0_haltsAt_68.1 kX4 (shP_37 hX hb) ml_X0_255 cal_X4_valueOf cv_X4_valueOf (hRm ⟨Nat.le_of_ble_eq_true rfl, Nat.le_of_ble_eq_true rfl⟩) rfl (Nat.le_of_ble_eq_true rfl) (c_X4_valueOf (xl X) (xG X) hX hb hM ⟨hS.2.1, hS.1, trivial⟩ hq)) (Nat.le_of_ble_eq_true rfl) (Nat.le_of_ble_eq_true rfl) rfl rfl rfl (fun v7 M6 => ?_)
    refine i_if_eq (tgt := 78) C dX0_haltsAt_71 (by decide) ?_ ?_
    · refine i_iconst C dX0_haltsAt_78 kI_0 ?_
      exact i_zret C hq dX0_haltsAt_79 (Or.inl rfl)
    · refine i_iconst C dX0_haltsAt_74 kI_1 ?_
      refine i_goto (tgt := 79) C dX0_haltsAt_75 (by decide) ?_
      exact i_zret C hq dX0_haltsAt_79 (Or.inr rfl)
  · refine i_iconst C dX0_haltsAt_37 kI_1 ?_
    exact i_zret C hq dX0_haltsAt_38 (Or.inr rfl)
set_option maxRecDepth 100000 in
set_option maxHeartbeats 4000000 in
theorem w_X0_ride_6 {X : Xc} (C : Cx X RX0 cX0_ride (some .int)) (hX : xK X = kP) (hN : xn X = 8) (hR : xR X = rmX0_ride) {b : Nat} (hb : isC b) {res : Int × Mem} (hq : Rq X (some (aI res.1)) res.2) (y1 : Int) (y2 : Int) (y3 : Int) (y4 : Int) {k66 : Int → Mem → Option (Int × Mem)} (hk66 : ∀ (q5 : Int) (M : Mem), Im X 0 0 66 [(0, aR b), (1, aI y1), (2, aI y2), (3, aI y3), (4, aI y4), (5, aI q5)] [] M res (k66 q5 M)) : ∀ (n : Nat) (u5 : Int) (u6 : Int) (M : Mem), Im X 0 0 6 [(0, aR b), (1, aI y1), (2, aI y2), (3, aI y3), (4, aI y4), (5, aI u5), (6, aI u6)] [] M res (lpX0_ride_6 b y1 y2 y3 y4 k66 n u5 u6 M) := by
  have hl5 : 5 < xn X := by rw [hN]; decide
  have hl6 : 6 < xn X := by rw [hN]; decide
  have hl7 : 7 < xn X := by rw [hN]; decide
  have hRm : ∀ {rm : Room} {ny : Nat}, RmOk rmX0_ride rm ny → RmOk (xR X) rm ny := fun h => by rw [hR]; exact h
  intro n
  induction n with
  | zero => intro _ _ _; exact i_none
  | succ n ih =>
    intro u5 u6 M
    unfold lpX0_ride_6
    refine i_iload C dX0_ride_6 (q := 6) rfl ?_
    refine i_iload_n C dX0_ride_8 rfl (q := 3) rfl ?_
    refine i_icmp_ge (tgt := 66) C dX0_ride_9 (by decide) ?_ ?_
    · exact i_sub [0, 1, 2, 3, 4, 5] rfl (hk66 u5 M)
    · refine i_aload_n C dX0_ride_12 rfl (q := 0) rfl ?_
      refine i_iload_n C dX0_ride_13 rfl (q := 1) rfl ?_
      refine i_iload C dX0_ride_14 (q := 6) rfl ?_
      refine i_iload_n C dX0_ride_16 rfl (q := 2) rfl ?_
      refine i_iload C dX0_ride_17 (q := 5) rfl ?_
      refine i_iadd C dX0_ride_19 ?_
      refine i_cI (kc' := 0) (ks' := 0) 0 0 4 (fun q hq hM hS => crV C (as := [aI y1, aI u6, aI (w32 (y2 + u5))]) dX0_ride_20.1 kX0 (shP_0 hX hb) ml_X0_279 cal_X0_haltsAt cv_X0_haltsAt (hRm ⟨Nat.le_of_ble_eq_true rfl, Nat.le_of_ble_eq_true rfl⟩) rfl (Nat.le_of_ble_eq_true rfl) (c_X0_haltsAt (xl X) (xG X) hX hb hM ⟨hS.2.2.2.1, hS.2.2.1, hS.2.1, hS.1, trivial⟩ hq)) (Nat.le_of_ble_eq_true rfl) (Nat.le_of_ble_eq_true rfl) rfl rfl rfl (fun v2 M1 => ?_)
      refine i_istore C dX0_ride_23 hl7 (L' := [(0, aR b), (1, aI y1), (2, aI y2), (3, aI y3), (4, aI y4), (5, aI u5), (6, aI u6), (7, aI v2)]) rfl ?_
      refine i_iload C dX0_ride_25 (q := 6) rfl ?_
      refine i_jn (fun j => ∀ (p3 : Int) (M5 : Mem), Im X 0 0 38 [(0, aR b), (1, aI y1), (2, aI y2), (3, aI y3), (4, aI y4), (5, aI p3), (6, aI u6)] [] M5 res (j p3 M5)) ?_ (fun j4 hj4 => ?_)
      · intro p3 M5
        refine i_iload C dX0_ride_38 (q := 5) rfl ?_
        refine i_aload_n C dX0_ride_40 rfl (q := 0) rfl ?_
        refine i_getR C (k := 8) kX0 dX0_ride_41 (shP_0 hX hb) rfl (by decide) fl_X0_45 ?_
        refine i_getR C (k := 13) kX9 dX0_ride_44 (shP_15 hX hb) rfl (by decide) fl_X0_282 ?_
        refine i_iload_n C dX0_ride_47 rfl (q := 1) rfl ?_
        refine i_bipush C dX0_ride_48 kB_8 ?_
        refine i_imul C dX0_ride_50 ?_
        refine i_iload C dX0_ride_51 (q := 6) rfl ?_
        refine i_iadd C dX0_ride_53 ?_
        refine i_iconst C dX0_ride_54 kI_1 ?_
        refine i_iadd C dX0_ride_55 ?_
        refine i_ald C dX0_ride_56 (shP_28 hX hb) (fun v6 => ?_)
        refine i_iadd C dX0_ride_57 ?_
        refine i_nm (fun v7 => ?_)
        refine i_istore C dX0_ride_58 hl5 (L' := [(0, aR b), (1, aI y1), (2, aI y2), (3, aI y3), (4, aI y4), (5, aI v7), (6, aI u6)]) rfl ?_
        refine i_iincN (L' := fun v8 => [(0, aR b), (1, aI y1), (2, aI y2), (3, aI y3), (4, aI y4), (5, aI v7), (6, aI v8)]) C dX0_ride_60 (q := 6) rfl hl6 (fun _ => rfl) (fun v8 => ?_)
        refine i_goto (tgt := 6) C dX0_ride_63 (by decide) ?_
        exact (ih v7 v8 M5)
      refine i_if_le (tgt := 38) C dX0_ride_27 (by decide) ?_ ?_
      · exact i_sub [0, 1, 2, 3, 4, 5, 6] rfl (hj4 u5 M1)
      · refine i_iload C dX0_ride_30 (q := 7) rfl ?_
        refine i_if_eq (tgt := 38) C dX0_ride_32 (by decide) ?_ ?_
        · exact i_sub [0, 1, 2, 3, 4, 5, 6] rfl (hj4 u5 M1)
        · refine i_iincN (L' := fun v9 => [(0, aR b), (1, aI y1), (2, aI y2), (3, aI y3), (4, aI y4), (5, aI v9), (6, aI u6), (7, aI v2)]) C dX0_ride_35 (q := 5) rfl hl5 (fun _ => rfl) (fun v9 => ?_)
          exact i_sub [0, 1, 2, 3, 4, 5, 6] rfl (hj4 v9 M1)
set_option maxRecDepth 100000 in
set_option maxHeartbeats 4000000 in
theorem c_X0_ride (l : Launch) (G : Gx) {K : Kx} (hK : K = kP) {b : Nat} {x1 : Int} {x2 : Int} {x3 : Int} {x4 : Int} (hb : isC b) {M : Mem} {res : Int × Mem} (hM : OkM M) (ha : okS [aR b, aI x1, aI x2, aI x3, aI x4]) (hF : pCity_ride b x1 x2 x3 x4 M = some res) : Ct l G K yX0_ride (wsM yX0_ride cX0_ride 8 (some .int)) rmX0_ride [aR b, aI x1, aI x2, aI x3, aI x4] M (some (aI res.1)) res.2 := by
  refine ct_of RX0 (by decide +kernel) rfl (hK ▸ kP_ok) hM ha (Nat.le_of_ble_eq_true rfl) hF ?_
  intro X C hl hG hX0 hN hR hq
  have hX : xK X = kP := hX0.trans hK
  show Im X 0 0 0 [(0, aR b), (1, aI x1), (2, aI x2), (3, aI x3), (4, aI x4)] [] M res (pCity_ride b x1 x2 x3 x4 M)
  unfold pCity_ride
  have hl5 : 5 < xn X := by rw [hN]; decide
  have hl6 : 6 < xn X := by rw [hN]; decide
  have hl7 : 7 < xn X := by rw [hN]; decide
  have hRm : ∀ {rm : Room} {ny : Nat}, RmOk rmX0_ride rm ny → RmOk (xR X) rm ny := fun h => by rw [hR]; exact h
  refine i_iconst C dX0_ride_0 kI_0 ?_
  refine i_istore C dX0_ride_1 hl5 (L' := [(0, aR b), (1, aI x1), (2, aI x2), (3, aI x3), (4, aI x4), (5, aI 0)]) rfl ?_
  refine i_iconst C dX0_ride_3 kI_0 ?_
  refine i_istore C dX0_ride_4 hl6 (L' := [(0, aR b), (1, aI x1), (2, aI x2), (3, aI x3), (4, aI x4), (5, aI 0), (6, aI 0)]) rfl ?_
  refine (w_X0_ride_6 C hX hN hR hb hq x1 x2 x3 x4 (fun v10 M11 => ?_) FU 0 0 M)
  refine i_iload C dX0_ride_66 (q := 4) rfl ?_
  refine i_if_ne (tgt := 74) C dX0_ride_68 (by decide) ?_ ?_
  · refine i_aload_n C dX0_ride_74 rfl (q := 0) rfl ?_
    refine i_iload_n C dX0_ride_75 rfl (q := 1) rfl ?_
    refine i_iload_n C dX0_ride_76 rfl (q := 3) rfl ?_
    refine i_iload_n C dX0_ride_77 rfl (q := 2) rfl ?_
    refine i_iload C dX0_ride_78 (q := 5) rfl ?_
    refine i_iadd C dX0_ride_80 ?_
    refine i_cI (kc' := 0) (ks' := 0) 0 0 4 (fun q hq hM hS => crV C (as := [aI x1, aI x3, aI (w32 (x2 + v10))]) dX0_ride_81.1 kX0 (shP_0 hX hb) ml_X0_279 cal_X0_haltsAt cv_X0_haltsAt (hRm ⟨Nat.le_of_ble_eq_true rfl, Nat.le_of_ble_eq_true rfl⟩) rfl (Nat.le_of_ble_eq_true rfl) (c_X0_haltsAt (xl X) (xG X) hX hb hM ⟨hS.2.2.2.1, hS.2.2.1, hS.2.1, hS.1, trivial⟩ hq)) (Nat.le_of_ble_eq_true rfl) (Nat.le_of_ble_eq_true rfl) rfl rfl rfl (fun v13 M12 => ?_)
    refine i_if_eq (tgt := 91) C dX0_ride_84 (by decide) ?_ ?_
    · refine i_iconst C dX0_ride_91 kI_0 ?_
      exact i_iret C hq dX0_ride_92
    · refine i_iconst C dX0_ride_87 kI_1 ?_
      refine i_goto (tgt := 92) C dX0_ride_88 (by decide) ?_
      exact i_iret C hq dX0_ride_92
  · refine i_iload C dX0_ride_71 (q := 5) rfl ?_
    exact i_iret C hq dX0_ride_73
set_option maxRecDepth 100000 in
set_option maxHeartbeats 4000000 in
theorem c_X1_addClause (l : Launch) (G : Gx) {K : Kx} (hK : K = kP) {b : Nat} {x1 : Int} {x2 : Int} {x3 : Int} (hb : isC b) {M : Mem} {res : Int × Mem} (hM : OkM M) (ha : okS [aR (b + 57), aI x1, aI x2, aI x3]) (hF : pClauses_addClause b x1 x2 x3 M = some res) : Ct l G K yX1_addClause (wsM yX1_addClause cX1_addClause 4 (some .int)) rmX1_addClause [aR (b + 57), aI x1, aI x2, aI x3] M (some (aI res.1)) res.2 := by
  refine ct_of RX1 (by decide +kernel) rfl (hK ▸ kP_ok) hM ha (Nat.le_of_ble_eq_true rfl) hF ?_
  intro X C hl hG hX0 hN hR hq
  have hX : xK X = kP := hX0.trans hK
  show Im X 0 0 0 [(0, aR (b + 57)), (1, aI x1), (2, aI x2), (3, aI x3)] [] M res (pClauses_addClause b x1 x2 x3 M)
  unfold pClauses_addClause
  refine i_aload_n C dX1_addClause_0 rfl (q := 0) rfl ?_
  refine i_getR C (k := 1) kX1 dX1_addClause_1 (shP_57 hX hb) rfl (by decide) fl_X1_15 ?_
  refine i_aload_n C dX1_addClause_4 rfl (q := 0) rfl ?_
  refine i_getI C (k := 0) kX1 dX1_addClause_5 (shP_57 hX hb) rfl (by decide) fl_X1_9 rfl ?_
  refine i_iload_n C dX1_addClause_8 rfl (q := 1) rfl ?_
  refine i_ast C dX1_addClause_9 (shP_58 hX hb) (fun M1 => ?_)
  refine i_aload_n C dX1_addClause_10 rfl (q := 0) rfl ?_
  refine i_getR C (k := 2) kX1 dX1_addClause_11 (shP_57 hX hb) rfl (by decide) fl_X1_19 ?_
  refine i_aload_n C dX1_addClause_14 rfl (q := 0) rfl ?_
  refine i_getI C (k := 0) kX1 dX1_addClause_15 (shP_57 hX hb) rfl (by decide) fl_X1_9 rfl ?_
  refine i_iload_n C dX1_addClause_18 rfl (q := 2) rfl ?_
  refine i_ast C dX1_addClause_19 (shP_59 hX hb) (fun M2 => ?_)
  refine i_aload_n C dX1_addClause_20 rfl (q := 0) rfl ?_
  refine i_getR C (k := 3) kX1 dX1_addClause_21 (shP_57 hX hb) rfl (by decide) fl_X1_22 ?_
  refine i_aload_n C dX1_addClause_24 rfl (q := 0) rfl ?_
  refine i_getI C (k := 0) kX1 dX1_addClause_25 (shP_57 hX hb) rfl (by decide) fl_X1_9 rfl ?_
  refine i_iload_n C dX1_addClause_28 rfl (q := 3) rfl ?_
  refine i_ast C dX1_addClause_29 (shP_60 hX hb) (fun M3 => ?_)
  refine i_aload_n C dX1_addClause_30 rfl (q := 0) rfl ?_
  refine i_dup C dX1_addClause_31 rfl ?_
  refine i_getI C (k := 0) kX1 dX1_addClause_32 (shP_57 hX hb) rfl (by decide) fl_X1_9 rfl ?_
  refine i_dup_x1 C dX1_addClause_35 rfl rfl ?_
  refine i_iconst C dX1_addClause_36 kI_1 ?_
  refine i_iadd C dX1_addClause_37 ?_
  refine i_putI C (k := 0) kX1 dX1_addClause_38 (shP_57 hX hb) rfl (by decide) fl_X1_9 rfl rfl rfl rfl (fun M4 => ?_)
  exact i_iret C hq dX1_addClause_41
set_option maxRecDepth 100000 in
set_option maxHeartbeats 4000000 in
theorem c_X1_settle (l : Launch) (G : Gx) {K : Kx} (hK : K = kP) {b : Nat} {x1 : Int} (hb : isC b) {M : Mem} {res : Mem} (hM : OkM M) (ha : okS [aR (b + 57), aI x1]) (hF : pClauses_settle b x1 M = some res) : Ct l G K yX1_settle (wsM yX1_settle cX1_settle 2 none) rmX1_settle [aR (b + 57), aI x1] M none res := by
  refine ct_of RX1 (by decide +kernel) rfl (hK ▸ kP_ok) hM ha (Nat.le_of_ble_eq_true rfl) hF ?_
  intro X C hl hG hX0 hN hR hq
  have hX : xK X = kP := hX0.trans hK
  show Im X 0 0 0 [(0, aR (b + 57)), (1, aI x1)] [] M res (pClauses_settle b x1 M)
  unfold pClauses_settle
  have hRm : ∀ {rm : Room} {ny : Nat}, RmOk rmX1_settle rm ny → RmOk (xR X) rm ny := fun h => by rw [hR]; exact h
  refine i_aload_n C dX1_settle_0 rfl (q := 0) rfl ?_
  refine i_getI C (k := 5) kX1 dX1_settle_1 (shP_57 hX hb) rfl (by decide) fl_X1_28 rfl ?_
  refine i_jn (fun j => ∀  (M2 : Mem), Im X 0 0 16 [(0, aR (b + 57)), (1, aI x1)] [] M2 res (j  M2)) ?_ (fun j1 hj1 => ?_)
  · intro  M2
    refine i_aload_n C dX1_settle_16 rfl (q := 0) rfl ?_
    refine i_iload_n C dX1_settle_17 rfl (q := 1) rfl ?_
    refine i_putI C (k := 5) kX1 dX1_settle_18 (shP_57 hX hb) rfl (by decide) fl_X1_28 rfl rfl rfl rfl (fun M3 => ?_)
    refine i_aload_n C dX1_settle_21 rfl (q := 0) rfl ?_
    refine i_getR C (k := 6) kX1 dX1_settle_22 (shP_57 hX hb) rfl (by decide) fl_X1_31 ?_
    refine i_aload_n C dX1_settle_25 rfl (q := 0) rfl ?_
    refine i_getR C (k := 4) kX1 dX1_settle_26 (shP_57 hX hb) rfl (by decide) fl_X1_25 ?_
    refine i_cV (kc' := 0) (ks' := 0) 0 0 2 (fun q hq hM hS => crN C (as := [aR (b + 62), aR (b + 61)]) dX1_settle_29.1 (by decide) cal_X11_carryOver st_X11_carryOver (hRm ⟨Nat.le_of_ble_eq_true rfl, Nat.le_of_ble_eq_true rfl⟩) rfl (Nat.le_of_ble_eq_true rfl) (c_X11_carryOver (xl X) (xG X) hX (shP_62 hX hb) (shP_61 hX hb) hM ⟨hS.2.1, hS.1, trivial⟩ hq)) (Nat.le_of_ble_eq_true rfl) (Nat.le_of_ble_eq_true rfl) rfl rfl rfl (fun M4 => ?_)
    exact i_vret C hq dX1_settle_32
  refine i_if_eq (tgt := 16) C dX1_settle_4 (by decide) ?_ ?_
  · exact (hj1  M)
  · refine i_aload_n C dX1_settle_7 rfl (q := 0) rfl ?_
    refine i_getI C (k := 5) kX1 dX1_settle_8 (shP_57 hX hb) rfl (by decide) fl_X1_28 rfl ?_
    refine i_iload_n C dX1_settle_11 rfl (q := 1) rfl ?_
    refine i_icmp_gt (tgt := 16) C dX1_settle_12 (by decide) ?_ ?_
    · exact (hj1  M)
    · exact i_vret C hq dX1_settle_15
set_option maxRecDepth 100000 in
set_option maxHeartbeats 4000000 in
theorem c_X1_agree (l : Launch) (G : Gx) {K : Kx} (hK : K = kP) {b : Nat} {x1 : Int} {x2 : Int} {x3 : Int} {x4 : Int} {x5 : Int} {x6 : Int} (hb : isC b) {rc : Int → Int → Int → Int → Int → Mem → Option (Mem)} {d : Nat} (hrc : RcX1_seek l G K b rc d) {M : Mem} {res : Mem} (hM : OkM M) (ha : okS [aR (b + 57), aI x1, aI x2, aI x3, aI x4, aI x5, aI x6]) (hF : pClauses_agree rc b x1 x2 x3 x4 x5 x6 M = some res) : Ct l G K yX1_agree (wsM yX1_agree cX1_agree 8 none) (rmX1_agree d) [aR (b + 57), aI x1, aI x2, aI x3, aI x4, aI x5, aI x6] M none res := by
  refine ct_of RX1 (by decide +kernel) rfl (hK ▸ kP_ok) hM ha (Nat.le_of_ble_eq_true rfl) hF ?_
  intro X C hl hG hX0 hN hR hq
  have hX : xK X = kP := hX0.trans hK
  have hrc : RcX1_seek (xl X) (xG X) (xK X) b rc d := by rw [hl, hG, hX0]; exact hrc
  show Im X 0 0 0 [(0, aR (b + 57)), (1, aI x1), (2, aI x2), (3, aI x3), (4, aI x4), (5, aI x5), (6, aI x6)] [] M res (pClauses_agree rc b x1 x2 x3 x4 x5 x6 M)
  unfold pClauses_agree
  have hl7 : 7 < xn X := by rw [hN]; decide
  have hRm : ∀ {rm : Room} {ny : Nat}, RmOk (rmX1_agree d) rm ny → RmOk (xR X) rm ny := fun h => by rw [hR]; exact h
  refine i_aload_n C dX1_agree_0 rfl (q := 0) rfl ?_
  refine i_dup C dX1_agree_1 rfl ?_
  refine i_getI C (k := 9) kX1 dX1_agree_2 (shP_57 hX hb) rfl (by decide) fl_X1_40 rfl ?_
  refine i_iconst C dX1_agree_5 kI_1 ?_
  refine i_isub C dX1_agree_6 ?_
  refine i_putI C (k := 9) kX1 dX1_agree_7 (shP_57 hX hb) rfl (by decide) fl_X1_40 rfl rfl rfl rfl (fun M1 => ?_)
  refine i_aload_n C dX1_agree_10 rfl (q := 0) rfl ?_
  refine i_getR C (k := 6) kX1 dX1_agree_11 (shP_57 hX hb) rfl (by decide) fl_X1_31 ?_
  refine i_iload_n C dX1_agree_14 rfl (q := 2) rfl ?_
  refine i_iload_n C dX1_agree_15 rfl (q := 1) rfl ?_
  refine i_ast C dX1_agree_16 (shP_62 hX hb) (fun M2 => ?_)
  refine i_iload C dX1_agree_17 (q := 6) rfl ?_
  refine i_aload_n C dX1_agree_19 rfl (q := 0) rfl ?_
  refine i_getR C (k := 3) kX1 dX1_agree_20 (shP_57 hX hb) rfl (by decide) fl_X1_22 ?_
  refine i_iload_n C dX1_agree_23 rfl (q := 1) rfl ?_
  refine i_ald C dX1_agree_24 (shP_60 hX hb) (fun v3 => ?_)
  refine i_iadd C dX1_agree_25 ?_
  refine i_nm (fun v4 => ?_)
  refine i_istore C dX1_agree_26 hl7 (L' := [(0, aR (b + 57)), (1, aI x1), (2, aI x2), (3, aI x3), (4, aI x4), (5, aI x5), (6, aI x6), (7, aI v4)]) rfl ?_
  refine i_iload C dX1_agree_28 (q := 7) rfl ?_
  refine i_aload_n C dX1_agree_30 rfl (q := 0) rfl ?_
  refine i_getI C (k := 7) kX1 dX1_agree_31 (shP_57 hX hb) rfl (by decide) fl_X1_34 rfl ?_
  refine i_icmp_lt (tgt := 47) C dX1_agree_34 (by decide) ?_ ?_
  · refine i_aload_n C dX1_agree_47 rfl (q := 0) rfl ?_
    refine i_iload_n C dX1_agree_48 rfl (q := 2) rfl ?_
    refine i_iconst C dX1_agree_49 kI_1 ?_
    refine i_iadd C dX1_agree_50 ?_
    refine i_iload_n C dX1_agree_51 rfl (q := 3) rfl ?_
    refine i_iconst C dX1_agree_52 kI_1 ?_
    refine i_iload_n C dX1_agree_53 rfl (q := 1) rfl ?_
    refine i_ishl C dX1_agree_54 ?_
    refine i_ior C dX1_agree_55 ?_
    refine i_iload C dX1_agree_56 (q := 4) rfl ?_
    refine i_aload_n C dX1_agree_58 rfl (q := 0) rfl ?_
    refine i_getR C (k := 1) kX1 dX1_agree_59 (shP_57 hX hb) rfl (by decide) fl_X1_15 ?_
    refine i_iload_n C dX1_agree_62 rfl (q := 1) rfl ?_
    refine i_ald C dX1_agree_63 (shP_58 hX hb) (fun v5 => ?_)
    refine i_iadd C dX1_agree_64 ?_
    refine i_iload C dX1_agree_65 (q := 5) rfl ?_
    refine i_aload_n C dX1_agree_67 rfl (q := 0) rfl ?_
    refine i_getR C (k := 2) kX1 dX1_agree_68 (shP_57 hX hb) rfl (by decide) fl_X1_19 ?_
    refine i_iload_n C dX1_agree_71 rfl (q := 1) rfl ?_
    refine i_ald C dX1_agree_72 (shP_59 hX hb) (fun v6 => ?_)
    refine i_iadd C dX1_agree_73 ?_
    refine i_iload C dX1_agree_74 (q := 7) rfl ?_
    refine i_cV (kc' := 0) (ks' := 0) 0 0 6 (fun q hq hM hS => crV C (as := [aI (w32 (x2 + 1)), aI (bOr x3 (bShl 1 x1)), aI (w32 (x4 + v5)), aI (w32 (x5 + v6)), aI v4]) dX1_agree_76.1 kX1 (shP_57 hX hb) ml_X1_47 cal_X1_seek cv_X1_seek (hRm rk_X1_agree_X1_seek) rfl (Nat.le_of_ble_eq_true rfl) (hrc _ _ _ _ _ _ _ hM ⟨hS.2.2.2.2.2.1, hS.2.2.2.2.1, hS.2.2.2.1, hS.2.2.1, hS.2.1, hS.1, trivial⟩ hq)) (Nat.le_of_ble_eq_true rfl) (Nat.le_of_ble_eq_true rfl) rfl rfl rfl (fun M7 => ?_)
    exact i_vret C hq dX1_agree_79
  · refine i_aload_n C dX1_agree_37 rfl (q := 0) rfl ?_
    refine i_iload_n C dX1_agree_38 rfl (q := 2) rfl ?_
    refine i_iconst C dX1_agree_39 kI_1 ?_
    refine i_iadd C dX1_agree_40 ?_
    refine i_cV (kc' := 0) (ks' := 0) 0 0 2 (fun q hq hM hS => crV C (as := [aI (w32 (x2 + 1))]) dX1_agree_41.1 kX1 (shP_57 hX hb) ml_X1_57 cal_X1_settle cv_X1_settle (hRm rk_X1_agree_X1_settle) rfl (Nat.le_of_ble_eq_true rfl) (c_X1_settle (xl X) (xG X) hX hb hM ⟨hS.2.1, hS.1, trivial⟩ hq)) (Nat.le_of_ble_eq_true rfl) (Nat.le_of_ble_eq_true rfl) rfl rfl rfl (fun M8 => ?_)
    refine i_goto (tgt := 79) C dX1_agree_44 (by decide) ?_
    exact i_vret C hq dX1_agree_79
set_option maxRecDepth 100000 in
set_option maxHeartbeats 4000000 in
theorem w_X1_seek_12 {X : Xc} {rc : Int → Int → Int → Int → Int → Mem → Option (Mem)} {d : Nat} (C : Cx X RX1 cX1_seek none) (hX : xK X = kP) (hN : xn X = 8) (hR : xR X = (rmX1_seek (d + 1))) {b : Nat} (hb : isC b) (hrc : RcX1_seek (xl X) (xG X) (xK X) b rc d) {res : Mem} (hq : Rq X none res) (y1 : Int) (y2 : Int) (y3 : Int) (y4 : Int) (y5 : Int) : ∀ (n : Nat) (u6 : Int) (M : Mem), Im X 0 0 12 [(0, aR (b + 57)), (1, aI y1), (2, aI y2), (3, aI y3), (4, aI y4), (5, aI y5), (6, aI u6)] [] M res (lpX1_seek_12 rc b y1 y2 y3 y4 y5 n u6 M) := by
  have hl6 : 6 < xn X := by rw [hN]; decide
  have hl7 : 7 < xn X := by rw [hN]; decide
  have hRm : ∀ {rm : Room} {ny : Nat}, RmOk (rmX1_seek (d + 1)) rm ny → RmOk (xR X) rm ny := fun h => by rw [hR]; exact h
  intro n
  induction n with
  | zero => intro _ _; exact i_none
  | succ n ih =>
    intro u6 M
    unfold lpX1_seek_12
    refine i_iload C dX1_seek_12 (q := 6) rfl ?_
    refine i_aload_n C dX1_seek_14 rfl (q := 0) rfl ?_
    refine i_getI C (k := 0) kX1 dX1_seek_15 (shP_57 hX hb) rfl (by decide) fl_X1_9 rfl ?_
    refine i_icmp_ge (tgt := 101) C dX1_seek_18 (by decide) ?_ ?_
    · exact i_vret C hq dX1_seek_101
    · refine i_aload_n C dX1_seek_21 rfl (q := 0) rfl ?_
      refine i_getI C (k := 9) kX1 dX1_seek_22 (shP_57 hX hb) rfl (by decide) fl_X1_40 rfl ?_
      refine i_if_lt (tgt := 101) C dX1_seek_25 (by decide) ?_ ?_
      · exact i_vret C hq dX1_seek_101
      · refine i_iload_n C dX1_seek_28 rfl (q := 2) rfl ?_
        refine i_iload C dX1_seek_29 (q := 6) rfl ?_
        refine i_ishr C dX1_seek_31 ?_
        refine i_iconst C dX1_seek_32 kI_1 ?_
        refine i_iand C dX1_seek_33 ?_
        refine i_jn (fun j => ∀ (p1 : Int) (M3 : Mem), Im X 0 0 42 [(0, aR (b + 57)), (1, aI y1), (2, aI y2), (3, aI y3), (4, aI y4), (5, aI y5), (6, aI u6)] [aI p1] M3 res (j p1 M3)) ?_ (fun j2 hj2 => ?_)
        · intro p1 M3
          refine i_istore C dX1_seek_42 hl7 (L' := [(0, aR (b + 57)), (1, aI y1), (2, aI y2), (3, aI y3), (4, aI y4), (5, aI y5), (6, aI u6), (7, aI p1)]) rfl ?_
          refine i_iload C dX1_seek_44 (q := 7) rfl ?_
          refine i_jn (fun j => ∀  (M5 : Mem), Im X 0 0 95 [(0, aR (b + 57)), (1, aI y1), (2, aI y2), (3, aI y3), (4, aI y4), (5, aI y5), (6, aI u6)] [] M5 res (j  M5)) ?_ (fun j4 hj4 => ?_)
          · intro  M5
            refine i_iincN (L' := fun v6 => [(0, aR (b + 57)), (1, aI y1), (2, aI y2), (3, aI y3), (4, aI y4), (5, aI y5), (6, aI v6)]) C dX1_seek_95 (q := 6) rfl hl6 (fun _ => rfl) (fun v6 => ?_)
            refine i_goto (tgt := 12) C dX1_seek_98 (by decide) ?_
            exact (ih v6 M5)
          refine i_if_eq (tgt := 95) C dX1_seek_46 (by decide) ?_ ?_
          · exact i_sub [0, 1, 2, 3, 4, 5, 6] rfl (hj4  M3)
          · refine i_iload_n C dX1_seek_49 rfl (q := 3) rfl ?_
            refine i_aload_n C dX1_seek_50 rfl (q := 0) rfl ?_
            refine i_getR C (k := 1) kX1 dX1_seek_51 (shP_57 hX hb) rfl (by decide) fl_X1_15 ?_
            refine i_iload C dX1_seek_54 (q := 6) rfl ?_
            refine i_ald C dX1_seek_56 (shP_58 hX hb) (fun v7 => ?_)
            refine i_iadd C dX1_seek_57 ?_
            refine i_aload_n C dX1_seek_58 rfl (q := 0) rfl ?_
            refine i_getI C (k := 8) kX1 dX1_seek_59 (shP_57 hX hb) rfl (by decide) fl_X1_37 rfl ?_
            refine i_icmp_lt (tgt := 95) C dX1_seek_62 (by decide) ?_ ?_
            · exact i_sub [0, 1, 2, 3, 4, 5, 6] rfl (hj4  M3)
            · refine i_iload C dX1_seek_65 (q := 4) rfl ?_
              refine i_aload_n C dX1_seek_67 rfl (q := 0) rfl ?_
              refine i_getR C (k := 2) kX1 dX1_seek_68 (shP_57 hX hb) rfl (by decide) fl_X1_19 ?_
              refine i_iload C dX1_seek_71 (q := 6) rfl ?_
              refine i_ald C dX1_seek_73 (shP_59 hX hb) (fun v8 => ?_)
              refine i_iadd C dX1_seek_74 ?_
              refine i_aload_n C dX1_seek_75 rfl (q := 0) rfl ?_
              refine i_getI C (k := 8) kX1 dX1_seek_76 (shP_57 hX hb) rfl (by decide) fl_X1_37 rfl ?_
              refine i_icmp_lt (tgt := 95) C dX1_seek_79 (by decide) ?_ ?_
              · exact i_sub [0, 1, 2, 3, 4, 5, 6] rfl (hj4  M3)
              · refine i_aload_n C dX1_seek_82 rfl (q := 0) rfl ?_
                refine i_iload C dX1_seek_83 (q := 6) rfl ?_
                refine i_iload_n C dX1_seek_85 rfl (q := 1) rfl ?_
                refine i_iload_n C dX1_seek_86 rfl (q := 2) rfl ?_
                refine i_iload_n C dX1_seek_87 rfl (q := 3) rfl ?_
                refine i_iload C dX1_seek_88 (q := 4) rfl ?_
                refine i_iload C dX1_seek_90 (q := 5) rfl ?_
                refine i_cV (kc' := 0) (ks' := 0) 0 0 7 (fun q hq hM hS => crV C (as := [aI u6, aI y1, aI y2, aI y3, aI y4, aI y5]) dX1_seek_92.1 kX1 (shP_57 hX hb) ml_X1_53 cal_X1_agree cv_X1_agree (hRm rk_X1_seek_X1_agree) rfl (Nat.le_of_ble_eq_true rfl) (c_X1_agree (xl X) (xG X) hX hb hrc hM ⟨hS.2.2.2.2.2.2.1, hS.2.2.2.2.2.1, hS.2.2.2.2.1, hS.2.2.2.1, hS.2.2.1, hS.2.1, hS.1, trivial⟩ hq)) (Nat.le_of_ble_eq_true rfl) (Nat.le_of_ble_eq_true rfl) rfl rfl rfl (fun M9 => ?_)
                exact i_sub [0, 1, 2, 3, 4, 5, 6] rfl (hj4  M9)
        refine i_if_ne (tgt := 41) C dX1_seek_34 (by decide) ?_ ?_
        · refine i_iconst C dX1_seek_41 kI_0 ?_
          exact (hj2 0 M)
        · refine i_iconst C dX1_seek_37 kI_1 ?_
          refine i_goto (tgt := 42) C dX1_seek_38 (by decide) ?_
          exact (hj2 1 M)
set_option maxRecDepth 100000 in
set_option maxHeartbeats 4000000 in
theorem c_X1_seekb (l : Launch) (G : Gx) {K : Kx} (hK : K = kP) {b : Nat} {x1 : Int} {x2 : Int} {x3 : Int} {x4 : Int} {x5 : Int} (hb : isC b) {rc : Int → Int → Int → Int → Int → Mem → Option (Mem)} {d : Nat} (hrc : RcX1_seek l G K b rc d) {M : Mem} {res : Mem} (hM : OkM M) (ha : okS [aR (b + 57), aI x1, aI x2, aI x3, aI x4, aI x5]) (hF : pClauses_seekb rc b x1 x2 x3 x4 x5 M = some res) : Ct l G K yX1_seek (wsM yX1_seek cX1_seek 8 none) (rmX1_seek (d + 1)) [aR (b + 57), aI x1, aI x2, aI x3, aI x4, aI x5] M none res := by
  refine ct_of RX1 (by decide +kernel) rfl (hK ▸ kP_ok) hM ha (Nat.le_of_ble_eq_true rfl) hF ?_
  intro X C hl hG hX0 hN hR hq
  have hX : xK X = kP := hX0.trans hK
  have hrc : RcX1_seek (xl X) (xG X) (xK X) b rc d := by rw [hl, hG, hX0]; exact hrc
  show Im X 0 0 0 [(0, aR (b + 57)), (1, aI x1), (2, aI x2), (3, aI x3), (4, aI x4), (5, aI x5)] [] M res (pClauses_seekb rc b x1 x2 x3 x4 x5 M)
  unfold pClauses_seekb
  have hl6 : 6 < xn X := by rw [hN]; decide
  have hl7 : 7 < xn X := by rw [hN]; decide
  have hRm : ∀ {rm : Room} {ny : Nat}, RmOk (rmX1_seek (d + 1)) rm ny → RmOk (xR X) rm ny := fun h => by rw [hR]; exact h
  refine i_iload_n C dX1_seek_0 rfl (q := 1) rfl ?_
  refine i_aload_n C dX1_seek_1 rfl (q := 0) rfl ?_
  refine i_getI C (k := 0) kX1 dX1_seek_2 (shP_57 hX hb) rfl (by decide) fl_X1_9 rfl ?_
  refine i_icmp_lt (tgt := 9) C dX1_seek_5 (by decide) ?_ ?_
  · refine i_iconst C dX1_seek_9 kI_0 ?_
    refine i_istore C dX1_seek_10 hl6 (L' := [(0, aR (b + 57)), (1, aI x1), (2, aI x2), (3, aI x3), (4, aI x4), (5, aI x5), (6, aI 0)]) rfl ?_
    exact (w_X1_seek_12 C hX hN hR hb hrc hq x1 x2 x3 x4 x5 FU 0 M)
  · exact i_vret C hq dX1_seek_8
theorem c_X1_seek (l : Launch) (G : Gx) {K : Kx} (hK : K = kP) {b : Nat} (hb : isC b) : ∀ d, RcX1_seek l G K b (fun x1 x2 x3 x4 x5 M => pClauses_seek d b x1 x2 x3 x4 x5 M) d := by
  intro d
  induction d with
  | zero =>
    intro x1 x2 x3 x4 x5 M res _ _ h
    exact absurd (show (none : Option (Mem)) = some res from h) (by simp)
  | succ d ih =>
    intro x1 x2 x3 x4 x5 M res hM ha hF
    exact c_X1_seekb l G hK hb ih hM ha hF
set_option maxRecDepth 100000 in
set_option maxHeartbeats 4000000 in
theorem c_X1_soonest (l : Launch) (G : Gx) {K : Kx} (hK : K = kP) {b : Nat} {x1 : Int} {x2 : Int} {x3 : Int} (hb : isC b) {M : Mem} {res : Int × Mem} (hM : OkM M) (ha : okS [aR (b + 57), aI x1, aI x2, aI x3]) (hF : pClauses_soonest b x1 x2 x3 M = some res) : Ct l G K yX1_soonest (wsM yX1_soonest cX1_soonest 4 (some .int)) rmX1_soonest [aR (b + 57), aI x1, aI x2, aI x3] M (some (aI res.1)) res.2 := by
  refine ct_of RX1 (by decide +kernel) rfl (hK ▸ kP_ok) hM ha (Nat.le_of_ble_eq_true rfl) hF ?_
  intro X C hl hG hX0 hN hR hq
  have hX : xK X = kP := hX0.trans hK
  show Im X 0 0 0 [(0, aR (b + 57)), (1, aI x1), (2, aI x2), (3, aI x3)] [] M res (pClauses_soonest b x1 x2 x3 M)
  unfold pClauses_soonest
  have hRm : ∀ {rm : Room} {ny : Nat}, RmOk rmX1_soonest rm ny → RmOk (xR X) rm ny := fun h => by rw [hR]; exact h
  refine i_aload_n C dX1_soonest_0 rfl (q := 0) rfl ?_
  refine i_iload_n C dX1_soonest_1 rfl (q := 1) rfl ?_
  refine i_putI C (k := 7) kX1 dX1_soonest_2 (shP_57 hX hb) rfl (by decide) fl_X1_34 rfl rfl rfl rfl (fun M1 => ?_)
  refine i_aload_n C dX1_soonest_5 rfl (q := 0) rfl ?_
  refine i_iload_n C dX1_soonest_6 rfl (q := 3) rfl ?_
  refine i_ineg C dX1_soonest_7 ?_
  refine i_putI C (k := 8) kX1 dX1_soonest_8 (shP_57 hX hb) rfl (by decide) fl_X1_37 rfl rfl rfl rfl (fun M2 => ?_)
  refine i_aload_n C dX1_soonest_11 rfl (q := 0) rfl ?_
  refine i_iload_n C dX1_soonest_12 rfl (q := 2) rfl ?_
  refine i_putI C (k := 9) kX1 dX1_soonest_13 (shP_57 hX hb) rfl (by decide) fl_X1_40 rfl rfl rfl rfl (fun M3 => ?_)
  refine i_aload_n C dX1_soonest_16 rfl (q := 0) rfl ?_
  refine i_iconst C dX1_soonest_17 kI_0 ?_
  refine i_putI C (k := 5) kX1 dX1_soonest_18 (shP_57 hX hb) rfl (by decide) fl_X1_28 rfl rfl rfl rfl (fun M4 => ?_)
  refine i_aload_n C dX1_soonest_21 rfl (q := 0) rfl ?_
  refine i_iconst C dX1_soonest_22 kI_0 ?_
  refine i_iconst C dX1_soonest_23 kI_0 ?_
  refine i_iconst C dX1_soonest_24 kI_0 ?_
  refine i_iconst C dX1_soonest_25 kI_0 ?_
  refine i_iconst C dX1_soonest_26 kI_0 ?_
  refine i_cV (kc' := 0) (ks' := 0) 0 0 6 (fun q hq hM hS => crV C (as := [aI 0, aI 0, aI 0, aI 0, aI 0]) dX1_soonest_27.1 kX1 (shP_57 hX hb) ml_X1_47 cal_X1_seek cv_X1_seek (hRm ⟨Nat.le_of_ble_eq_true rfl, Nat.le_of_ble_eq_true rfl⟩) rfl (Nat.le_of_ble_eq_true rfl) (c_X1_seek (xl X) (xG X) hX hb 9 _ _ _ _ _ _ _ hM ⟨hS.2.2.2.2.2.1, hS.2.2.2.2.1, hS.2.2.2.1, hS.2.2.1, hS.2.1, hS.1, trivial⟩ hq)) (Nat.le_of_ble_eq_true rfl) (Nat.le_of_ble_eq_true rfl) rfl rfl rfl (fun M5 => ?_)
  refine i_aload_n C dX1_soonest_30 rfl (q := 0) rfl ?_
  refine i_getI C (k := 9) kX1 dX1_soonest_31 (shP_57 hX hb) rfl (by decide) fl_X1_40 rfl ?_
  refine i_if_ge (tgt := 40) C dX1_soonest_34 (by decide) ?_ ?_
  · refine i_aload_n C dX1_soonest_40 rfl (q := 0) rfl ?_
    refine i_getI C (k := 5) kX1 dX1_soonest_41 (shP_57 hX hb) rfl (by decide) fl_X1_28 rfl ?_
    refine i_if_ne (tgt := 52) C dX1_soonest_44 (by decide) ?_ ?_
    · refine i_aload_n C dX1_soonest_52 rfl (q := 0) rfl ?_
      refine i_getI C (k := 5) kX1 dX1_soonest_53 (shP_57 hX hb) rfl (by decide) fl_X1_28 rfl ?_
      exact i_iret C hq dX1_soonest_56
    · refine i_ldc C dX1_soonest_47 kc_X1_52 kI_m1000000002 ?_
      refine i_goto (tgt := 56) C dX1_soonest_49 (by decide) ?_
      exact i_iret C hq dX1_soonest_56
  · refine i_ldc C dX1_soonest_37 kc_X1_51 kI_m1000000004 ?_
    exact i_iret C hq dX1_soonest_39
set_option maxRecDepth 100000 in
set_option maxHeartbeats 4000000 in
theorem w_X2_send_5 {X : Xc} (C : Cx X RX2 cX2_send none) (hX : xK X = kP) (hN : xn X = 5) (hR : xR X = rmX2_send) {b : Nat} (hb : isC b) {res : Mem} (hq : Rq X none res) (y1 : Int) : ∀ (n : Nat) (u2 : Int) (u3 : Int) (M : Mem), Im X 0 0 5 [(0, aR (b + 53)), (1, aI y1), (2, aI u2), (3, aI u3)] [] M res (lpX2_send_5 b y1 n u2 u3 M) := by
  have hl2 : 2 < xn X := by rw [hN]; decide
  have hl3 : 3 < xn X := by rw [hN]; decide
  have hl4 : 4 < xn X := by rw [hN]; decide
  intro n
  induction n with
  | zero => intro _ _ _; exact i_none
  | succ n ih =>
    intro u2 u3 M
    unfold lpX2_send_5
    refine i_iload_n C dX2_send_5 rfl (q := 3) rfl ?_
    refine i_if_lt (tgt := 42) C dX2_send_6 (by decide) ?_ ?_
    · exact i_vret C hq dX2_send_42
    · refine i_iload_n C dX2_send_9 rfl (q := 3) rfl ?_
      refine i_bipush C dX2_send_10 kB_8 ?_
      refine i_irem C dX2_send_12 (by decide) ?_
      refine i_nm (fun v1 => ?_)
      refine i_istore C dX2_send_13 hl4 (L' := [(0, aR (b + 53)), (1, aI y1), (2, aI u2), (3, aI u3), (4, aI v1)]) rfl ?_
      refine i_iload_n C dX2_send_15 rfl (q := 1) rfl ?_
      refine i_iload C dX2_send_16 (q := 4) rfl ?_
      refine i_ishr C dX2_send_18 ?_
      refine i_iconst C dX2_send_19 kI_1 ?_
      refine i_iand C dX2_send_20 ?_
      refine i_iconst C dX2_send_21 kI_1 ?_
      refine i_jn (fun j => ∀ (p2 : Int) (M4 : Mem), Im X 0 0 28 [(0, aR (b + 53)), (1, aI y1), (2, aI p2), (3, aI u3), (4, aI v1)] [] M4 res (j p2 M4)) ?_ (fun j3 hj3 => ?_)
      · intro p2 M4
        refine i_aload_n C dX2_send_28 rfl (q := 0) rfl ?_
        refine i_getR C (k := 1) kX2 dX2_send_29 (shP_53 hX hb) rfl (by decide) fl_X2_15 ?_
        refine i_iload C dX2_send_32 (q := 4) rfl ?_
        refine i_iload_n C dX2_send_34 rfl (q := 2) rfl ?_
        refine i_ast C dX2_send_35 (shP_55 hX hb) (fun M5 => ?_)
        refine i_iincN (L' := fun v6 => [(0, aR (b + 53)), (1, aI y1), (2, aI p2), (3, aI v6), (4, aI v1)]) C dX2_send_36 (q := 3) rfl hl3 (fun _ => rfl) (fun v6 => ?_)
        refine i_goto (tgt := 5) C dX2_send_39 (by decide) ?_
        exact i_sub [0, 1, 2, 3] rfl (ih p2 v6 M5)
      refine i_icmp_ne (tgt := 28) C dX2_send_22 (by decide) ?_ ?_
      · exact (hj3 u2 M)
      · refine i_iload C dX2_send_25 (q := 4) rfl ?_
        refine i_istore_n C dX2_send_27 rfl hl2 (L' := [(0, aR (b + 53)), (1, aI y1), (2, aI v1), (3, aI u3), (4, aI v1)]) rfl ?_
        exact (hj3 v1 M)
set_option maxRecDepth 100000 in
set_option maxHeartbeats 4000000 in
theorem c_X2_send (l : Launch) (G : Gx) {K : Kx} (hK : K = kP) {b : Nat} {x1 : Int} (hb : isC b) {M : Mem} {res : Mem} (hM : OkM M) (ha : okS [aR (b + 53), aI x1]) (hF : pFeast_send b x1 M = some res) : Ct l G K yX2_send (wsM yX2_send cX2_send 5 none) rmX2_send [aR (b + 53), aI x1] M none res := by
  refine ct_of RX2 (by decide +kernel) rfl (hK ▸ kP_ok) hM ha (Nat.le_of_ble_eq_true rfl) hF ?_
  intro X C hl hG hX0 hN hR hq
  have hX : xK X = kP := hX0.trans hK
  show Im X 0 0 0 [(0, aR (b + 53)), (1, aI x1)] [] M res (pFeast_send b x1 M)
  unfold pFeast_send
  have hl2 : 2 < xn X := by rw [hN]; decide
  have hl3 : 3 < xn X := by rw [hN]; decide
  have hl4 : 4 < xn X := by rw [hN]; decide
  refine i_iconst C dX2_send_0 kI_0 ?_
  refine i_istore_n C dX2_send_1 rfl hl2 (L' := [(0, aR (b + 53)), (1, aI x1), (2, aI 0)]) rfl ?_
  refine i_bipush C dX2_send_2 kB_15 ?_
  refine i_istore_n C dX2_send_4 rfl hl3 (L' := [(0, aR (b + 53)), (1, aI x1), (2, aI 0), (3, aI 15)]) rfl ?_
  exact (w_X2_send_5 C hX hN hR hb hq x1 FU 0 15 M)
set_option maxRecDepth 100000 in
set_option maxHeartbeats 4000000 in
theorem w_X2_waitOf_26 {X : Xc} (C : Cx X RX2 cX2_waitOf (some .int)) (hX : xK X = kP) (hN : xn X = 5) (hR : xR X = rmX2_waitOf) {b : Nat} (hb : isC b) {res : Int × Mem} (hq : Rq X (some (aI res.1)) res.2) (y2 : Int) (y3 : Int) {k66 : Mem → Option (Int × Mem)} (hk66 : ∀ (M : Mem), Im X 0 0 66 [(0, aR (b + 53)), (2, aI y2), (3, aI y3)] [] M res (k66 M)) : ∀ (n : Nat) (u4 : Int) (M : Mem), Im X 0 0 26 [(0, aR (b + 53)), (2, aI y2), (3, aI y3), (4, aI u4)] [] M res (lpX2_waitOf_26 b y2 y3 k66 n u4 M) := by
  have hl2 : 2 < xn X := by rw [hN]; decide
  have hl3 : 3 < xn X := by rw [hN]; decide
  have hl4 : 4 < xn X := by rw [hN]; decide
  have hRm : ∀ {rm : Room} {ny : Nat}, RmOk rmX2_waitOf rm ny → RmOk (xR X) rm ny := fun h => by rw [hR]; exact h
  intro n
  induction n with
  | zero => intro _ _; exact i_none
  | succ n ih =>
    intro u4 M
    unfold lpX2_waitOf_26
    refine i_iload C dX2_waitOf_26 (q := 3) rfl ?_
    refine i_bipush C dX2_waitOf_28 kB_8 ?_
    refine i_icmp_ge (tgt := 66) C dX2_waitOf_30 (by decide) ?_ ?_
    · exact i_sub [0, 1, 2] rfl (hk66  M)
    · refine i_aload_n C dX2_waitOf_33 rfl (q := 0) rfl ?_
      refine i_getR C (k := 2) kX2 dX2_waitOf_34 (shP_53 hX hb) rfl (by decide) fl_X2_18 ?_
      refine i_aload_n C dX2_waitOf_37 rfl (q := 0) rfl ?_
      refine i_getR C (k := 1) kX2 dX2_waitOf_38 (shP_53 hX hb) rfl (by decide) fl_X2_15 ?_
      refine i_iload C dX2_waitOf_41 (q := 3) rfl ?_
      refine i_ald C dX2_waitOf_43 (shP_55 hX hb) (fun v3 => ?_)
      refine i_dup2 C dX2_waitOf_44 rfl rfl ?_
      refine i_ald C dX2_waitOf_45 (shP_56 hX hb) (fun v4 => ?_)
      refine i_aload_n C dX2_waitOf_46 rfl (q := 0) rfl ?_
      refine i_getR C (k := 0) kX2 dX2_waitOf_47 (shP_53 hX hb) rfl (by decide) fl_X2_9 ?_
      refine i_iload C dX2_waitOf_50 (q := 3) rfl ?_
      refine i_bipush C dX2_waitOf_52 kB_13 ?_
      refine i_imul C dX2_waitOf_54 ?_
      refine i_iload_n C dX2_waitOf_55 rfl (q := 2) rfl ?_
      refine i_iadd C dX2_waitOf_56 ?_
      refine i_ald C dX2_waitOf_57 (shP_54 hX hb) (fun v5 => ?_)
      refine i_iadd C dX2_waitOf_58 ?_
      refine i_ast C dX2_waitOf_59 (shP_56 hX hb) (fun M6 => ?_)
      refine i_iincN (L' := fun v7 => [(0, aR (b + 53)), (2, aI y2), (3, aI y3), (4, aI v7)]) C dX2_waitOf_60 (q := 3) rfl hl4 (fun _ => rfl) (fun v7 => ?_)
      refine i_goto (tgt := 26) C dX2_waitOf_63 (by decide) ?_
      exact (ih v7 M6)
set_option maxRecDepth 100000 in
set_option maxHeartbeats 4000000 in
theorem w_X2_waitOf_69 {X : Xc} (C : Cx X RX2 cX2_waitOf (some .int)) (hX : xK X = kP) (hN : xn X = 5) (hR : xR X = rmX2_waitOf) {b : Nat} (hb : isC b) {res : Int × Mem} (hq : Rq X (some (aI res.1)) res.2) (y3 : Int) {k124 : Int → Mem → Option (Int × Mem)} (hk124 : ∀ (q2 : Int) (M : Mem), Im X 0 0 124 [(0, aR (b + 53)), (2, aI q2), (3, aI y3)] [] M res (k124 q2 M)) : ∀ (n : Nat) (u2 : Int) (u4 : Int) (M : Mem), Im X 0 0 69 [(0, aR (b + 53)), (2, aI u2), (3, aI y3), (4, aI u4)] [] M res (lpX2_waitOf_69 b y3 k124 n u2 u4 M) := by
  have hl2 : 2 < xn X := by rw [hN]; decide
  have hl3 : 3 < xn X := by rw [hN]; decide
  have hl4 : 4 < xn X := by rw [hN]; decide
  have hRj : 1 ≤ (xR X).frames ∧ 60 ≤ (xR X).locals := by rw [hR]; exact ⟨Nat.le_of_ble_eq_true rfl, Nat.le_of_ble_eq_true rfl⟩
  have hRm : ∀ {rm : Room} {ny : Nat}, RmOk rmX2_waitOf rm ny → RmOk (xR X) rm ny := fun h => by rw [hR]; exact h
  intro n
  induction n with
  | zero => intro _ _ _; exact i_none
  | succ n ih =>
    intro u2 u4 M
    unfold lpX2_waitOf_69
    refine i_iload C dX2_waitOf_69 (q := 3) rfl ?_
    refine i_bipush C dX2_waitOf_71 kB_8 ?_
    refine i_icmp_ge (tgt := 124) C dX2_waitOf_73 (by decide) ?_ ?_
    · exact i_sub [0, 1, 2] rfl (hk124 u2 M)
    · refine i_aload_n C dX2_waitOf_76 rfl (q := 0) rfl ?_
      refine i_getR C (k := 2) kX2 dX2_waitOf_77 (shP_53 hX hb) rfl (by decide) fl_X2_18 ?_
      refine i_iload C dX2_waitOf_80 (q := 3) rfl ?_
      refine i_iconst C dX2_waitOf_82 kI_0 ?_
      refine i_aload_n C dX2_waitOf_83 rfl (q := 0) rfl ?_
      refine i_getR C (k := 2) kX2 dX2_waitOf_84 (shP_53 hX hb) rfl (by decide) fl_X2_18 ?_
      refine i_iload C dX2_waitOf_87 (q := 3) rfl ?_
      refine i_ald C dX2_waitOf_89 (shP_56 hX hb) (fun v9 => ?_)
      refine i_aload_n C dX2_waitOf_90 rfl (q := 0) rfl ?_
      refine i_getR C (k := 0) kX2 dX2_waitOf_91 (shP_53 hX hb) rfl (by decide) fl_X2_9 ?_
      refine i_iload C dX2_waitOf_94 (q := 3) rfl ?_
      refine i_bipush C dX2_waitOf_96 kB_13 ?_
      refine i_imul C dX2_waitOf_98 ?_
      refine i_bipush C dX2_waitOf_99 kB_12 ?_
      refine i_iadd C dX2_waitOf_101 ?_
      refine i_ald C dX2_waitOf_102 (shP_54 hX hb) (fun v10 => ?_)
      refine i_isub C dX2_waitOf_103 ?_
      refine i_mmax C hRj ml_X2_35 dX2_waitOf_104 (Nat.le_of_ble_eq_true rfl) ?_
      refine i_ast C dX2_waitOf_107 (shP_56 hX hb) (fun M11 => ?_)
      refine i_iload_n C dX2_waitOf_108 rfl (q := 1) rfl ?_
      refine i_aload_n C dX2_waitOf_109 rfl (q := 0) rfl ?_
      refine i_getR C (k := 2) kX2 dX2_waitOf_110 (shP_53 hX hb) rfl (by decide) fl_X2_18 ?_
      refine i_iload C dX2_waitOf_113 (q := 3) rfl ?_
      refine i_ald C dX2_waitOf_115 (shP_56 hX hb) (fun v12 => ?_)
      refine i_iadd C dX2_waitOf_116 ?_
      refine i_nm (fun v13 => ?_)
      refine i_istore_n C dX2_waitOf_117 rfl hl2 (L' := [(0, aR (b + 53)), (2, aI v13), (3, aI y3), (4, aI u4)]) rfl ?_
      refine i_iincN (L' := fun v14 => [(0, aR (b + 53)), (2, aI v13), (3, aI y3), (4, aI v14)]) C dX2_waitOf_118 (q := 3) rfl hl4 (fun _ => rfl) (fun v14 => ?_)
      refine i_goto (tgt := 69) C dX2_waitOf_121 (by decide) ?_
      exact (ih v13 v14 M11)
set_option maxRecDepth 100000 in
set_option maxHeartbeats 4000000 in
theorem w_X2_waitOf_17 {X : Xc} (C : Cx X RX2 cX2_waitOf (some .int)) (hX : xK X = kP) (hN : xn X = 5) (hR : xR X = rmX2_waitOf) {b : Nat} (hb : isC b) {res : Int × Mem} (hq : Rq X (some (aI res.1)) res.2) : ∀ (n : Nat) (u2 : Int) (u3 : Int) (M : Mem), Im X 0 0 17 [(0, aR (b + 53)), (2, aI u2), (3, aI u3)] [] M res (lpX2_waitOf_17 b n u2 u3 M) := by
  have hl2 : 2 < xn X := by rw [hN]; decide
  have hl3 : 3 < xn X := by rw [hN]; decide
  have hl4 : 4 < xn X := by rw [hN]; decide
  have hRj : 1 ≤ (xR X).frames ∧ 60 ≤ (xR X).locals := by rw [hR]; exact ⟨Nat.le_of_ble_eq_true rfl, Nat.le_of_ble_eq_true rfl⟩
  have hRm : ∀ {rm : Room} {ny : Nat}, RmOk rmX2_waitOf rm ny → RmOk (xR X) rm ny := fun h => by rw [hR]; exact h
  intro n
  induction n with
  | zero => intro _ _ _; exact i_none
  | succ n ih =>
    intro u2 u3 M
    unfold lpX2_waitOf_17
    refine i_iload_n C dX2_waitOf_17 rfl (q := 2) rfl ?_
    refine i_bipush C dX2_waitOf_18 kB_12 ?_
    refine i_icmp_ge (tgt := 130) C dX2_waitOf_20 (by decide) ?_ ?_
    · refine i_iload_n C dX2_waitOf_130 rfl (q := 1) rfl ?_
      exact i_iret C hq dX2_waitOf_131
    · refine i_iconst C dX2_waitOf_23 kI_0 ?_
      refine i_istore C dX2_waitOf_24 hl4 (L' := [(0, aR (b + 53)), (2, aI u2), (3, aI u3), (4, aI 0)]) rfl ?_
      refine (w_X2_waitOf_26 C hX hN hR hb hq u2 u3 (fun M8 => ?_) FU 0 M)
      refine i_iconst C dX2_waitOf_66 kI_0 ?_
      refine i_istore C dX2_waitOf_67 hl4 (L' := [(0, aR (b + 53)), (2, aI u2), (3, aI u3), (4, aI 0)]) rfl ?_
      refine (w_X2_waitOf_69 C hX hN hR hb hq u3 (fun v15 M16 => ?_) FU u2 0 M8)
      refine i_iincN (L' := fun v17 => [(0, aR (b + 53)), (2, aI v15), (3, aI v17)]) C dX2_waitOf_124 (q := 2) rfl hl3 (fun _ => rfl) (fun v17 => ?_)
      refine i_goto (tgt := 17) C dX2_waitOf_127 (by decide) ?_
      exact (ih v15 v17 M16)
set_option maxRecDepth 100000 in
set_option maxHeartbeats 4000000 in
theorem c_X2_waitOf (l : Launch) (G : Gx) {K : Kx} (hK : K = kP) {b : Nat} {x1 : Int} (hb : isC b) {M : Mem} {res : Int × Mem} (hM : OkM M) (ha : okS [aR (b + 53), aI x1]) (hF : pFeast_waitOf b x1 M = some res) : Ct l G K yX2_waitOf (wsM yX2_waitOf cX2_waitOf 5 (some .int)) rmX2_waitOf [aR (b + 53), aI x1] M (some (aI res.1)) res.2 := by
  refine ct_of RX2 (by decide +kernel) rfl (hK ▸ kP_ok) hM ha (Nat.le_of_ble_eq_true rfl) hF ?_
  intro X C hl hG hX0 hN hR hq
  have hX : xK X = kP := hX0.trans hK
  show Im X 0 0 0 [(0, aR (b + 53)), (1, aI x1)] [] M res (pFeast_waitOf b x1 M)
  unfold pFeast_waitOf
  have hl2 : 2 < xn X := by rw [hN]; decide
  have hl3 : 3 < xn X := by rw [hN]; decide
  have hl4 : 4 < xn X := by rw [hN]; decide
  have hRj : 1 ≤ (xR X).frames ∧ 60 ≤ (xR X).locals := by rw [hR]; exact ⟨Nat.le_of_ble_eq_true rfl, Nat.le_of_ble_eq_true rfl⟩
  have hRm : ∀ {rm : Room} {ny : Nat}, RmOk rmX2_waitOf rm ny → RmOk (xR X) rm ny := fun h => by rw [hR]; exact h
  refine i_aload_n C dX2_waitOf_0 rfl (q := 0) rfl ?_
  refine i_iload_n C dX2_waitOf_1 rfl (q := 1) rfl ?_
  refine i_cV (kc' := 0) (ks' := 0) 0 0 2 (fun q hq hM hS => crV C (as := [aI x1]) dX2_waitOf_2.1 kX2 (shP_53 hX hb) ml_X2_25 cal_X2_send cv_X2_send (hRm ⟨Nat.le_of_ble_eq_true rfl, Nat.le_of_ble_eq_true rfl⟩) rfl (Nat.le_of_ble_eq_true rfl) (c_X2_send (xl X) (xG X) hX hb hM ⟨hS.2.1, hS.1, trivial⟩ hq)) (Nat.le_of_ble_eq_true rfl) (Nat.le_of_ble_eq_true rfl) rfl rfl rfl (fun M1 => ?_)
  refine i_aload_n C dX2_waitOf_5 rfl (q := 0) rfl ?_
  refine i_getR C (k := 2) kX2 dX2_waitOf_6 (shP_53 hX hb) rfl (by decide) fl_X2_18 ?_
  refine i_iconst C dX2_waitOf_9 kI_0 ?_
  refine i_cV (kc' := 0) (ks' := 0) 0 0 2 (fun q hq hM hS => crS C (as := [aR (b + 56), aI 0]) dX2_waitOf_10.1 ml_X2_29 cal_J7_fill_53178 st_J7_fill_53178 (hRm ⟨Nat.le_of_ble_eq_true rfl, Nat.le_of_ble_eq_true rfl⟩) rfl (Nat.le_of_ble_eq_true rfl) (c_J7_fill_53178 (xl X) (xG X) hX (shP_56 hX hb) hM ⟨hS.2.1, hS.1, trivial⟩ hq)) (Nat.le_of_ble_eq_true rfl) (Nat.le_of_ble_eq_true rfl) rfl rfl rfl (fun M2 => ?_)
  refine i_iconst C dX2_waitOf_13 kI_0 ?_
  refine i_istore_n C dX2_waitOf_14 rfl hl2 (L' := [(0, aR (b + 53)), (1, aI x1), (2, aI 0)]) rfl ?_
  refine i_iconst C dX2_waitOf_15 kI_0 ?_
  refine i_istore_n C dX2_waitOf_16 rfl hl3 (L' := [(0, aR (b + 53)), (1, aI x1), (2, aI 0), (3, aI 0)]) rfl ?_
  exact i_sub [0, 2, 3] rfl (w_X2_waitOf_17 C hX hN hR hb hq FU 0 0 M2)
set_option maxRecDepth 100000 in
set_option maxHeartbeats 4000000 in
theorem w_X2_bestSet_7 {X : Xc} (C : Cx X RX2 cX2_bestSet (some .int)) (hX : xK X = kP) (hN : xn X = 7) (hR : xR X = rmX2_bestSet) {b : Nat} (hb : isC b) {res : Int × Mem} (hq : Rq X (some (aI res.1)) res.2) (y1 : Int) : ∀ (n : Nat) (u2 : Int) (u3 : Int) (u4 : Int) (M : Mem), Im X 0 0 7 [(0, aR (b + 53)), (1, aI y1), (2, aI u2), (3, aI u3), (4, aI u4)] [] M res (lpX2_bestSet_7 b y1 n u2 u3 u4 M) := by
  have hl2 : 2 < xn X := by rw [hN]; decide
  have hl3 : 3 < xn X := by rw [hN]; decide
  have hl4 : 4 < xn X := by rw [hN]; decide
  have hl5 : 5 < xn X := by rw [hN]; decide
  have hl6 : 6 < xn X := by rw [hN]; decide
  have hRm : ∀ {rm : Room} {ny : Nat}, RmOk rmX2_bestSet rm ny → RmOk (xR X) rm ny := fun h => by rw [hR]; exact h
  intro n
  induction n with
  | zero => intro _ _ _ _; exact i_none
  | succ n ih =>
    intro u2 u3 u4 M
    unfold lpX2_bestSet_7
    refine i_iload C dX2_bestSet_7 (q := 4) rfl ?_
    refine i_sipush C dX2_bestSet_9 kS_256 ?_
    refine i_icmp_ge (tgt := 87) C dX2_bestSet_12 (by decide) ?_ ?_
    · refine i_iload_n C dX2_bestSet_87 rfl (q := 2) rfl ?_
      exact i_iret C hq dX2_bestSet_88
    · refine i_iload C dX2_bestSet_15 (q := 4) rfl ?_
      refine i_cI (kc' := 0) (ks' := 0) 0 0 1 (fun q hq hM hS => crS C (as := [aI u4]) dX2_bestSet_17.1 ml_X2_41 cal_J6_bitCount_0f7a4 st_J6_bitCount_0f7a4 (hRm ⟨Nat.le_of_ble_eq_true rfl, Nat.le_of_ble_eq_true rfl⟩) rfl (Nat.le_of_ble_eq_true rfl) (c_J6_bitCount_0f7a4 (xl X) (xG X) hX hM ⟨hS.1, trivial⟩ hq)) (Nat.le_of_ble_eq_true rfl) (Nat.le_of_ble_eq_true rfl) rfl rfl rfl (fun v2 M1 => ?_)
      refine i_iload_n C dX2_bestSet_20 rfl (q := 1) rfl ?_
      refine i_jn (fun j => ∀ (p3 : Int) (p4 : Int) (M6 : Mem), Im X 0 0 81 [(0, aR (b + 53)), (1, aI y1), (2, aI p3), (3, aI p4), (4, aI u4)] [] M6 res (j p3 p4 M6)) ?_ (fun j5 hj5 => ?_)
      · intro p3 p4 M6
        refine i_iincN (L' := fun v7 => [(0, aR (b + 53)), (1, aI y1), (2, aI p3), (3, aI p4), (4, aI v7)]) C dX2_bestSet_81 (q := 4) rfl hl4 (fun _ => rfl) (fun v7 => ?_)
        refine i_goto (tgt := 7) C dX2_bestSet_84 (by decide) ?_
        exact (ih p3 p4 v7 M6)
      refine i_icmp_le (tgt := 27) C dX2_bestSet_21 (by decide) ?_ ?_
      · refine i_aload_n C dX2_bestSet_27 rfl (q := 0) rfl ?_
        refine i_iload C dX2_bestSet_28 (q := 4) rfl ?_
        refine i_cI (kc' := 0) (ks' := 0) 0 0 2 (fun q hq hM hS => crV C (as := [aI u4]) dX2_bestSet_30.1 kX2 (shP_53 hX hb) ml_X2_47 cal_X2_waitOf cv_X2_waitOf (hRm ⟨Nat.le_of_ble_eq_true rfl, Nat.le_of_ble_eq_true rfl⟩) rfl (Nat.le_of_ble_eq_true rfl) (c_X2_waitOf (xl X) (xG X) hX hb hM ⟨hS.2.1, hS.1, trivial⟩ hq)) (Nat.le_of_ble_eq_true rfl) (Nat.le_of_ble_eq_true rfl) rfl rfl rfl (fun v9 M8 => ?_)
        refine i_istore C dX2_bestSet_33 hl5 (L' := [(0, aR (b + 53)), (1, aI y1), (2, aI u2), (3, aI u3), (4, aI u4), (5, aI v9)]) rfl ?_
        refine i_iload C dX2_bestSet_35 (q := 5) rfl ?_
        refine i_iload_n C dX2_bestSet_37 rfl (q := 3) rfl ?_
        refine i_jn (fun j => ∀ (p10 : Int) (M12 : Mem), Im X 0 0 64 [(0, aR (b + 53)), (1, aI y1), (2, aI u2), (3, aI u3), (4, aI u4), (5, aI v9)] [aI p10] M12 res (j p10 M12)) ?_ (fun j11 hj11 => ?_)
        · intro p10 M12
          refine i_istore C dX2_bestSet_64 hl6 (L' := [(0, aR (b + 53)), (1, aI y1), (2, aI u2), (3, aI u3), (4, aI u4), (5, aI v9), (6, aI p10)]) rfl ?_
          refine i_iload_n C dX2_bestSet_66 rfl (q := 2) rfl ?_
          refine i_jn (fun j => ∀  (M14 : Mem), Im X 0 0 75 [(0, aR (b + 53)), (1, aI y1), (4, aI u4), (5, aI v9)] [] M14 res (j  M14)) ?_ (fun j13 hj13 => ?_)
          · intro  M14
            refine i_iload C dX2_bestSet_75 (q := 2) rfl ?_
            refine i_istore_n C dX2_bestSet_77 rfl hl2 (L' := [(0, aR (b + 53)), (1, aI y1), (2, aI u4), (4, aI u4), (5, aI v9)]) rfl ?_
            refine i_iload C dX2_bestSet_78 (q := 4) rfl ?_
            refine i_istore_n C dX2_bestSet_80 rfl hl3 (L' := [(0, aR (b + 53)), (1, aI y1), (2, aI u4), (3, aI v9), (4, aI u4), (5, aI v9)]) rfl ?_
            exact i_sub [0, 1, 2, 3, 4] rfl (hj5 u4 v9 M14)
          refine i_if_eq (tgt := 75) C dX2_bestSet_67 (by decide) ?_ ?_
          · exact i_sub [0, 1, 4, 5] rfl (hj13  M12)
          · refine i_iload C dX2_bestSet_70 (q := 6) rfl ?_
            refine i_if_eq (tgt := 81) C dX2_bestSet_72 (by decide) ?_ ?_
            · exact i_sub [0, 1, 2, 3, 4] rfl (hj5 u2 u3 M12)
            · exact i_sub [0, 1, 4, 5] rfl (hj13  M12)
        refine i_jn (fun j => ∀  (M16 : Mem), Im X 0 0 59 [(0, aR (b + 53)), (1, aI y1), (2, aI u2), (3, aI u3), (4, aI u4), (5, aI v9)] [] M16 res (j  M16)) ?_ (fun j15 hj15 => ?_)
        · intro  M16
          refine i_iconst C dX2_bestSet_59 kI_1 ?_
          refine i_goto (tgt := 64) C dX2_bestSet_60 (by decide) ?_
          exact (hj11 1 M16)
        refine i_icmp_lt (tgt := 59) C dX2_bestSet_38 (by decide) ?_ ?_
        · exact (hj15  M8)
        · refine i_iload C dX2_bestSet_41 (q := 5) rfl ?_
          refine i_iload_n C dX2_bestSet_43 rfl (q := 3) rfl ?_
          refine i_jn (fun j => ∀  (M18 : Mem), Im X 0 0 63 [(0, aR (b + 53)), (1, aI y1), (2, aI u2), (3, aI u3), (4, aI u4), (5, aI v9)] [] M18 res (j  M18)) ?_ (fun j17 hj17 => ?_)
          · intro  M18
            refine i_iconst C dX2_bestSet_63 kI_0 ?_
            exact (hj11 0 M18)
          refine i_icmp_ne (tgt := 63) C dX2_bestSet_44 (by decide) ?_ ?_
          · exact (hj17  M8)
          · refine i_iload C dX2_bestSet_47 (q := 4) rfl ?_
            refine i_cI (kc' := 0) (ks' := 0) 0 0 1 (fun q hq hM hS => crS C (as := [aI u4]) dX2_bestSet_49.1 ml_X2_41 cal_J6_bitCount_0f7a4 st_J6_bitCount_0f7a4 (hRm ⟨Nat.le_of_ble_eq_true rfl, Nat.le_of_ble_eq_true rfl⟩) rfl (Nat.le_of_ble_eq_true rfl) (c_J6_bitCount_0f7a4 (xl X) (xG X) hX hM ⟨hS.1, trivial⟩ hq)) (Nat.le_of_ble_eq_true rfl) (Nat.le_of_ble_eq_true rfl) rfl rfl rfl (fun v20 M19 => ?_)
            refine i_iload_n C dX2_bestSet_52 rfl (q := 2) rfl ?_
            refine i_cI (kc' := 0) (ks' := 0) 0 0 1 (fun q hq hM hS => crS C (as := [aI u2]) dX2_bestSet_53.1 ml_X2_41 cal_J6_bitCount_0f7a4 st_J6_bitCount_0f7a4 (hRm ⟨Nat.le_of_ble_eq_true rfl, Nat.le_of_ble_eq_true rfl⟩) rfl (Nat.le_of_ble_eq_true rfl) (c_J6_bitCount_0f7a4 (xl X) (xG X) hX hM ⟨hS.1, trivial⟩ hq)) (Nat.le_of_ble_eq_true rfl) (Nat.le_of_ble_eq_true rfl) rfl rfl rfl (fun v22 M21 => ?_)
            refine i_icmp_ge (tgt := 63) C dX2_bestSet_56 (by decide) ?_ ?_
            · exact (hj17  M21)
            · exact (hj15  M21)
      · refine i_goto (tgt := 81) C dX2_bestSet_24 (by decide) ?_
        exact (hj5 u2 u3 M1)
set_option maxRecDepth 100000 in
set_option maxHeartbeats 4000000 in
theorem c_X2_bestSet (l : Launch) (G : Gx) {K : Kx} (hK : K = kP) {b : Nat} {x1 : Int} (hb : isC b) {M : Mem} {res : Int × Mem} (hM : OkM M) (ha : okS [aR (b + 53), aI x1]) (hF : pFeast_bestSet b x1 M = some res) : Ct l G K yX2_bestSet (wsM yX2_bestSet cX2_bestSet 7 (some .int)) rmX2_bestSet [aR (b + 53), aI x1] M (some (aI res.1)) res.2 := by
  refine ct_of RX2 (by decide +kernel) rfl (hK ▸ kP_ok) hM ha (Nat.le_of_ble_eq_true rfl) hF ?_
  intro X C hl hG hX0 hN hR hq
  have hX : xK X = kP := hX0.trans hK
  show Im X 0 0 0 [(0, aR (b + 53)), (1, aI x1)] [] M res (pFeast_bestSet b x1 M)
  unfold pFeast_bestSet
  have hl2 : 2 < xn X := by rw [hN]; decide
  have hl3 : 3 < xn X := by rw [hN]; decide
  have hl4 : 4 < xn X := by rw [hN]; decide
  have hl5 : 5 < xn X := by rw [hN]; decide
  have hl6 : 6 < xn X := by rw [hN]; decide
  have hRm : ∀ {rm : Room} {ny : Nat}, RmOk rmX2_bestSet rm ny → RmOk (xR X) rm ny := fun h => by rw [hR]; exact h
  refine i_iconst C dX2_bestSet_0 kI_0 ?_
  refine i_istore_n C dX2_bestSet_1 rfl hl2 (L' := [(0, aR (b + 53)), (1, aI x1), (2, aI 0)]) rfl ?_
  refine i_iconst C dX2_bestSet_2 kI_0 ?_
  refine i_istore_n C dX2_bestSet_3 rfl hl3 (L' := [(0, aR (b + 53)), (1, aI x1), (2, aI 0), (3, aI 0)]) rfl ?_
  refine i_iconst C dX2_bestSet_4 kI_1 ?_
  refine i_istore C dX2_bestSet_5 hl4 (L' := [(0, aR (b + 53)), (1, aI x1), (2, aI 0), (3, aI 0), (4, aI 1)]) rfl ?_
  exact (w_X2_bestSet_7 C hX hN hR hb hq x1 FU 0 0 1 M)
set_option maxRecDepth 100000 in
set_option maxHeartbeats 4000000 in
theorem c_X3_has (l : Launch) (G : Gx) {K : Kx} (hK : K = kP) {b : Nat} {x1 : Int} {x2 : Int} (hb : isC b) {M : Mem} {res : Int × Mem} (hM : OkM M) (ha : okS [aR (b + 47), aI x1, aI x2]) (hF : pFiles_has b x1 x2 M = some res) : Ct l G K yX3_has (wsM yX3_has cX3_has 3 (some .boolean)) rmX3_has [aR (b + 47), aI x1, aI x2] M (some (aI res.1)) res.2 := by
  refine ct_of RX3 (by decide +kernel) rfl (hK ▸ kP_ok) hM ha (Nat.le_of_ble_eq_true rfl) hF ?_
  intro X C hl hG hX0 hN hR hq
  have hX : xK X = kP := hX0.trans hK
  show Im X 0 0 0 [(0, aR (b + 47)), (1, aI x1), (2, aI x2)] [] M res (pFiles_has b x1 x2 M)
  unfold pFiles_has
  refine i_iload_n C dX3_has_0 rfl (q := 2) rfl ?_
  refine i_if_lt (tgt := 18) C dX3_has_1 (by decide) ?_ ?_
  · refine i_iconst C dX3_has_18 kI_0 ?_
    exact i_zret C hq dX3_has_19 (Or.inl rfl)
  · refine i_iload_n C dX3_has_4 rfl (q := 2) rfl ?_
    refine i_aload_n C dX3_has_5 rfl (q := 0) rfl ?_
    refine i_getR C (k := 0) kX3 dX3_has_6 (shP_47 hX hb) rfl (by decide) fl_X3_9 ?_
    refine i_iload_n C dX3_has_9 rfl (q := 1) rfl ?_
    refine i_ald C dX3_has_10 (shP_48 hX hb) (fun v1 => ?_)
    refine i_icmp_ge (tgt := 18) C dX3_has_11 (by decide) ?_ ?_
    · refine i_iconst C dX3_has_18 kI_0 ?_
      exact i_zret C hq dX3_has_19 (Or.inl rfl)
    · refine i_iconst C dX3_has_14 kI_1 ?_
      refine i_goto (tgt := 19) C dX3_has_15 (by decide) ?_
      exact i_zret C hq dX3_has_19 (Or.inr rfl)
set_option maxRecDepth 100000 in
set_option maxHeartbeats 4000000 in
theorem c_X3_addFile (l : Launch) (G : Gx) {K : Kx} (hK : K = kP) {b : Nat} {x1 : Int} {x2 : Int} {x3 : Int} (hb : isC b) {M : Mem} {res : Int × Mem} (hM : OkM M) (ha : okS [aR (b + 47), aI x1, aI x2, aI x3]) (hF : pFiles_addFile b x1 x2 x3 M = some res) : Ct l G K yX3_addFile (wsM yX3_addFile cX3_addFile 5 (some .int)) rmX3_addFile [aR (b + 47), aI x1, aI x2, aI x3] M (some (aI res.1)) res.2 := by
  refine ct_of RX3 (by decide +kernel) rfl (hK ▸ kP_ok) hM ha (Nat.le_of_ble_eq_true rfl) hF ?_
  intro X C hl hG hX0 hN hR hq
  have hX : xK X = kP := hX0.trans hK
  show Im X 0 0 0 [(0, aR (b + 47)), (1, aI x1), (2, aI x2), (3, aI x3)] [] M res (pFiles_addFile b x1 x2 x3 M)
  unfold pFiles_addFile
  have hl4 : 4 < xn X := by rw [hN]; decide
  refine i_iload_n C dX3_addFile_0 rfl (q := 1) rfl ?_
  refine i_bipush C dX3_addFile_1 kB_10 ?_
  refine i_imul C dX3_addFile_3 ?_
  refine i_aload_n C dX3_addFile_4 rfl (q := 0) rfl ?_
  refine i_getR C (k := 0) kX3 dX3_addFile_5 (shP_47 hX hb) rfl (by decide) fl_X3_9 ?_
  refine i_iload_n C dX3_addFile_8 rfl (q := 1) rfl ?_
  refine i_ald C dX3_addFile_9 (shP_48 hX hb) (fun v1 => ?_)
  refine i_iadd C dX3_addFile_10 ?_
  refine i_nm (fun v2 => ?_)
  refine i_istore C dX3_addFile_11 hl4 (L' := [(0, aR (b + 47)), (1, aI x1), (2, aI x2), (3, aI x3), (4, aI v2)]) rfl ?_
  refine i_aload_n C dX3_addFile_13 rfl (q := 0) rfl ?_
  refine i_getR C (k := 1) kX3 dX3_addFile_14 (shP_47 hX hb) rfl (by decide) fl_X3_15 ?_
  refine i_iload C dX3_addFile_17 (q := 4) rfl ?_
  refine i_iload_n C dX3_addFile_19 rfl (q := 2) rfl ?_
  refine i_ast C dX3_addFile_20 (shP_49 hX hb) (fun M3 => ?_)
  refine i_aload_n C dX3_addFile_21 rfl (q := 0) rfl ?_
  refine i_getR C (k := 2) kX3 dX3_addFile_22 (shP_47 hX hb) rfl (by decide) fl_X3_18 ?_
  refine i_iload C dX3_addFile_25 (q := 4) rfl ?_
  refine i_iload_n C dX3_addFile_27 rfl (q := 3) rfl ?_
  refine i_ast C dX3_addFile_28 (shP_50 hX hb) (fun M4 => ?_)
  refine i_aload_n C dX3_addFile_29 rfl (q := 0) rfl ?_
  refine i_iconst C dX3_addFile_30 kI_0 ?_
  refine i_putI C (k := 5) kX3 dX3_addFile_31 (shP_47 hX hb) rfl (by decide) fl_X3_27 rfl (by decide) (by decide) rfl (fun M5 => ?_)
  refine i_aload_n C dX3_addFile_34 rfl (q := 0) rfl ?_
  refine i_getR C (k := 0) kX3 dX3_addFile_35 (shP_47 hX hb) rfl (by decide) fl_X3_9 ?_
  refine i_iload_n C dX3_addFile_38 rfl (q := 1) rfl ?_
  refine i_dup2 C dX3_addFile_39 rfl rfl ?_
  refine i_ald C dX3_addFile_40 (shP_48 hX hb) (fun v6 => ?_)
  refine i_dup_x2 C dX3_addFile_41 rfl rfl rfl ?_
  refine i_iconst C dX3_addFile_42 kI_1 ?_
  refine i_iadd C dX3_addFile_43 ?_
  refine i_ast C dX3_addFile_44 (shP_48 hX hb) (fun M7 => ?_)
  exact i_iret C hq dX3_addFile_45
set_option maxRecDepth 100000 in
set_option maxHeartbeats 4000000 in
theorem c_X3_figure (l : Launch) (G : Gx) {K : Kx} (hK : K = kP) {x0 : Int} {x1 : Int} {M : Mem} {res : Int × Mem} (hM : OkM M) (ha : okS [aI x0, aI x1]) (hF : pFiles_figure x0 x1 M = some res) : Ct l G K yX3_figure (wsM yX3_figure cX3_figure 2 (some .int)) rmX3_figure [aI x0, aI x1] M (some (aI res.1)) res.2 := by
  refine ct_of RX3 (by decide +kernel) rfl (hK ▸ kP_ok) hM ha (Nat.le_of_ble_eq_true rfl) hF ?_
  intro X C hl hG hX0 hN hR hq
  have hX : xK X = kP := hX0.trans hK
  show Im X 0 0 0 [(0, aI x0), (1, aI x1)] [] M res (pFiles_figure x0 x1 M)
  unfold pFiles_figure
  refine i_iload_n C dX3_figure_0 rfl (q := 0) rfl ?_
  refine i_gstN C 1 dX3_figure_1 rfl (by decide +kernel) ?_
  refine i_iload_n C dX3_figure_4 rfl (q := 1) rfl ?_
  refine i_aldT C 1 dX3_figure_5 rfl (fun v1 => ?_)
  refine i_split (fun _ => i_none) (fun e2 => ?_)
  refine i_idiv C dX3_figure_6 e2 ?_
  refine i_bipush C dX3_figure_7 kB_10 ?_
  refine i_irem C dX3_figure_9 (by decide) ?_
  exact i_iret C hq dX3_figure_10
set_option maxRecDepth 100000 in
set_option maxHeartbeats 4000000 in
theorem w_X3_likeness_60 {X : Xc} (C : Cx X RX3 cX3_likeness (some .int)) (hX : xK X = kP) (hN : xn X = 8) (hR : xR X = rmX3_likeness) {b : Nat} (hb : isC b) {res : Int × Mem} (hq : Rq X (some (aI res.1)) res.2) (y3 : Int) (y4 : Int) {k101 : Int → Int → Mem → Option (Int × Mem)} (hk101 : ∀ (q5 : Int) (q6 : Int) (M : Mem), Im X 0 0 101 [(3, aI y3), (4, aI y4), (5, aI q5), (6, aI q6)] [] M res (k101 q5 q6 M)) : ∀ (n : Nat) (u5 : Int) (u6 : Int) (u7 : Int) (M : Mem), Im X 0 0 60 [(3, aI y3), (4, aI y4), (5, aI u5), (6, aI u6), (7, aI u7)] [] M res (lpX3_likeness_60 b y3 y4 k101 n u5 u6 u7 M) := by
  have hl3 : 3 < xn X := by rw [hN]; decide
  have hl4 : 4 < xn X := by rw [hN]; decide
  have hl5 : 5 < xn X := by rw [hN]; decide
  have hl6 : 6 < xn X := by rw [hN]; decide
  have hl7 : 7 < xn X := by rw [hN]; decide
  have hRj : 1 ≤ (xR X).frames ∧ 60 ≤ (xR X).locals := by rw [hR]; exact ⟨Nat.le_of_ble_eq_true rfl, Nat.le_of_ble_eq_true rfl⟩
  have hRm : ∀ {rm : Room} {ny : Nat}, RmOk rmX3_likeness rm ny → RmOk (xR X) rm ny := fun h => by rw [hR]; exact h
  intro n
  induction n with
  | zero => intro _ _ _ _; exact i_none
  | succ n ih =>
    intro u5 u6 u7 M
    unfold lpX3_likeness_60
    refine i_iload C dX3_likeness_60 (q := 4) rfl ?_
    refine i_gstN C 1 dX3_likeness_62 rfl (by decide +kernel) ?_
    refine i_alenT C 1 dX3_likeness_65 rfl rfl kI_4 ?_
    refine i_icmp_ge (tgt := 101) C dX3_likeness_66 (by decide) ?_ ?_
    · exact i_sub [0, 1, 2, 3] rfl (hk101 u5 u6 M)
    · refine i_iload_n C dX3_likeness_69 rfl (q := 0) rfl ?_
      refine i_iload C dX3_likeness_70 (q := 4) rfl ?_
      refine i_cI (kc' := 0) (ks' := 0) 0 0 2 (fun q hq hM hS => crS C (as := [aI y3, aI u7]) dX3_likeness_72.1 ml_X3_47 cal_X3_figure st_X3_figure (hRm ⟨Nat.le_of_ble_eq_true rfl, Nat.le_of_ble_eq_true rfl⟩) rfl (Nat.le_of_ble_eq_true rfl) (c_X3_figure (xl X) (xG X) hX hM ⟨hS.2.1, hS.1, trivial⟩ hq)) (Nat.le_of_ble_eq_true rfl) (Nat.le_of_ble_eq_true rfl) rfl rfl rfl (fun v6 M5 => ?_)
      refine i_iload C dX3_likeness_75 (q := 1) rfl ?_
      refine i_iload C dX3_likeness_77 (q := 4) rfl ?_
      refine i_cI (kc' := 0) (ks' := 0) 0 0 2 (fun q hq hM hS => crS C (as := [aI y4, aI u7]) dX3_likeness_79.1 ml_X3_47 cal_X3_figure st_X3_figure (hRm ⟨Nat.le_of_ble_eq_true rfl, Nat.le_of_ble_eq_true rfl⟩) rfl (Nat.le_of_ble_eq_true rfl) (c_X3_figure (xl X) (xG X) hX hM ⟨hS.2.1, hS.1, trivial⟩ hq)) (Nat.le_of_ble_eq_true rfl) (Nat.le_of_ble_eq_true rfl) rfl rfl rfl (fun v8 M7 => ?_)
      refine i_jn (fun j => ∀ (p9 : Int) (p10 : Int) (M12 : Mem), Im X 0 0 95 [(3, aI y3), (4, aI y4), (5, aI p9), (6, aI p10), (7, aI u7)] [] M12 res (j p9 p10 M12)) ?_ (fun j11 hj11 => ?_)
      · intro p9 p10 M12
        refine i_iincN (L' := fun v13 => [(3, aI y3), (4, aI y4), (5, aI p9), (6, aI p10), (7, aI v13)]) C dX3_likeness_95 (q := 4) rfl hl7 (fun _ => rfl) (fun v13 => ?_)
        refine i_goto (tgt := 60) C dX3_likeness_98 (by decide) ?_
        exact (ih p9 p10 v13 M12)
      refine i_icmp_ne (tgt := 88) C dX3_likeness_82 (by decide) ?_ ?_
      · refine i_iincN (L' := fun v14 => [(3, aI y3), (4, aI y4), (5, aI v14), (6, aI u6), (7, aI u7)]) C dX3_likeness_88 (q := 2) rfl hl5 (fun _ => rfl) (fun v14 => ?_)
        refine i_iload C dX3_likeness_91 (q := 4) rfl ?_
        refine i_istore C dX3_likeness_93 hl6 (L' := [(3, aI y3), (4, aI y4), (5, aI v14), (6, aI u7), (7, aI u7)]) rfl ?_
        exact (hj11 v14 u7 M7)
      · refine i_goto (tgt := 95) C dX3_likeness_85 (by decide) ?_
        exact (hj11 u5 u6 M7)
set_option maxRecDepth 100000 in
set_option maxHeartbeats 4000000 in
theorem c_X3_likeness (l : Launch) (G : Gx) {K : Kx} (hK : K = kP) {b : Nat} {x1 : Int} {x2 : Int} (hb : isC b) {M : Mem} {res : Int × Mem} (hM : OkM M) (ha : okS [aR (b + 47), aI x1, aI x2]) (hF : pFiles_likeness b x1 x2 M = some res) : Ct l G K yX3_likeness (wsM yX3_likeness cX3_likeness 8 (some .int)) rmX3_likeness [aR (b + 47), aI x1, aI x2] M (some (aI res.1)) res.2 := by
  refine ct_of RX3 (by decide +kernel) rfl (hK ▸ kP_ok) hM ha (Nat.le_of_ble_eq_true rfl) hF ?_
  intro X C hl hG hX0 hN hR hq
  have hX : xK X = kP := hX0.trans hK
  show Im X 0 0 0 [(0, aR (b + 47)), (1, aI x1), (2, aI x2)] [] M res (pFiles_likeness b x1 x2 M)
  unfold pFiles_likeness
  have hl3 : 3 < xn X := by rw [hN]; decide
  have hl4 : 4 < xn X := by rw [hN]; decide
  have hl5 : 5 < xn X := by rw [hN]; decide
  have hl6 : 6 < xn X := by rw [hN]; decide
  have hl7 : 7 < xn X := by rw [hN]; decide
  have hRj : 1 ≤ (xR X).frames ∧ 60 ≤ (xR X).locals := by rw [hR]; exact ⟨Nat.le_of_ble_eq_true rfl, Nat.le_of_ble_eq_true rfl⟩
  have hRm : ∀ {rm : Room} {ny : Nat}, RmOk rmX3_likeness rm ny → RmOk (xR X) rm ny := fun h => by rw [hR]; exact h
  refine i_aload_n C dX3_likeness_0 rfl (q := 0) rfl ?_
  refine i_getR C (k := 2) kX3 dX3_likeness_1 (shP_47 hX hb) rfl (by decide) fl_X3_18 ?_
  refine i_iload_n C dX3_likeness_4 rfl (q := 1) rfl ?_
  refine i_ald C dX3_likeness_5 (shP_50 hX hb) (fun v1 => ?_)
  refine i_aload_n C dX3_likeness_6 rfl (q := 0) rfl ?_
  refine i_getR C (k := 2) kX3 dX3_likeness_7 (shP_47 hX hb) rfl (by decide) fl_X3_18 ?_
  refine i_bipush C dX3_likeness_10 kB_10 ?_
  refine i_iload_n C dX3_likeness_12 rfl (q := 2) rfl ?_
  refine i_iadd C dX3_likeness_13 ?_
  refine i_ald C dX3_likeness_14 (shP_50 hX hb) (fun v2 => ?_)
  refine i_isub C dX3_likeness_15 ?_
  refine i_mabs C hRj ml_X3_38 dX3_likeness_16 (Nat.le_of_ble_eq_true rfl) ?_
  refine i_iconst C dX3_likeness_19 kI_1 ?_
  refine i_icmp_le (tgt := 25) C dX3_likeness_20 (by decide) ?_ ?_
  · refine i_aload_n C dX3_likeness_25 rfl (q := 0) rfl ?_
    refine i_getR C (k := 1) kX3 dX3_likeness_26 (shP_47 hX hb) rfl (by decide) fl_X3_15 ?_
    refine i_iload_n C dX3_likeness_29 rfl (q := 1) rfl ?_
    refine i_ald C dX3_likeness_30 (shP_49 hX hb) (fun v3 => ?_)
    refine i_istore_n C dX3_likeness_31 rfl hl3 (L' := [(0, aR (b + 47)), (1, aI x1), (2, aI x2), (3, aI v3)]) rfl ?_
    refine i_aload_n C dX3_likeness_32 rfl (q := 0) rfl ?_
    refine i_getR C (k := 1) kX3 dX3_likeness_33 (shP_47 hX hb) rfl (by decide) fl_X3_15 ?_
    refine i_bipush C dX3_likeness_36 kB_10 ?_
    refine i_iload_n C dX3_likeness_38 rfl (q := 2) rfl ?_
    refine i_iadd C dX3_likeness_39 ?_
    refine i_ald C dX3_likeness_40 (shP_49 hX hb) (fun v4 => ?_)
    refine i_istore C dX3_likeness_41 hl4 (L' := [(0, aR (b + 47)), (1, aI x1), (2, aI x2), (3, aI v3), (4, aI v4)]) rfl ?_
    refine i_iload_n C dX3_likeness_43 rfl (q := 3) rfl ?_
    refine i_iload C dX3_likeness_44 (q := 4) rfl ?_
    refine i_icmp_ne (tgt := 51) C dX3_likeness_46 (by decide) ?_ ?_
    · refine i_iconst C dX3_likeness_51 kI_0 ?_
      refine i_istore C dX3_likeness_52 hl5 (L' := [(0, aR (b + 47)), (1, aI x1), (2, aI x2), (3, aI v3), (4, aI v4), (5, aI 0)]) rfl ?_
      refine i_iconst C dX3_likeness_54 kI_0 ?_
      refine i_istore C dX3_likeness_55 hl6 (L' := [(0, aR (b + 47)), (1, aI x1), (2, aI x2), (3, aI v3), (4, aI v4), (5, aI 0), (6, aI 0)]) rfl ?_
      refine i_iconst C dX3_likeness_57 kI_0 ?_
      refine i_istore C dX3_likeness_58 hl7 (L' := [(0, aR (b + 47)), (1, aI x1), (2, aI x2), (3, aI v3), (4, aI v4), (5, aI 0), (6, aI 0), (7, aI 0)]) rfl ?_
      refine i_sub [3, 4, 5, 6, 7] rfl (w_X3_likeness_60 C hX hN hR hb hq v3 v4 (fun v15 v16 M17 => ?_) FU 0 0 0 M)
      refine i_iload C dX3_likeness_101 (q := 2) rfl ?_
      refine i_iconst C dX3_likeness_103 kI_1 ?_
      refine i_icmp_ne (tgt := 109) C dX3_likeness_104 (by decide) ?_ ?_
      · refine i_iload C dX3_likeness_109 (q := 2) rfl ?_
        refine i_iconst C dX3_likeness_111 kI_2 ?_
        refine i_icmp_gt (tgt := 120) C dX3_likeness_112 (by decide) ?_ ?_
        · refine i_iconst C dX3_likeness_120 kI_0 ?_
          exact i_iret C hq dX3_likeness_121
        · refine i_iload C dX3_likeness_115 (q := 3) rfl ?_
          refine i_if_ne (tgt := 122) C dX3_likeness_117 (by decide) ?_ ?_
          · refine i_iload_n C dX3_likeness_122 rfl (q := 0) rfl ?_
            refine i_iload C dX3_likeness_123 (q := 3) rfl ?_
            refine i_cI (kc' := 0) (ks' := 0) 0 0 2 (fun q hq hM hS => crS C (as := [aI v3, aI v16]) dX3_likeness_125.1 ml_X3_47 cal_X3_figure st_X3_figure (hRm ⟨Nat.le_of_ble_eq_true rfl, Nat.le_of_ble_eq_true rfl⟩) rfl (Nat.le_of_ble_eq_true rfl) (c_X3_figure (xl X) (xG X) hX hM ⟨hS.2.1, hS.1, trivial⟩ hq)) (Nat.le_of_ble_eq_true rfl) (Nat.le_of_ble_eq_true rfl) rfl rfl rfl (fun v19 M18 => ?_)
            refine i_iload C dX3_likeness_128 (q := 1) rfl ?_
            refine i_iload C dX3_likeness_130 (q := 3) rfl ?_
            refine i_iconst C dX3_likeness_132 kI_1 ?_
            refine i_isub C dX3_likeness_133 ?_
            refine i_cI (kc' := 0) (ks' := 0) 0 0 2 (fun q hq hM hS => crS C (as := [aI v4, aI (w32 (v16 - 1))]) dX3_likeness_134.1 ml_X3_47 cal_X3_figure st_X3_figure (hRm ⟨Nat.le_of_ble_eq_true rfl, Nat.le_of_ble_eq_true rfl⟩) rfl (Nat.le_of_ble_eq_true rfl) (c_X3_figure (xl X) (xG X) hX hM ⟨hS.2.1, hS.1, trivial⟩ hq)) (Nat.le_of_ble_eq_true rfl) (Nat.le_of_ble_eq_true rfl) rfl rfl rfl (fun v21 M20 => ?_)
            refine i_icmp_ne (tgt := 162) C dX3_likeness_137 (by decide) ?_ ?_
            · refine i_iconst C dX3_likeness_162 kI_0 ?_
              exact i_iret C hq dX3_likeness_163
            · refine i_iload_n C dX3_likeness_140 rfl (q := 0) rfl ?_
              refine i_iload C dX3_likeness_141 (q := 3) rfl ?_
              refine i_iconst C dX3_likeness_143 kI_1 ?_
              refine i_isub C dX3_likeness_144 ?_
              refine i_cI (kc' := 0) (ks' := 0) 0 0 2 (fun q hq hM hS => crS C (as := [aI v3, aI (w32 (v16 - 1))]) dX3_likeness_145.1 ml_X3_47 cal_X3_figure st_X3_figure (hRm ⟨Nat.le_of_ble_eq_true rfl, Nat.le_of_ble_eq_true rfl⟩) rfl (Nat.le_of_ble_eq_true rfl) (c_X3_figure (xl X) (xG X) hX hM ⟨hS.2.1, hS.1, trivial⟩ hq)) (Nat.le_of_ble_eq_true rfl) (Nat.le_of_ble_eq_true rfl) rfl rfl rfl (fun v23 M22 => ?_)
              refine i_iload C dX3_likeness_148 (q := 1) rfl ?_
              refine i_iload C dX3_likeness_150 (q := 3) rfl ?_
              refine i_cI (kc' := 0) (ks' := 0) 0 0 2 (fun q hq hM hS => crS C (as := [aI v4, aI v16]) dX3_likeness_152.1 ml_X3_47 cal_X3_figure st_X3_figure (hRm ⟨Nat.le_of_ble_eq_true rfl, Nat.le_of_ble_eq_true rfl⟩) rfl (Nat.le_of_ble_eq_true rfl) (c_X3_figure (xl X) (xG X) hX hM ⟨hS.2.1, hS.1, trivial⟩ hq)) (Nat.le_of_ble_eq_true rfl) (Nat.le_of_ble_eq_true rfl) rfl rfl rfl (fun v25 M24 => ?_)
              refine i_icmp_ne (tgt := 162) C dX3_likeness_155 (by decide) ?_ ?_
              · refine i_iconst C dX3_likeness_162 kI_0 ?_
                exact i_iret C hq dX3_likeness_163
              · refine i_iconst C dX3_likeness_158 kI_1 ?_
                refine i_goto (tgt := 163) C dX3_likeness_159 (by decide) ?_
                exact i_iret C hq dX3_likeness_163
          · refine i_iconst C dX3_likeness_120 kI_0 ?_
            exact i_iret C hq dX3_likeness_121
      · refine i_iconst C dX3_likeness_107 kI_1 ?_
        exact i_iret C hq dX3_likeness_108
    · refine i_iconst C dX3_likeness_49 kI_2 ?_
      exact i_iret C hq dX3_likeness_50
  · refine i_iconst C dX3_likeness_23 kI_0 ?_
    exact i_iret C hq dX3_likeness_24
set_option maxRecDepth 100000 in
set_option maxHeartbeats 4000000 in
theorem c_X3_worthOf (l : Launch) (G : Gx) {K : Kx} (hK : K = kP) {x0 : Int} {M : Mem} {res : Int × Mem} (hM : OkM M) (ha : okS [aI x0]) (hF : pFiles_worthOf x0 M = some res) : Ct l G K yX3_worthOf (wsM yX3_worthOf cX3_worthOf 1 (some .int)) rmX3_worthOf [aI x0] M (some (aI res.1)) res.2 := by
  refine ct_of RX3 (by decide +kernel) rfl (hK ▸ kP_ok) hM ha (Nat.le_of_ble_eq_true rfl) hF ?_
  intro X C hl hG hX0 hN hR hq
  have hX : xK X = kP := hX0.trans hK
  show Im X 0 0 0 [(0, aI x0)] [] M res (pFiles_worthOf x0 M)
  unfold pFiles_worthOf
  refine i_iload_n C dX3_worthOf_0 rfl (q := 0) rfl ?_
  refine i_iconst C dX3_worthOf_1 kI_2 ?_
  refine i_icmp_ne (tgt := 10) C dX3_worthOf_2 (by decide) ?_ ?_
  · refine i_iload_n C dX3_worthOf_10 rfl (q := 0) rfl ?_
    exact i_iret C hq dX3_worthOf_11
  · refine i_bipush C dX3_worthOf_5 kB_100 ?_
    refine i_goto (tgt := 11) C dX3_worthOf_7 (by decide) ?_
    exact i_iret C hq dX3_worthOf_11
set_option maxRecDepth 100000 in
set_option maxHeartbeats 4000000 in
theorem w_X3_weighPair_25 {X : Xc} (C : Cx X RX3 cX3_weighPair none) (hX : xK X = kP) (hN : xn X = 8) (hR : xR X = rmX3_weighPair) {b : Nat} (hb : isC b) {res : Mem} (hq : Rq X none res) (y1 : Int) (y3 : Int) (y4 : Int) (y5 : Int) : ∀ (n : Nat) (u6 : Int) (M : Mem), Im X 0 0 25 [(0, aR (b + 47)), (1, aI y1), (3, aI y3), (4, aI y4), (5, aI y5), (6, aI u6)] [] M res (lpX3_weighPair_25 b y1 y3 y4 y5 n u6 M) := by
  have hl4 : 4 < xn X := by rw [hN]; decide
  have hl5 : 5 < xn X := by rw [hN]; decide
  have hl6 : 6 < xn X := by rw [hN]; decide
  have hl7 : 7 < xn X := by rw [hN]; decide
  have hRm : ∀ {rm : Room} {ny : Nat}, RmOk rmX3_weighPair rm ny → RmOk (xR X) rm ny := fun h => by rw [hR]; exact h
  intro n
  induction n with
  | zero => intro _ _; exact i_none
  | succ n ih =>
    intro u6 M
    unfold lpX3_weighPair_25
    refine i_iload C dX3_weighPair_25 (q := 5) rfl ?_
    refine i_iload_n C dX3_weighPair_27 rfl (q := 2) rfl ?_
    refine i_icmp_ge (tgt := 98) C dX3_weighPair_28 (by decide) ?_ ?_
    · exact i_vret C hq dX3_weighPair_98
    · refine i_iload C dX3_weighPair_31 (q := 5) rfl ?_
      refine i_iload C dX3_weighPair_33 (q := 4) rfl ?_
      refine i_iand C dX3_weighPair_35 ?_
      refine i_jn (fun j => ∀  (M7 : Mem), Im X 0 0 92 [(0, aR (b + 47)), (1, aI y1), (3, aI y3), (4, aI y4), (5, aI y5), (6, aI u6)] [] M7 res (j  M7)) ?_ (fun j6 hj6 => ?_)
      · intro  M7
        refine i_iincN (L' := fun v8 => [(0, aR (b + 47)), (1, aI y1), (3, aI y3), (4, aI y4), (5, aI y5), (6, aI v8)]) C dX3_weighPair_92 (q := 5) rfl hl6 (fun _ => rfl) (fun v8 => ?_)
        refine i_goto (tgt := 25) C dX3_weighPair_95 (by decide) ?_
        exact (ih v8 M7)
      refine i_if_eq (tgt := 42) C dX3_weighPair_36 (by decide) ?_ ?_
      · refine i_iload C dX3_weighPair_42 (q := 3) rfl ?_
        refine i_aload_n C dX3_weighPair_44 rfl (q := 0) rfl ?_
        refine i_getB C (k := 6) kX3 dX3_weighPair_45 (shP_47 hX hb) rfl (by decide) fl_X3_31 ?_
        refine i_iload_n C dX3_weighPair_48 rfl (q := 1) rfl ?_
        refine i_iconst C dX3_weighPair_49 kI_1 ?_
        refine i_iadd C dX3_weighPair_50 ?_
        refine i_iload_n C dX3_weighPair_51 rfl (q := 2) rfl ?_
        refine i_imul C dX3_weighPair_52 ?_
        refine i_iload C dX3_weighPair_53 (q := 5) rfl ?_
        refine i_iload C dX3_weighPair_55 (q := 4) rfl ?_
        refine i_ior C dX3_weighPair_57 ?_
        refine i_iadd C dX3_weighPair_58 ?_
        refine i_aldB C dX3_weighPair_59 (inBa hX hb) (fun v9 => ?_)
        refine i_iadd C dX3_weighPair_60 ?_
        refine i_nm (fun v10 => ?_)
        refine i_istore C dX3_weighPair_61 hl7 (L' := [(0, aR (b + 47)), (1, aI y1), (3, aI y3), (4, aI y4), (5, aI y5), (6, aI u6), (7, aI v10)]) rfl ?_
        refine i_iload C dX3_weighPair_63 (q := 6) rfl ?_
        refine i_aload_n C dX3_weighPair_65 rfl (q := 0) rfl ?_
        refine i_getB C (k := 6) kX3 dX3_weighPair_66 (shP_47 hX hb) rfl (by decide) fl_X3_31 ?_
        refine i_iload_n C dX3_weighPair_69 rfl (q := 1) rfl ?_
        refine i_iload_n C dX3_weighPair_70 rfl (q := 2) rfl ?_
        refine i_imul C dX3_weighPair_71 ?_
        refine i_iload C dX3_weighPair_72 (q := 5) rfl ?_
        refine i_iadd C dX3_weighPair_74 ?_
        refine i_aldB C dX3_weighPair_75 (inBa hX hb) (fun v11 => ?_)
        refine i_icmp_le (tgt := 92) C dX3_weighPair_76 (by decide) ?_ ?_
        · exact i_sub [0, 1, 2, 3, 4, 5] rfl (hj6  M)
        · refine i_aload_n C dX3_weighPair_79 rfl (q := 0) rfl ?_
          refine i_getB C (k := 6) kX3 dX3_weighPair_80 (shP_47 hX hb) rfl (by decide) fl_X3_31 ?_
          refine i_iload_n C dX3_weighPair_83 rfl (q := 1) rfl ?_
          refine i_iload_n C dX3_weighPair_84 rfl (q := 2) rfl ?_
          refine i_imul C dX3_weighPair_85 ?_
          refine i_iload C dX3_weighPair_86 (q := 5) rfl ?_
          refine i_iadd C dX3_weighPair_88 ?_
          refine i_iload C dX3_weighPair_89 (q := 6) rfl ?_
          refine i_astB C dX3_weighPair_91 (inBa hX hb) (fun M12 => ?_)
          exact i_sub [0, 1, 2, 3, 4, 5] rfl (hj6  M12)
      · refine i_goto (tgt := 92) C dX3_weighPair_39 (by decide) ?_
        exact (hj6  M)
set_option maxRecDepth 100000 in
set_option maxHeartbeats 4000000 in
theorem c_X3_weighPair (l : Launch) (G : Gx) {K : Kx} (hK : K = kP) {b : Nat} {x1 : Int} {x2 : Int} {x3 : Int} (hb : isC b) {M : Mem} {res : Mem} (hM : OkM M) (ha : okS [aR (b + 47), aI x1, aI x2, aI x3]) (hF : pFiles_weighPair b x1 x2 x3 M = some res) : Ct l G K yX3_weighPair (wsM yX3_weighPair cX3_weighPair 8 none) rmX3_weighPair [aR (b + 47), aI x1, aI x2, aI x3] M none res := by
  refine ct_of RX3 (by decide +kernel) rfl (hK ▸ kP_ok) hM ha (Nat.le_of_ble_eq_true rfl) hF ?_
  intro X C hl hG hX0 hN hR hq
  have hX : xK X = kP := hX0.trans hK
  show Im X 0 0 0 [(0, aR (b + 47)), (1, aI x1), (2, aI x2), (3, aI x3)] [] M res (pFiles_weighPair b x1 x2 x3 M)
  unfold pFiles_weighPair
  have hl4 : 4 < xn X := by rw [hN]; decide
  have hl5 : 5 < xn X := by rw [hN]; decide
  have hl6 : 6 < xn X := by rw [hN]; decide
  have hl7 : 7 < xn X := by rw [hN]; decide
  have hRm : ∀ {rm : Room} {ny : Nat}, RmOk rmX3_weighPair rm ny → RmOk (xR X) rm ny := fun h => by rw [hR]; exact h
  refine i_aload_n C dX3_weighPair_0 rfl (q := 0) rfl ?_
  refine i_iload_n C dX3_weighPair_1 rfl (q := 1) rfl ?_
  refine i_iload_n C dX3_weighPair_2 rfl (q := 2) rfl ?_
  refine i_cI (kc' := 0) (ks' := 0) 0 0 3 (fun q hq hM hS => crV C (as := [aI x1, aI x2]) dX3_weighPair_3.1 kX3 (shP_47 hX hb) ml_X3_64 cal_X3_likeness cv_X3_likeness (hRm ⟨Nat.le_of_ble_eq_true rfl, Nat.le_of_ble_eq_true rfl⟩) rfl (Nat.le_of_ble_eq_true rfl) (c_X3_likeness (xl X) (xG X) hX hb hM ⟨hS.2.2.1, hS.2.1, hS.1, trivial⟩ hq)) (Nat.le_of_ble_eq_true rfl) (Nat.le_of_ble_eq_true rfl) rfl rfl rfl (fun v2 M1 => ?_)
  refine i_cI (kc' := 0) (ks' := 0) 0 0 1 (fun q hq hM hS => crS C (as := [aI v2]) dX3_weighPair_6.1 ml_X3_74 cal_X3_worthOf st_X3_worthOf (hRm ⟨Nat.le_of_ble_eq_true rfl, Nat.le_of_ble_eq_true rfl⟩) rfl (Nat.le_of_ble_eq_true rfl) (c_X3_worthOf (xl X) (xG X) hX hM ⟨hS.1, trivial⟩ hq)) (Nat.le_of_ble_eq_true rfl) (Nat.le_of_ble_eq_true rfl) rfl rfl rfl (fun v4 M3 => ?_)
  refine i_istore C dX3_weighPair_9 hl4 (L' := [(0, aR (b + 47)), (1, aI x1), (2, aI x2), (3, aI x3), (4, aI v4)]) rfl ?_
  refine i_iload C dX3_weighPair_11 (q := 4) rfl ?_
  refine i_if_ne (tgt := 17) C dX3_weighPair_13 (by decide) ?_ ?_
  · refine i_iconst C dX3_weighPair_17 kI_1 ?_
    refine i_iload_n C dX3_weighPair_18 rfl (q := 2) rfl ?_
    refine i_ishl C dX3_weighPair_19 ?_
    refine i_nm (fun v5 => ?_)
    refine i_istore C dX3_weighPair_20 hl5 (L' := [(0, aR (b + 47)), (1, aI x1), (2, aI x2), (3, aI x3), (4, aI v4), (5, aI v5)]) rfl ?_
    refine i_iconst C dX3_weighPair_22 kI_0 ?_
    refine i_istore C dX3_weighPair_23 hl6 (L' := [(0, aR (b + 47)), (1, aI x1), (2, aI x2), (3, aI x3), (4, aI v4), (5, aI v5), (6, aI 0)]) rfl ?_
    exact i_sub [0, 1, 3, 4, 5, 6] rfl (w_X3_weighPair_25 C hX hN hR hb hq x1 x3 v4 v5 FU 0 M3)
  · exact i_vret C hq dX3_weighPair_16
set_option maxRecDepth 100000 in
set_option maxHeartbeats 4000000 in
theorem w_X3_weigh_69 {X : Xc} (C : Cx X RX3 cX3_weigh none) (hX : xK X = kP) (hN : xn X = 5) (hR : xR X = rmX3_weigh) {b : Nat} (hb : isC b) {res : Mem} (hq : Rq X none res) (y1 : Int) (y3 : Int) {k105 : Mem → Option (Mem)} (hk105 : ∀ (M : Mem), Im X 0 0 105 [(0, aR (b + 47)), (1, aI y1), (3, aI y3)] [] M res (k105 M)) : ∀ (n : Nat) (u4 : Int) (M : Mem), Im X 0 0 69 [(0, aR (b + 47)), (1, aI y1), (3, aI y3), (4, aI u4)] [] M res (lpX3_weigh_69 b y1 y3 k105 n u4 M) := by
  have hl1 : 1 < xn X := by rw [hN]; decide
  have hl2 : 2 < xn X := by rw [hN]; decide
  have hl3 : 3 < xn X := by rw [hN]; decide
  have hl4 : 4 < xn X := by rw [hN]; decide
  have hRm : ∀ {rm : Room} {ny : Nat}, RmOk rmX3_weigh rm ny → RmOk (xR X) rm ny := fun h => by rw [hR]; exact h
  intro n
  induction n with
  | zero => intro _ _; exact i_none
  | succ n ih =>
    intro u4 M
    unfold lpX3_weigh_69
    refine i_iload C dX3_weigh_69 (q := 3) rfl ?_
    refine i_iload_n C dX3_weigh_71 rfl (q := 1) rfl ?_
    refine i_icmp_ge (tgt := 105) C dX3_weigh_72 (by decide) ?_ ?_
    · exact i_sub [0, 1, 2] rfl (hk105  M)
    · refine i_aload_n C dX3_weigh_75 rfl (q := 0) rfl ?_
      refine i_getB C (k := 6) kX3 dX3_weigh_76 (shP_47 hX hb) rfl (by decide) fl_X3_31 ?_
      refine i_iload_n C dX3_weigh_79 rfl (q := 2) rfl ?_
      refine i_iload_n C dX3_weigh_80 rfl (q := 1) rfl ?_
      refine i_imul C dX3_weigh_81 ?_
      refine i_iload C dX3_weigh_82 (q := 3) rfl ?_
      refine i_iadd C dX3_weigh_84 ?_
      refine i_aload_n C dX3_weigh_85 rfl (q := 0) rfl ?_
      refine i_getB C (k := 6) kX3 dX3_weigh_86 (shP_47 hX hb) rfl (by decide) fl_X3_31 ?_
      refine i_iload_n C dX3_weigh_89 rfl (q := 2) rfl ?_
      refine i_iconst C dX3_weigh_90 kI_1 ?_
      refine i_iadd C dX3_weigh_91 ?_
      refine i_iload_n C dX3_weigh_92 rfl (q := 1) rfl ?_
      refine i_imul C dX3_weigh_93 ?_
      refine i_iload C dX3_weigh_94 (q := 3) rfl ?_
      refine i_iadd C dX3_weigh_96 ?_
      refine i_aldB C dX3_weigh_97 (inBa hX hb) (fun v11 => ?_)
      refine i_astB C dX3_weigh_98 (inBa hX hb) (fun M12 => ?_)
      refine i_iincN (L' := fun v13 => [(0, aR (b + 47)), (1, aI y1), (3, aI y3), (4, aI v13)]) C dX3_weigh_99 (q := 3) rfl hl4 (fun _ => rfl) (fun v13 => ?_)
      refine i_goto (tgt := 69) C dX3_weigh_102 (by decide) ?_
      exact (ih v13 M12)
set_option maxRecDepth 100000 in
set_option maxHeartbeats 4000000 in
theorem w_X3_weigh_108 {X : Xc} (C : Cx X RX3 cX3_weigh none) (hX : xK X = kP) (hN : xn X = 5) (hR : xR X = rmX3_weigh) {b : Nat} (hb : isC b) {res : Mem} (hq : Rq X none res) (y1 : Int) (y3 : Int) {k133 : Mem → Option (Mem)} (hk133 : ∀ (M : Mem), Im X 0 0 133 [(0, aR (b + 47)), (1, aI y1), (3, aI y3)] [] M res (k133 M)) : ∀ (n : Nat) (u4 : Int) (M : Mem), Im X 0 0 108 [(0, aR (b + 47)), (1, aI y1), (3, aI y3), (4, aI u4)] [] M res (lpX3_weigh_108 b y1 y3 k133 n u4 M) := by
  have hl1 : 1 < xn X := by rw [hN]; decide
  have hl2 : 2 < xn X := by rw [hN]; decide
  have hl3 : 3 < xn X := by rw [hN]; decide
  have hl4 : 4 < xn X := by rw [hN]; decide
  have hRm : ∀ {rm : Room} {ny : Nat}, RmOk rmX3_weigh rm ny → RmOk (xR X) rm ny := fun h => by rw [hR]; exact h
  intro n
  induction n with
  | zero => intro _ _; exact i_none
  | succ n ih =>
    intro u4 M
    unfold lpX3_weigh_108
    refine i_iload C dX3_weigh_108 (q := 3) rfl ?_
    refine i_aload_n C dX3_weigh_110 rfl (q := 0) rfl ?_
    refine i_getR C (k := 0) kX3 dX3_weigh_111 (shP_47 hX hb) rfl (by decide) fl_X3_9 ?_
    refine i_iconst C dX3_weigh_114 kI_1 ?_
    refine i_ald C dX3_weigh_115 (shP_48 hX hb) (fun v15 => ?_)
    refine i_icmp_ge (tgt := 133) C dX3_weigh_116 (by decide) ?_ ?_
    · exact i_sub [0, 1, 2] rfl (hk133  M)
    · refine i_aload_n C dX3_weigh_119 rfl (q := 0) rfl ?_
      refine i_iload_n C dX3_weigh_120 rfl (q := 2) rfl ?_
      refine i_iload C dX3_weigh_121 (q := 3) rfl ?_
      refine i_iload_n C dX3_weigh_123 rfl (q := 1) rfl ?_
      refine i_cV (kc' := 0) (ks' := 0) 0 0 4 (fun q hq hM hS => crV C (as := [aI y3, aI u4, aI y1]) dX3_weigh_124.1 kX3 (shP_47 hX hb) ml_X3_70 cal_X3_weighPair cv_X3_weighPair (hRm ⟨Nat.le_of_ble_eq_true rfl, Nat.le_of_ble_eq_true rfl⟩) rfl (Nat.le_of_ble_eq_true rfl) (c_X3_weighPair (xl X) (xG X) hX hb hM ⟨hS.2.2.2.1, hS.2.2.1, hS.2.1, hS.1, trivial⟩ hq)) (Nat.le_of_ble_eq_true rfl) (Nat.le_of_ble_eq_true rfl) rfl rfl rfl (fun M16 => ?_)
      refine i_iincN (L' := fun v17 => [(0, aR (b + 47)), (1, aI y1), (3, aI y3), (4, aI v17)]) C dX3_weigh_127 (q := 3) rfl hl4 (fun _ => rfl) (fun v17 => ?_)
      refine i_goto (tgt := 108) C dX3_weigh_130 (by decide) ?_
      exact (ih v17 M16)
set_option maxRecDepth 100000 in
set_option maxHeartbeats 4000000 in
theorem w_X3_weigh_62 {X : Xc} (C : Cx X RX3 cX3_weigh none) (hX : xK X = kP) (hN : xn X = 5) (hR : xR X = rmX3_weigh) {b : Nat} (hb : isC b) {res : Mem} (hq : Rq X none res) (y1 : Int) : ∀ (n : Nat) (u3 : Int) (M : Mem), Im X 0 0 62 [(0, aR (b + 47)), (1, aI y1), (3, aI u3)] [] M res (lpX3_weigh_62 b y1 n u3 M) := by
  have hl1 : 1 < xn X := by rw [hN]; decide
  have hl2 : 2 < xn X := by rw [hN]; decide
  have hl3 : 3 < xn X := by rw [hN]; decide
  have hl4 : 4 < xn X := by rw [hN]; decide
  have hRm : ∀ {rm : Room} {ny : Nat}, RmOk rmX3_weigh rm ny → RmOk (xR X) rm ny := fun h => by rw [hR]; exact h
  intro n
  induction n with
  | zero => intro _ _; exact i_none
  | succ n ih =>
    intro u3 M
    unfold lpX3_weigh_62
    refine i_iload_n C dX3_weigh_62 rfl (q := 2) rfl ?_
    refine i_if_lt (tgt := 139) C dX3_weigh_63 (by decide) ?_ ?_
    · exact i_vret C hq dX3_weigh_139
    · refine i_iconst C dX3_weigh_66 kI_0 ?_
      refine i_istore C dX3_weigh_67 hl4 (L' := [(0, aR (b + 47)), (1, aI y1), (3, aI u3), (4, aI 0)]) rfl ?_
      refine (w_X3_weigh_69 C hX hN hR hb hq y1 u3 (fun M14 => ?_) FU 0 M)
      refine i_iconst C dX3_weigh_105 kI_0 ?_
      refine i_istore C dX3_weigh_106 hl4 (L' := [(0, aR (b + 47)), (1, aI y1), (3, aI u3), (4, aI 0)]) rfl ?_
      refine (w_X3_weigh_108 C hX hN hR hb hq y1 u3 (fun M18 => ?_) FU 0 M14)
      refine i_iincN (L' := fun v19 => [(0, aR (b + 47)), (1, aI y1), (3, aI v19)]) C dX3_weigh_133 (q := 2) rfl hl3 (fun _ => rfl) (fun v19 => ?_)
      refine i_goto (tgt := 62) C dX3_weigh_136 (by decide) ?_
      exact (ih v19 M18)
set_option maxRecDepth 100000 in
set_option maxHeartbeats 4000000 in
theorem c_X3_weigh (l : Launch) (G : Gx) {K : Kx} (hK : K = kP) {b : Nat} (hb : isC b) {M : Mem} {res : Mem} (hM : OkM M) (ha : okS [aR (b + 47)]) (hF : pFiles_weigh b M = some res) : Ct l G K yX3_weigh (wsM yX3_weigh cX3_weigh 5 none) rmX3_weigh [aR (b + 47)] M none res := by
  refine ct_of RX3 (by decide +kernel) rfl (hK ▸ kP_ok) hM ha (Nat.le_of_ble_eq_true rfl) hF ?_
  intro X C hl hG hX0 hN hR hq
  have hX : xK X = kP := hX0.trans hK
  show Im X 1 11264 0 [(0, aR (b + 47))] [] M res (pFiles_weigh b M)
  unfold pFiles_weigh
  have hl1 : 1 < xn X := by rw [hN]; decide
  have hl2 : 2 < xn X := by rw [hN]; decide
  have hl3 : 3 < xn X := by rw [hN]; decide
  have hl4 : 4 < xn X := by rw [hN]; decide
  have hRm : ∀ {rm : Room} {ny : Nat}, RmOk rmX3_weigh rm ny → RmOk (xR X) rm ny := fun h => by rw [hR]; exact h
  refine i_iconst C dX3_weigh_0 kI_1 ?_
  refine i_aload_n C dX3_weigh_1 rfl (q := 0) rfl ?_
  refine i_getR C (k := 0) kX3 dX3_weigh_2 (shP_47 hX hb) rfl (by decide) fl_X3_9 ?_
  refine i_iconst C dX3_weigh_5 kI_1 ?_
  refine i_ald C dX3_weigh_6 (shP_48 hX hb) (fun v1 => ?_)
  refine i_ishl C dX3_weigh_7 ?_
  refine i_nm (fun v2 => ?_)
  refine i_istore_n C dX3_weigh_8 rfl hl1 (L' := [(0, aR (b + 47)), (1, aI v2)]) rfl ?_
  refine i_aload_n C dX3_weigh_9 rfl (q := 0) rfl ?_
  refine i_getR C (k := 0) kX3 dX3_weigh_10 (shP_47 hX hb) rfl (by decide) fl_X3_9 ?_
  refine i_iconst C dX3_weigh_13 kI_0 ?_
  refine i_ald C dX3_weigh_14 (shP_48 hX hb) (fun v3 => ?_)
  refine i_iconst C dX3_weigh_15 kI_1 ?_
  refine i_iadd C dX3_weigh_16 ?_
  refine i_iload_n C dX3_weigh_17 rfl (q := 1) rfl ?_
  refine i_imul C dX3_weigh_18 ?_
  refine i_nm (fun v4 => ?_)
  refine i_istore_n C dX3_weigh_19 rfl hl2 (L' := [(0, aR (b + 47)), (1, aI v2), (2, aI v4)]) rfl ?_
  refine i_aload_n C dX3_weigh_20 rfl (q := 0) rfl ?_
  refine i_getB C (k := 6) kX3 dX3_weigh_21 (shP_47 hX hb) rfl (by decide) fl_X3_31 ?_
  refine i_alenB C dX3_weigh_24 (inBa hX hb) ?_
  refine i_iload_n C dX3_weigh_25 rfl (q := 2) rfl ?_
  refine i_jn (fun j => ∀  (M6 : Mem), Im X 0 0 36 [(0, aR (b + 47)), (1, aI v2), (2, aI v4)] [] M6 res (j  M6)) ?_ (fun j5 hj5 => ?_)
  · intro  M6
    refine i_aload_n C dX3_weigh_36 rfl (q := 0) rfl ?_
    refine i_getB C (k := 6) kX3 dX3_weigh_37 (shP_47 hX hb) rfl (by decide) fl_X3_31 ?_
    refine i_aload_n C dX3_weigh_40 rfl (q := 0) rfl ?_
    refine i_getR C (k := 0) kX3 dX3_weigh_41 (shP_47 hX hb) rfl (by decide) fl_X3_9 ?_
    refine i_iconst C dX3_weigh_44 kI_0 ?_
    refine i_ald C dX3_weigh_45 (shP_48 hX hb) (fun v7 => ?_)
    refine i_iload_n C dX3_weigh_46 rfl (q := 1) rfl ?_
    refine i_imul C dX3_weigh_47 ?_
    refine i_iload_n C dX3_weigh_48 rfl (q := 2) rfl ?_
    refine i_iconst C dX3_weigh_49 kI_0 ?_
    refine i_cV (kc' := 0) (ks' := 0) 0 0 4 (fun q hq hM hS => crS C (as := [aB b, aI (w32 (v7 * v2)), aI v4, aI 0]) dX3_weigh_50.1 ml_X3_67 cal_J7_fillB st_J7_fillB (hRm ⟨Nat.le_of_ble_eq_true rfl, Nat.le_of_ble_eq_true rfl⟩) rfl (Nat.le_of_ble_eq_true rfl) (c_J7_fillB (xl X) (xG X) hX hb hM ⟨hS.2.2.2.1, hS.2.2.1, hS.2.1, hS.1, trivial⟩ hq)) (Nat.le_of_ble_eq_true rfl) (Nat.le_of_ble_eq_true rfl) rfl rfl rfl (fun M8 => ?_)
    refine i_aload_n C dX3_weigh_53 rfl (q := 0) rfl ?_
    refine i_getR C (k := 0) kX3 dX3_weigh_54 (shP_47 hX hb) rfl (by decide) fl_X3_9 ?_
    refine i_iconst C dX3_weigh_57 kI_0 ?_
    refine i_ald C dX3_weigh_58 (shP_48 hX hb) (fun v9 => ?_)
    refine i_iconst C dX3_weigh_59 kI_1 ?_
    refine i_isub C dX3_weigh_60 ?_
    refine i_nm (fun v10 => ?_)
    refine i_istore_n C dX3_weigh_61 rfl hl3 (L' := [(0, aR (b + 47)), (1, aI v2), (2, aI v4), (3, aI v10)]) rfl ?_
    exact i_sub [0, 1, 3] rfl (w_X3_weigh_62 C hX hN hR hb hq v2 FU v10 M8)
  refine i_icmp_ge (tgt := 36) C dX3_weigh_26 (by decide) ?_ ?_
  · exact i_wk (Nat.zero_le _) (Nat.zero_le _) ((hj5  M))
  · refine i_aload_n C dX3_weigh_29 rfl (q := 0) rfl ?_
    refine i_iload_n C dX3_weigh_30 rfl (q := 2) rfl ?_
    refine i_newB (kc' := 0) (ks' := 0) C hX hb dX3_weigh_31 dX3_weigh_33 ac_int fl_X3_31 (Nat.le_of_ble_eq_true rfl) (Nat.le_of_ble_eq_true rfl) rfl (fun M20 => ?_)
    exact (hj5  M20)
set_option maxRecDepth 100000 in
set_option maxHeartbeats 4000000 in
theorem w_X3_leastPartner_12 {X : Xc} (C : Cx X RX3 cX3_leastPartner (some .int)) (hX : xK X = kP) (hN : xn X = 6) (hR : xR X = rmX3_leastPartner) {b : Nat} (hb : isC b) {res : Int × Mem} (hq : Rq X (some (aI res.1)) res.2) (y1 : Int) (y2 : Int) (y3 : Int) : ∀ (n : Nat) (u4 : Int) (M : Mem), Im X 0 0 12 [(0, aR (b + 47)), (1, aI y1), (2, aI y2), (3, aI y3), (4, aI u4)] [] M res (lpX3_leastPartner_12 b y1 y2 y3 n u4 M) := by
  have hl3 : 3 < xn X := by rw [hN]; decide
  have hl4 : 4 < xn X := by rw [hN]; decide
  have hl5 : 5 < xn X := by rw [hN]; decide
  have hRm : ∀ {rm : Room} {ny : Nat}, RmOk rmX3_leastPartner rm ny → RmOk (xR X) rm ny := fun h => by rw [hR]; exact h
  intro n
  induction n with
  | zero => intro _ _; exact i_none
  | succ n ih =>
    intro u4 M
    unfold lpX3_leastPartner_12
    refine i_iload C dX3_leastPartner_12 (q := 4) rfl ?_
    refine i_aload_n C dX3_leastPartner_14 rfl (q := 0) rfl ?_
    refine i_getR C (k := 0) kX3 dX3_leastPartner_15 (shP_47 hX hb) rfl (by decide) fl_X3_9 ?_
    refine i_iconst C dX3_leastPartner_18 kI_1 ?_
    refine i_ald C dX3_leastPartner_19 (shP_48 hX hb) (fun v3 => ?_)
    refine i_icmp_ge (tgt := 95) C dX3_leastPartner_20 (by decide) ?_ ?_
    · refine i_ldc C dX3_leastPartner_95 kc_X3_63 kI_m1000000005 ?_
      exact i_iret C hq dX3_leastPartner_97
    · refine i_aload_n C dX3_leastPartner_23 rfl (q := 0) rfl ?_
      refine i_iload_n C dX3_leastPartner_24 rfl (q := 1) rfl ?_
      refine i_iload C dX3_leastPartner_25 (q := 4) rfl ?_
      refine i_cI (kc' := 0) (ks' := 0) 0 0 3 (fun q hq hM hS => crV C (as := [aI y1, aI u4]) dX3_leastPartner_27.1 kX3 (shP_47 hX hb) ml_X3_64 cal_X3_likeness cv_X3_likeness (hRm ⟨Nat.le_of_ble_eq_true rfl, Nat.le_of_ble_eq_true rfl⟩) rfl (Nat.le_of_ble_eq_true rfl) (c_X3_likeness (xl X) (xG X) hX hb hM ⟨hS.2.2.1, hS.2.1, hS.1, trivial⟩ hq)) (Nat.le_of_ble_eq_true rfl) (Nat.le_of_ble_eq_true rfl) rfl rfl rfl (fun v5 M4 => ?_)
      refine i_cI (kc' := 0) (ks' := 0) 0 0 1 (fun q hq hM hS => crS C (as := [aI v5]) dX3_leastPartner_30.1 ml_X3_74 cal_X3_worthOf st_X3_worthOf (hRm ⟨Nat.le_of_ble_eq_true rfl, Nat.le_of_ble_eq_true rfl⟩) rfl (Nat.le_of_ble_eq_true rfl) (c_X3_worthOf (xl X) (xG X) hX hM ⟨hS.1, trivial⟩ hq)) (Nat.le_of_ble_eq_true rfl) (Nat.le_of_ble_eq_true rfl) rfl rfl rfl (fun v7 M6 => ?_)
      refine i_istore C dX3_leastPartner_33 hl5 (L' := [(0, aR (b + 47)), (1, aI y1), (2, aI y2), (3, aI y3), (4, aI u4), (5, aI v7)]) rfl ?_
      refine i_iload C dX3_leastPartner_35 (q := 5) rfl ?_
      refine i_jn (fun j => ∀  (M9 : Mem), Im X 0 0 89 [(0, aR (b + 47)), (1, aI y1), (2, aI y2), (3, aI y3), (4, aI u4)] [] M9 res (j  M9)) ?_ (fun j8 hj8 => ?_)
      · intro  M9
        refine i_iincN (L' := fun v10 => [(0, aR (b + 47)), (1, aI y1), (2, aI y2), (3, aI y3), (4, aI v10)]) C dX3_leastPartner_89 (q := 4) rfl hl4 (fun _ => rfl) (fun v10 => ?_)
        refine i_goto (tgt := 12) C dX3_leastPartner_92 (by decide) ?_
        exact (ih v10 M9)
      refine i_if_eq (tgt := 89) C dX3_leastPartner_37 (by decide) ?_ ?_
      · exact i_sub [0, 1, 2, 3, 4] rfl (hj8  M6)
      · refine i_iload_n C dX3_leastPartner_40 rfl (q := 2) rfl ?_
        refine i_iload C dX3_leastPartner_41 (q := 4) rfl ?_
        refine i_ishr C dX3_leastPartner_43 ?_
        refine i_iconst C dX3_leastPartner_44 kI_1 ?_
        refine i_iand C dX3_leastPartner_45 ?_
        refine i_iconst C dX3_leastPartner_46 kI_1 ?_
        refine i_icmp_ne (tgt := 53) C dX3_leastPartner_47 (by decide) ?_ ?_
        · refine i_iload C dX3_leastPartner_53 (q := 5) rfl ?_
          refine i_aload_n C dX3_leastPartner_55 rfl (q := 0) rfl ?_
          refine i_getB C (k := 6) kX3 dX3_leastPartner_56 (shP_47 hX hb) rfl (by decide) fl_X3_31 ?_
          refine i_iload_n C dX3_leastPartner_59 rfl (q := 1) rfl ?_
          refine i_iconst C dX3_leastPartner_60 kI_1 ?_
          refine i_iadd C dX3_leastPartner_61 ?_
          refine i_iload_n C dX3_leastPartner_62 rfl (q := 3) rfl ?_
          refine i_imul C dX3_leastPartner_63 ?_
          refine i_iload_n C dX3_leastPartner_64 rfl (q := 2) rfl ?_
          refine i_iconst C dX3_leastPartner_65 kI_1 ?_
          refine i_iload C dX3_leastPartner_66 (q := 4) rfl ?_
          refine i_ishl C dX3_leastPartner_68 ?_
          refine i_ior C dX3_leastPartner_69 ?_
          refine i_iadd C dX3_leastPartner_70 ?_
          refine i_aldB C dX3_leastPartner_71 (inBa hX hb) (fun v11 => ?_)
          refine i_iadd C dX3_leastPartner_72 ?_
          refine i_aload_n C dX3_leastPartner_73 rfl (q := 0) rfl ?_
          refine i_getB C (k := 6) kX3 dX3_leastPartner_74 (shP_47 hX hb) rfl (by decide) fl_X3_31 ?_
          refine i_iload_n C dX3_leastPartner_77 rfl (q := 1) rfl ?_
          refine i_iload_n C dX3_leastPartner_78 rfl (q := 3) rfl ?_
          refine i_imul C dX3_leastPartner_79 ?_
          refine i_iload_n C dX3_leastPartner_80 rfl (q := 2) rfl ?_
          refine i_iadd C dX3_leastPartner_81 ?_
          refine i_aldB C dX3_leastPartner_82 (inBa hX hb) (fun v12 => ?_)
          refine i_icmp_ne (tgt := 89) C dX3_leastPartner_83 (by decide) ?_ ?_
          · exact i_sub [0, 1, 2, 3, 4] rfl (hj8  M6)
          · refine i_iload C dX3_leastPartner_86 (q := 4) rfl ?_
            exact i_iret C hq dX3_leastPartner_88
        · refine i_goto (tgt := 89) C dX3_leastPartner_50 (by decide) ?_
          exact i_sub [0, 1, 2, 3, 4] rfl (hj8  M6)
set_option maxRecDepth 100000 in
set_option maxHeartbeats 4000000 in
theorem c_X3_leastPartner (l : Launch) (G : Gx) {K : Kx} (hK : K = kP) {b : Nat} {x1 : Int} {x2 : Int} (hb : isC b) {M : Mem} {res : Int × Mem} (hM : OkM M) (ha : okS [aR (b + 47), aI x1, aI x2]) (hF : pFiles_leastPartner b x1 x2 M = some res) : Ct l G K yX3_leastPartner (wsM yX3_leastPartner cX3_leastPartner 6 (some .int)) rmX3_leastPartner [aR (b + 47), aI x1, aI x2] M (some (aI res.1)) res.2 := by
  refine ct_of RX3 (by decide +kernel) rfl (hK ▸ kP_ok) hM ha (Nat.le_of_ble_eq_true rfl) hF ?_
  intro X C hl hG hX0 hN hR hq
  have hX : xK X = kP := hX0.trans hK
  show Im X 0 0 0 [(0, aR (b + 47)), (1, aI x1), (2, aI x2)] [] M res (pFiles_leastPartner b x1 x2 M)
  unfold pFiles_leastPartner
  have hl3 : 3 < xn X := by rw [hN]; decide
  have hl4 : 4 < xn X := by rw [hN]; decide
  have hl5 : 5 < xn X := by rw [hN]; decide
  have hRm : ∀ {rm : Room} {ny : Nat}, RmOk rmX3_leastPartner rm ny → RmOk (xR X) rm ny := fun h => by rw [hR]; exact h
  refine i_iconst C dX3_leastPartner_0 kI_1 ?_
  refine i_aload_n C dX3_leastPartner_1 rfl (q := 0) rfl ?_
  refine i_getR C (k := 0) kX3 dX3_leastPartner_2 (shP_47 hX hb) rfl (by decide) fl_X3_9 ?_
  refine i_iconst C dX3_leastPartner_5 kI_1 ?_
  refine i_ald C dX3_leastPartner_6 (shP_48 hX hb) (fun v1 => ?_)
  refine i_ishl C dX3_leastPartner_7 ?_
  refine i_nm (fun v2 => ?_)
  refine i_istore_n C dX3_leastPartner_8 rfl hl3 (L' := [(0, aR (b + 47)), (1, aI x1), (2, aI x2), (3, aI v2)]) rfl ?_
  refine i_iconst C dX3_leastPartner_9 kI_0 ?_
  refine i_istore C dX3_leastPartner_10 hl4 (L' := [(0, aR (b + 47)), (1, aI x1), (2, aI x2), (3, aI v2), (4, aI 0)]) rfl ?_
  exact (w_X3_leastPartner_12 C hX hN hR hb hq x1 x2 v2 FU 0 M)
set_option maxRecDepth 100000 in
set_option maxHeartbeats 4000000 in
theorem w_X3_findPairs_24 {X : Xc} (C : Cx X RX3 cX3_findPairs none) (hX : xK X = kP) (hN : xn X = 4) (hR : xR X = rmX3_findPairs) {b : Nat} (hb : isC b) {res : Mem} (hq : Rq X none res) {k84 : Mem → Option (Mem)} (hk84 : ∀ (M : Mem), Im X 0 0 84 [(0, aR (b + 47))] [] M res (k84 M)) : ∀ (n : Nat) (u1 : Int) (u2 : Int) (M : Mem), Im X 0 0 24 [(0, aR (b + 47)), (1, aI u1), (2, aI u2)] [] M res (lpX3_findPairs_24 b k84 n u1 u2 M) := by
  have hl1 : 1 < xn X := by rw [hN]; decide
  have hl2 : 2 < xn X := by rw [hN]; decide
  have hl3 : 3 < xn X := by rw [hN]; decide
  have hRm : ∀ {rm : Room} {ny : Nat}, RmOk rmX3_findPairs rm ny → RmOk (xR X) rm ny := fun h => by rw [hR]; exact h
  intro n
  induction n with
  | zero => intro _ _ _; exact i_none
  | succ n ih =>
    intro u1 u2 M
    unfold lpX3_findPairs_24
    refine i_iload_n C dX3_findPairs_24 rfl (q := 2) rfl ?_
    refine i_aload_n C dX3_findPairs_25 rfl (q := 0) rfl ?_
    refine i_getR C (k := 0) kX3 dX3_findPairs_26 (shP_47 hX hb) rfl (by decide) fl_X3_9 ?_
    refine i_iconst C dX3_findPairs_29 kI_0 ?_
    refine i_ald C dX3_findPairs_30 (shP_48 hX hb) (fun v3 => ?_)
    refine i_icmp_ge (tgt := 84) C dX3_findPairs_31 (by decide) ?_ ?_
    · exact i_sub [0] rfl (hk84  M)
    · refine i_aload_n C dX3_findPairs_34 rfl (q := 0) rfl ?_
      refine i_iload_n C dX3_findPairs_35 rfl (q := 2) rfl ?_
      refine i_iload_n C dX3_findPairs_36 rfl (q := 1) rfl ?_
      refine i_cI (kc' := 0) (ks' := 0) 0 0 3 (fun q hq hM hS => crV C (as := [aI u2, aI u1]) dX3_findPairs_37.1 kX3 (shP_47 hX hb) ml_X3_60 cal_X3_leastPartner cv_X3_leastPartner (hRm ⟨Nat.le_of_ble_eq_true rfl, Nat.le_of_ble_eq_true rfl⟩) rfl (Nat.le_of_ble_eq_true rfl) (c_X3_leastPartner (xl X) (xG X) hX hb hM ⟨hS.2.2.1, hS.2.1, hS.1, trivial⟩ hq)) (Nat.le_of_ble_eq_true rfl) (Nat.le_of_ble_eq_true rfl) rfl rfl rfl (fun v5 M4 => ?_)
      refine i_istore_n C dX3_findPairs_40 rfl hl3 (L' := [(0, aR (b + 47)), (1, aI u1), (2, aI u2), (3, aI v5)]) rfl ?_
      refine i_aload_n C dX3_findPairs_41 rfl (q := 0) rfl ?_
      refine i_getR C (k := 4) kX3 dX3_findPairs_42 (shP_47 hX hb) rfl (by decide) fl_X3_24 ?_
      refine i_iload_n C dX3_findPairs_45 rfl (q := 2) rfl ?_
      refine i_iload_n C dX3_findPairs_46 rfl (q := 3) rfl ?_
      refine i_ast C dX3_findPairs_47 (shP_52 hX hb) (fun M6 => ?_)
      refine i_iload_n C dX3_findPairs_48 rfl (q := 3) rfl ?_
      refine i_ldc C dX3_findPairs_49 kc_X3_63 kI_m1000000005 ?_
      refine i_jn (fun j => ∀ (p7 : Int) (M9 : Mem), Im X 0 0 78 [(0, aR (b + 47)), (1, aI p7), (2, aI u2)] [] M9 res (j p7 M9)) ?_ (fun j8 hj8 => ?_)
      · intro p7 M9
        refine i_iincN (L' := fun v10 => [(0, aR (b + 47)), (1, aI p7), (2, aI v10)]) C dX3_findPairs_78 (q := 2) rfl hl2 (fun _ => rfl) (fun v10 => ?_)
        refine i_goto (tgt := 24) C dX3_findPairs_81 (by decide) ?_
        exact (ih p7 v10 M9)
      refine i_icmp_ne (tgt := 57) C dX3_findPairs_51 (by decide) ?_ ?_
      · refine i_aload_n C dX3_findPairs_57 rfl (q := 0) rfl ?_
        refine i_getR C (k := 3) kX3 dX3_findPairs_58 (shP_47 hX hb) rfl (by decide) fl_X3_21 ?_
        refine i_aload_n C dX3_findPairs_61 rfl (q := 0) rfl ?_
        refine i_iload_n C dX3_findPairs_62 rfl (q := 2) rfl ?_
        refine i_iload_n C dX3_findPairs_63 rfl (q := 3) rfl ?_
        refine i_cI (kc' := 0) (ks' := 0) 0 0 3 (fun q hq hM hS => crV C (as := [aI u2, aI v5]) dX3_findPairs_64.1 kX3 (shP_47 hX hb) ml_X3_64 cal_X3_likeness cv_X3_likeness (hRm ⟨Nat.le_of_ble_eq_true rfl, Nat.le_of_ble_eq_true rfl⟩) rfl (Nat.le_of_ble_eq_true rfl) (c_X3_likeness (xl X) (xG X) hX hb hM ⟨hS.2.2.1, hS.2.1, hS.1, trivial⟩ hq)) (Nat.le_of_ble_eq_true rfl) (Nat.le_of_ble_eq_true rfl) rfl rfl rfl (fun v12 M11 => ?_)
        refine i_dup2 C dX3_findPairs_67 rfl rfl ?_
        refine i_ald C dX3_findPairs_68 (shP_51 hX hb) (fun v13 => ?_)
        refine i_iconst C dX3_findPairs_69 kI_1 ?_
        refine i_iadd C dX3_findPairs_70 ?_
        refine i_ast C dX3_findPairs_71 (shP_51 hX hb) (fun M14 => ?_)
        refine i_iload_n C dX3_findPairs_72 rfl (q := 1) rfl ?_
        refine i_iconst C dX3_findPairs_73 kI_1 ?_
        refine i_iload_n C dX3_findPairs_74 rfl (q := 3) rfl ?_
        refine i_ishl C dX3_findPairs_75 ?_
        refine i_ior C dX3_findPairs_76 ?_
        refine i_nm (fun v15 => ?_)
        refine i_istore_n C dX3_findPairs_77 rfl hl1 (L' := [(0, aR (b + 47)), (1, aI v15), (2, aI u2), (3, aI v5)]) rfl ?_
        exact i_sub [0, 1, 2] rfl (hj8 v15 M14)
      · refine i_goto (tgt := 78) C dX3_findPairs_54 (by decide) ?_
        exact i_sub [0, 1, 2] rfl (hj8 u1 M6)
set_option maxRecDepth 100000 in
set_option maxHeartbeats 4000000 in
theorem c_X3_findPairs (l : Launch) (G : Gx) {K : Kx} (hK : K = kP) {b : Nat} (hb : isC b) {M : Mem} {res : Mem} (hM : OkM M) (ha : okS [aR (b + 47)]) (hF : pFiles_findPairs b M = some res) : Ct l G K yX3_findPairs (wsM yX3_findPairs cX3_findPairs 4 none) rmX3_findPairs [aR (b + 47)] M none res := by
  refine ct_of RX3 (by decide +kernel) rfl (hK ▸ kP_ok) hM ha (Nat.le_of_ble_eq_true rfl) hF ?_
  intro X C hl hG hX0 hN hR hq
  have hX : xK X = kP := hX0.trans hK
  show Im X 1 11264 0 [(0, aR (b + 47))] [] M res (pFiles_findPairs b M)
  unfold pFiles_findPairs
  have hl1 : 1 < xn X := by rw [hN]; decide
  have hl2 : 2 < xn X := by rw [hN]; decide
  have hl3 : 3 < xn X := by rw [hN]; decide
  have hRm : ∀ {rm : Room} {ny : Nat}, RmOk rmX3_findPairs rm ny → RmOk (xR X) rm ny := fun h => by rw [hR]; exact h
  refine i_aload_n C dX3_findPairs_0 rfl (q := 0) rfl ?_
  refine i_getI C (k := 5) kX3 dX3_findPairs_1 (shP_47 hX hb) rfl (by decide) fl_X3_27 rfl ?_
  refine i_if_eq (tgt := 8) C dX3_findPairs_4 (by decide) ?_ ?_
  · refine i_aload_n C dX3_findPairs_8 rfl (q := 0) rfl ?_
    refine i_cV (kc' := 0) (ks' := 0) 1 11264 1 (fun q hq hM hS => crV C (as := []) dX3_findPairs_9.1 kX3 (shP_47 hX hb) ml_X3_51 cal_X3_weigh cv_X3_weigh (hRm ⟨Nat.le_of_ble_eq_true rfl, Nat.le_of_ble_eq_true rfl⟩) rfl (Nat.le_of_ble_eq_true rfl) (c_X3_weigh (xl X) (xG X) hX hb hM ⟨hS.1, trivial⟩ hq)) (Nat.le_of_ble_eq_true rfl) (Nat.le_of_ble_eq_true rfl) rfl rfl rfl (fun M1 => ?_)
    refine i_aload_n C dX3_findPairs_12 rfl (q := 0) rfl ?_
    refine i_getR C (k := 3) kX3 dX3_findPairs_13 (shP_47 hX hb) rfl (by decide) fl_X3_21 ?_
    refine i_iconst C dX3_findPairs_16 kI_0 ?_
    refine i_cV (kc' := 0) (ks' := 0) 0 0 2 (fun q hq hM hS => crS C (as := [aR (b + 51), aI 0]) dX3_findPairs_17.1 ml_X3_54 cal_J7_fill_53178 st_J7_fill_53178 (hRm ⟨Nat.le_of_ble_eq_true rfl, Nat.le_of_ble_eq_true rfl⟩) rfl (Nat.le_of_ble_eq_true rfl) (c_J7_fill_53178 (xl X) (xG X) hX (shP_51 hX hb) hM ⟨hS.2.1, hS.1, trivial⟩ hq)) (Nat.le_of_ble_eq_true rfl) (Nat.le_of_ble_eq_true rfl) rfl rfl rfl (fun M2 => ?_)
    refine i_iconst C dX3_findPairs_20 kI_0 ?_
    refine i_istore_n C dX3_findPairs_21 rfl hl1 (L' := [(0, aR (b + 47)), (1, aI 0)]) rfl ?_
    refine i_iconst C dX3_findPairs_22 kI_0 ?_
    refine i_istore_n C dX3_findPairs_23 rfl hl2 (L' := [(0, aR (b + 47)), (1, aI 0), (2, aI 0)]) rfl ?_
    refine (w_X3_findPairs_24 C hX hN hR hb hq (fun M16 => ?_) FU 0 0 M2)
    refine i_aload_n C dX3_findPairs_84 rfl (q := 0) rfl ?_
    refine i_iconst C dX3_findPairs_85 kI_1 ?_
    refine i_putI C (k := 5) kX3 dX3_findPairs_86 (shP_47 hX hb) rfl (by decide) fl_X3_27 rfl (by decide) (by decide) rfl (fun M17 => ?_)
    exact i_vret C hq dX3_findPairs_89
  · exact i_vret C hq dX3_findPairs_7
set_option maxRecDepth 100000 in
set_option maxHeartbeats 4000000 in
theorem c_X4_has (l : Launch) (G : Gx) {K : Kx} (hK : K = kP) {b : Nat} {x1 : Int} (hb : isC b) {M : Mem} {res : Int × Mem} (hM : OkM M) (ha : okS [aR (b + 37), aI x1]) (hF : pLaws_has b x1 M = some res) : Ct l G K yX4_has (wsM yX4_has cX4_has 2 (some .boolean)) rmX4_has [aR (b + 37), aI x1] M (some (aI res.1)) res.2 := by
  refine ct_of RX4 (by decide +kernel) rfl (hK ▸ kP_ok) hM ha (Nat.le_of_ble_eq_true rfl) hF ?_
  intro X C hl hG hX0 hN hR hq
  have hX : xK X = kP := hX0.trans hK
  show Im X 0 0 0 [(0, aR (b + 37)), (1, aI x1)] [] M res (pLaws_has b x1 M)
  unfold pLaws_has
  refine i_iload_n C dX4_has_0 rfl (q := 1) rfl ?_
  refine i_if_lt (tgt := 16) C dX4_has_1 (by decide) ?_ ?_
  · refine i_iconst C dX4_has_16 kI_0 ?_
    exact i_zret C hq dX4_has_17 (Or.inl rfl)
  · refine i_iload_n C dX4_has_4 rfl (q := 1) rfl ?_
    refine i_aload_n C dX4_has_5 rfl (q := 0) rfl ?_
    refine i_getI C (k := 0) kX4 dX4_has_6 (shP_37 hX hb) rfl (by decide) fl_X4_9 rfl ?_
    refine i_icmp_ge (tgt := 16) C dX4_has_9 (by decide) ?_ ?_
    · refine i_iconst C dX4_has_16 kI_0 ?_
      exact i_zret C hq dX4_has_17 (Or.inl rfl)
    · refine i_iconst C dX4_has_12 kI_1 ?_
      refine i_goto (tgt := 17) C dX4_has_13 (by decide) ?_
      exact i_zret C hq dX4_has_17 (Or.inr rfl)
set_option maxRecDepth 100000 in
set_option maxHeartbeats 4000000 in
theorem c_X4_addText (l : Launch) (G : Gx) {K : Kx} (hK : K = kP) {b : Nat} {x2 : Int} {x3 : Int} (hb : isC b) {M : Mem} {res : Int × Mem} (hM : OkM M) (ha : okS [aR (b + 37), aR 1, aI x2, aI x3]) (hF : pLaws_addText b x2 x3 M = some res) : Ct l G K yX4_addText (wsM yX4_addText cX4_addText 4 (some .int)) rmX4_addText [aR (b + 37), aR 1, aI x2, aI x3] M (some (aI res.1)) res.2 := by
  refine ct_of RX4 (by decide +kernel) rfl (hK ▸ kP_ok) hM ha (Nat.le_of_ble_eq_true rfl) hF ?_
  intro X C hl hG hX0 hN hR hq
  have hX : xK X = kP := hX0.trans hK
  show Im X 0 0 0 [(0, aR (b + 37)), (1, aR 1), (2, aI x2), (3, aI x3)] [] M res (pLaws_addText b x2 x3 M)
  unfold pLaws_addText
  have hRj : 1 ≤ (xR X).frames ∧ 60 ≤ (xR X).locals := by rw [hR]; exact ⟨Nat.le_of_ble_eq_true rfl, Nat.le_of_ble_eq_true rfl⟩
  refine i_aload_n C dX4_addText_0 rfl (q := 0) rfl ?_
  refine i_getR C (k := 1) kX4 dX4_addText_1 (shP_37 hX hb) rfl (by decide) fl_X4_15 ?_
  refine i_aload_n C dX4_addText_4 rfl (q := 0) rfl ?_
  refine i_getI C (k := 0) kX4 dX4_addText_5 (shP_37 hX hb) rfl (by decide) fl_X4_9 rfl ?_
  refine i_aload_n C dX4_addText_8 rfl (q := 1) rfl ?_
  refine i_getI C (k := 2) kX8 dX4_addText_9 (shT_1 hX) rfl (by decide) fl_X4_47 rfl ?_
  refine i_ast C dX4_addText_12 (shP_38 hX hb) (fun M1 => ?_)
  refine i_aload_n C dX4_addText_13 rfl (q := 0) rfl ?_
  refine i_getR C (k := 2) kX4 dX4_addText_14 (shP_37 hX hb) rfl (by decide) fl_X4_19 ?_
  refine i_aload_n C dX4_addText_17 rfl (q := 0) rfl ?_
  refine i_getI C (k := 0) kX4 dX4_addText_18 (shP_37 hX hb) rfl (by decide) fl_X4_9 rfl ?_
  refine i_iload_n C dX4_addText_21 rfl (q := 2) rfl ?_
  refine i_ast C dX4_addText_22 (shP_39 hX hb) (fun M2 => ?_)
  refine i_aload_n C dX4_addText_23 rfl (q := 0) rfl ?_
  refine i_getR C (k := 3) kX4 dX4_addText_24 (shP_37 hX hb) rfl (by decide) fl_X4_22 ?_
  refine i_aload_n C dX4_addText_27 rfl (q := 0) rfl ?_
  refine i_getI C (k := 0) kX4 dX4_addText_28 (shP_37 hX hb) rfl (by decide) fl_X4_9 rfl ?_
  refine i_iload_n C dX4_addText_31 rfl (q := 3) rfl ?_
  refine i_ast C dX4_addText_32 (shP_40 hX hb) (fun M3 => ?_)
  refine i_aload_n C dX4_addText_33 rfl (q := 0) rfl ?_
  refine i_getR C (k := 4) kX4 dX4_addText_34 (shP_37 hX hb) rfl (by decide) fl_X4_25 ?_
  refine i_aload_n C dX4_addText_37 rfl (q := 0) rfl ?_
  refine i_getI C (k := 0) kX4 dX4_addText_38 (shP_37 hX hb) rfl (by decide) fl_X4_9 rfl ?_
  refine i_ldc C dX4_addText_41 kc_X4_51 kI_m1000000005 ?_
  refine i_ast C dX4_addText_43 (shP_41 hX hb) (fun M4 => ?_)
  refine i_aload_n C dX4_addText_44 rfl (q := 0) rfl ?_
  refine i_getR C (k := 5) kX4 dX4_addText_45 (shP_37 hX hb) rfl (by decide) fl_X4_28 ?_
  refine i_aload_n C dX4_addText_48 rfl (q := 0) rfl ?_
  refine i_getI C (k := 0) kX4 dX4_addText_49 (shP_37 hX hb) rfl (by decide) fl_X4_9 rfl ?_
  refine i_aload_n C dX4_addText_52 rfl (q := 1) rfl ?_
  refine i_getI C (k := 3) kX8 dX4_addText_53 (shT_1 hX) rfl (by decide) fl_X4_52 rfl ?_
  refine i_ast C dX4_addText_56 (shP_42 hX hb) (fun M5 => ?_)
  refine i_aload_n C dX4_addText_57 rfl (q := 0) rfl ?_
  refine i_getR C (k := 6) kX4 dX4_addText_58 (shP_37 hX hb) rfl (by decide) fl_X4_31 ?_
  refine i_aload_n C dX4_addText_61 rfl (q := 0) rfl ?_
  refine i_getI C (k := 0) kX4 dX4_addText_62 (shP_37 hX hb) rfl (by decide) fl_X4_9 rfl ?_
  refine i_aload_n C dX4_addText_65 rfl (q := 1) rfl ?_
  refine i_getI C (k := 4) kX8 dX4_addText_66 (shT_1 hX) rfl (by decide) fl_X4_54 rfl ?_
  refine i_ast C dX4_addText_69 (shP_43 hX hb) (fun M6 => ?_)
  refine i_aload_n C dX4_addText_70 rfl (q := 1) rfl ?_
  refine i_getR C (k := 5) kX8 dX4_addText_71 (shT_1 hX) rfl (by decide) fl_X4_56 ?_
  refine i_iconst C dX4_addText_74 kI_0 ?_
  refine i_aload_n C dX4_addText_75 rfl (q := 0) rfl ?_
  refine i_getR C (k := 7) kX4 dX4_addText_76 (shP_37 hX hb) rfl (by decide) fl_X4_34 ?_
  refine i_aload_n C dX4_addText_79 rfl (q := 0) rfl ?_
  refine i_getI C (k := 0) kX4 dX4_addText_80 (shP_37 hX hb) rfl (by decide) fl_X4_9 rfl ?_
  refine i_bipush C dX4_addText_83 kB_96 ?_
  refine i_imul C dX4_addText_85 ?_
  refine i_aload_n C dX4_addText_86 rfl (q := 1) rfl ?_
  refine i_getI C (k := 4) kX8 dX4_addText_87 (shT_1 hX) rfl (by decide) fl_X4_54 rfl ?_
  refine i_copy C hRj ml_X4_57 dX4_addText_90 (Nat.le_of_ble_eq_true rfl) (shT_3 hX) (shP_44 hX hb) (fun M7 => ?_)
  refine i_aload_n C dX4_addText_93 rfl (q := 0) rfl ?_
  refine i_dup C dX4_addText_94 rfl ?_
  refine i_getI C (k := 0) kX4 dX4_addText_95 (shP_37 hX hb) rfl (by decide) fl_X4_9 rfl ?_
  refine i_dup_x1 C dX4_addText_98 rfl rfl ?_
  refine i_iconst C dX4_addText_99 kI_1 ?_
  refine i_iadd C dX4_addText_100 ?_
  refine i_putI C (k := 0) kX4 dX4_addText_101 (shP_37 hX hb) rfl (by decide) fl_X4_9 rfl rfl rfl rfl (fun M8 => ?_)
  exact i_iret C hq dX4_addText_104
set_option maxRecDepth 100000 in
set_option maxHeartbeats 4000000 in
theorem w_X4_mentions_2 {X : Xc} (C : Cx X RX4 cX4_mentions (some .boolean)) (hX : xK X = kP) (hN : xn X = 4) (hR : xR X = rmX4_mentions) {b : Nat} (hb : isC b) {res : Int × Mem} (hq : Rq X (some (aI res.1)) res.2) (y1 : Int) (y2 : Int) : ∀ (n : Nat) (u3 : Int) (M : Mem), Im X 0 0 2 [(0, aR (b + 37)), (1, aI y1), (2, aI y2), (3, aI u3)] [] M res (lpX4_mentions_2 b y1 y2 n u3 M) := by
  have hl3 : 3 < xn X := by rw [hN]; decide
  intro n
  induction n with
  | zero => intro _ _; exact i_none
  | succ n ih =>
    intro u3 M
    unfold lpX4_mentions_2
    refine i_iload_n C dX4_mentions_2 rfl (q := 3) rfl ?_
    refine i_aload_n C dX4_mentions_3 rfl (q := 0) rfl ?_
    refine i_getR C (k := 6) kX4 dX4_mentions_4 (shP_37 hX hb) rfl (by decide) fl_X4_31 ?_
    refine i_iload_n C dX4_mentions_7 rfl (q := 1) rfl ?_
    refine i_ald C dX4_mentions_8 (shP_43 hX hb) (fun v1 => ?_)
    refine i_icmp_ge (tgt := 39) C dX4_mentions_9 (by decide) ?_ ?_
    · refine i_iconst C dX4_mentions_39 kI_0 ?_
      exact i_zret C hq dX4_mentions_40 (Or.inl rfl)
    · refine i_aload_n C dX4_mentions_12 rfl (q := 0) rfl ?_
      refine i_getR C (k := 7) kX4 dX4_mentions_13 (shP_37 hX hb) rfl (by decide) fl_X4_34 ?_
      refine i_iload_n C dX4_mentions_16 rfl (q := 1) rfl ?_
      refine i_bipush C dX4_mentions_17 kB_96 ?_
      refine i_imul C dX4_mentions_19 ?_
      refine i_iload_n C dX4_mentions_20 rfl (q := 3) rfl ?_
      refine i_iadd C dX4_mentions_21 ?_
      refine i_ald C dX4_mentions_22 (shP_44 hX hb) (fun v2 => ?_)
      refine i_sipush C dX4_mentions_23 kS_10000 ?_
      refine i_iload_n C dX4_mentions_26 rfl (q := 2) rfl ?_
      refine i_iadd C dX4_mentions_27 ?_
      refine i_icmp_ne (tgt := 33) C dX4_mentions_28 (by decide) ?_ ?_
      · refine i_iincN (L' := fun v3 => [(0, aR (b + 37)), (1, aI y1), (2, aI y2), (3, aI v3)]) C dX4_mentions_33 (q := 3) rfl hl3 (fun _ => rfl) (fun v3 => ?_)
        refine i_goto (tgt := 2) C dX4_mentions_36 (by decide) ?_
        exact (ih v3 M)
      · refine i_iconst C dX4_mentions_31 kI_1 ?_
        exact i_zret C hq dX4_mentions_32 (Or.inr rfl)
set_option maxRecDepth 100000 in
set_option maxHeartbeats 4000000 in
theorem c_X4_mentions (l : Launch) (G : Gx) {K : Kx} (hK : K = kP) {b : Nat} {x1 : Int} {x2 : Int} (hb : isC b) {M : Mem} {res : Int × Mem} (hM : OkM M) (ha : okS [aR (b + 37), aI x1, aI x2]) (hF : pLaws_mentions b x1 x2 M = some res) : Ct l G K yX4_mentions (wsM yX4_mentions cX4_mentions 4 (some .boolean)) rmX4_mentions [aR (b + 37), aI x1, aI x2] M (some (aI res.1)) res.2 := by
  refine ct_of RX4 (by decide +kernel) rfl (hK ▸ kP_ok) hM ha (Nat.le_of_ble_eq_true rfl) hF ?_
  intro X C hl hG hX0 hN hR hq
  have hX : xK X = kP := hX0.trans hK
  show Im X 0 0 0 [(0, aR (b + 37)), (1, aI x1), (2, aI x2)] [] M res (pLaws_mentions b x1 x2 M)
  unfold pLaws_mentions
  have hl3 : 3 < xn X := by rw [hN]; decide
  refine i_iconst C dX4_mentions_0 kI_0 ?_
  refine i_istore_n C dX4_mentions_1 rfl hl3 (L' := [(0, aR (b + 37)), (1, aI x1), (2, aI x2), (3, aI 0)]) rfl ?_
  exact (w_X4_mentions_2 C hX hN hR hb hq x1 x2 FU 0 M)
set_option maxRecDepth 100000 in
set_option maxHeartbeats 4000000 in
theorem w_X4_differ_83 {X : Xc} (C : Cx X RX4 cX4_differ (some .int)) (hX : xK X = kP) (hN : xn X = 13) (hR : xR X = rmX4_differ) {b : Nat} (hb : isC b) {res : Int × Mem} (hq : Rq X (some (aI res.1)) res.2) (y1 : Int) (y2 : Int) (y3 : Int) (y4 : Int) (y5 : Int) (y6 : Int) (y7 : Int) {k199 : Int → Mem → Option (Int × Mem)} {k175 : Int → Int → Int → Mem → Option (Int × Mem)} (hk199 : ∀ (q8 : Int) (M : Mem), Im X 0 0 199 [(3, aI y3), (5, aI y5), (6, aI y6), (7, aI y7), (8, aI q8)] [] M res (k199 q8 M)) (hk175 : ∀ (q10 : Int) (q11 : Int) (q12 : Int) (M : Mem), Im X 0 0 175 [(10, aI q10), (11, aI q11), (12, aI q12)] [] M res (k175 q10 q11 q12 M)) : ∀ (n : Nat) (u8 : Int) (u9 : Int) (M : Mem), Im X 0 0 83 [(0, aR (b + 37)), (1, aI y1), (2, aI y2), (3, aI y3), (4, aI y4), (5, aI y5), (6, aI y6), (7, aI y7), (8, aI u8), (9, aI u9)] [] M res (lpX4_differ_83 b y1 y2 y3 y4 y5 y6 y7 k199 k175 n u8 u9 M) := by
  have hl5 : 5 < xn X := by rw [hN]; decide
  have hl6 : 6 < xn X := by rw [hN]; decide
  have hl7 : 7 < xn X := by rw [hN]; decide
  have hl8 : 8 < xn X := by rw [hN]; decide
  have hl9 : 9 < xn X := by rw [hN]; decide
  have hl10 : 10 < xn X := by rw [hN]; decide
  have hl11 : 11 < xn X := by rw [hN]; decide
  have hl12 : 12 < xn X := by rw [hN]; decide
  have hRm : ∀ {rm : Room} {ny : Nat}, RmOk rmX4_differ rm ny → RmOk (xR X) rm ny := fun h => by rw [hR]; exact h
  intro n
  induction n with
  | zero => intro _ _ _; exact i_none
  | succ n ih =>
    intro u8 u9 M
    unfold lpX4_differ_83
    refine i_iload C dX4_differ_83 (q := 9) rfl ?_
    refine i_iload C dX4_differ_85 (q := 5) rfl ?_
    refine i_iload C dX4_differ_87 (q := 6) rfl ?_
    refine i_imul C dX4_differ_89 ?_
    refine i_iload C dX4_differ_90 (q := 7) rfl ?_
    refine i_imul C dX4_differ_92 ?_
    refine i_icmp_ge (tgt := 199) C dX4_differ_93 (by decide) ?_ ?_
    · exact i_sub [3, 5, 6, 7, 8] rfl (hk199 u8 M)
    · refine i_iload C dX4_differ_96 (q := 9) rfl ?_
      refine i_iload C dX4_differ_98 (q := 7) rfl ?_
      refine i_split (fun _ => i_none) (fun e16 => ?_)
      refine i_irem C dX4_differ_100 e16 ?_
      refine i_nm (fun v17 => ?_)
      refine i_istore C dX4_differ_101 hl10 (L' := [(0, aR (b + 37)), (1, aI y1), (2, aI y2), (3, aI y3), (4, aI y4), (5, aI y5), (6, aI y6), (7, aI y7), (8, aI u8), (9, aI u9), (10, aI v17)]) rfl ?_
      refine i_iload C dX4_differ_103 (q := 9) rfl ?_
      refine i_iload C dX4_differ_105 (q := 7) rfl ?_
      refine i_split (fun _ => i_none) (fun e18 => ?_)
      refine i_idiv C dX4_differ_107 e18 ?_
      refine i_iload C dX4_differ_108 (q := 6) rfl ?_
      refine i_split (fun _ => i_none) (fun e19 => ?_)
      refine i_irem C dX4_differ_110 e19 ?_
      refine i_nm (fun v20 => ?_)
      refine i_istore C dX4_differ_111 hl11 (L' := [(0, aR (b + 37)), (1, aI y1), (2, aI y2), (3, aI y3), (4, aI y4), (5, aI y5), (6, aI y6), (7, aI y7), (8, aI u8), (9, aI u9), (10, aI v17), (11, aI v20)]) rfl ?_
      refine i_iload C dX4_differ_113 (q := 9) rfl ?_
      refine i_iload C dX4_differ_115 (q := 7) rfl ?_
      refine i_split (fun _ => i_none) (fun e21 => ?_)
      refine i_idiv C dX4_differ_117 e21 ?_
      refine i_iload C dX4_differ_118 (q := 6) rfl ?_
      refine i_split (fun _ => i_none) (fun e22 => ?_)
      refine i_idiv C dX4_differ_120 e22 ?_
      refine i_nm (fun v23 => ?_)
      refine i_istore C dX4_differ_121 hl12 (L' := [(0, aR (b + 37)), (1, aI y1), (2, aI y2), (3, aI y3), (4, aI y4), (5, aI y5), (6, aI y6), (7, aI y7), (8, aI u8), (9, aI u9), (10, aI v17), (11, aI v20), (12, aI v23)]) rfl ?_
      refine i_aload_n C dX4_differ_123 rfl (q := 0) rfl ?_
      refine i_iload C dX4_differ_124 (q := 12) rfl ?_
      refine i_iload C dX4_differ_126 (q := 11) rfl ?_
      refine i_iload C dX4_differ_128 (q := 10) rfl ?_
      refine i_iload C dX4_differ_130 (q := 4) rfl ?_
      refine i_bipush C dX4_differ_132 kB_7 ?_
      refine i_irem C dX4_differ_134 (by decide) ?_
      refine i_cV (kc' := 0) (ks' := 0) 0 0 5 (fun q hq hM hS => crV C (as := [aI v23, aI v20, aI v17, aI (w32 (Int.tmod y4 7))]) dX4_differ_135.1 kX4 (shP_37 hX hb) ml_X4_78 cal_X4_setNames cv_X4_setNames (hRm ⟨Nat.le_of_ble_eq_true rfl, Nat.le_of_ble_eq_true rfl⟩) rfl (Nat.le_of_ble_eq_true rfl) (c_X4_setNames (xl X) (xG X) hX hb hM ⟨hS.2.2.2.2.1, hS.2.2.2.1, hS.2.2.1, hS.2.1, hS.1, trivial⟩ hq)) (Nat.le_of_ble_eq_true rfl) (Nat.le_of_ble_eq_true rfl) rfl rfl rfl (fun M24 => ?_)
      refine i_aload_n C dX4_differ_138 rfl (q := 0) rfl ?_
      refine i_iload_n C dX4_differ_139 rfl (q := 1) rfl ?_
      refine i_cI (kc' := 0) (ks' := 0) 0 0 2 (fun q hq hM hS => crV C (as := [aI y1]) dX4_differ_140.1 kX4 (shP_37 hX hb) ml_X4_82 cal_X4_valueOf cv_X4_valueOf (hRm ⟨Nat.le_of_ble_eq_true rfl, Nat.le_of_ble_eq_true rfl⟩) rfl (Nat.le_of_ble_eq_true rfl) (c_X4_valueOf (xl X) (xG X) hX hb hM ⟨hS.2.1, hS.1, trivial⟩ hq)) (Nat.le_of_ble_eq_true rfl) (Nat.le_of_ble_eq_true rfl) rfl rfl rfl (fun v26 M25 => ?_)
      refine i_jn (fun j => ∀ (p27 : Int) (M29 : Mem), Im X 0 0 151 [(0, aR (b + 37)), (1, aI y1), (2, aI y2), (3, aI y3), (4, aI y4), (5, aI y5), (6, aI y6), (7, aI y7), (8, aI u8), (9, aI u9), (10, aI v17), (11, aI v20), (12, aI v23)] [aI p27] M29 res (j p27 M29)) ?_ (fun j28 hj28 => ?_)
      · intro p27 M29
        refine i_aload_n C dX4_differ_151 rfl (q := 0) rfl ?_
        refine i_iload_n C dX4_differ_152 rfl (q := 2) rfl ?_
        refine i_cI (kc' := 0) (ks' := 0) 0 0 2 (fun q hq hM hS => crV C (as := [aI y2]) dX4_differ_153.1 kX4 (shP_37 hX hb) ml_X4_82 cal_X4_valueOf cv_X4_valueOf (hRm ⟨Nat.le_of_ble_eq_true rfl, Nat.le_of_ble_eq_true rfl⟩) rfl (Nat.le_of_ble_eq_true rfl) (c_X4_valueOf (xl X) (xG X) hX hb hM ⟨hS.2.1, hS.1, trivial⟩ hq)) (Nat.le_of_ble_eq_true rfl) (Nat.le_of_ble_eq_true rfl) rfl rfl rfl (fun v31 M30 => ?_)
        refine i_jn (fun j => ∀ (p32 : Int) (M34 : Mem), Im X 0 0 164 [(0, aR (b + 37)), (1, aI y1), (2, aI y2), (3, aI y3), (4, aI y4), (5, aI y5), (6, aI y6), (7, aI y7), (8, aI u8), (9, aI u9), (10, aI v17), (11, aI v20), (12, aI v23)] [aI p32, aI p27] M34 res (j p32 M34)) ?_ (fun j33 hj33 => ?_)
        · intro p32 M34
          refine i_jn (fun j => ∀ (p35 : Int) (M37 : Mem), Im X 0 0 193 [(0, aR (b + 37)), (1, aI y1), (2, aI y2), (3, aI y3), (4, aI y4), (5, aI y5), (6, aI y6), (7, aI y7), (8, aI p35), (9, aI u9)] [] M37 res (j p35 M37)) ?_ (fun j36 hj36 => ?_)
          · intro p35 M37
            refine i_iincN (L' := fun v38 => [(0, aR (b + 37)), (1, aI y1), (2, aI y2), (3, aI y3), (4, aI y4), (5, aI y5), (6, aI y6), (7, aI y7), (8, aI p35), (9, aI v38)]) C dX4_differ_193 (q := 9) rfl hl9 (fun _ => rfl) (fun v38 => ?_)
            refine i_goto (tgt := 83) C dX4_differ_196 (by decide) ?_
            exact (ih p35 v38 M37)
          refine i_icmp_ne (tgt := 170) C dX4_differ_164 (by decide) ?_ ?_
          · refine i_iload_n C dX4_differ_170 rfl (q := 3) rfl ?_
            refine i_iconst C dX4_differ_171 kI_1 ?_
            refine i_icmp_ne (tgt := 190) C dX4_differ_172 (by decide) ?_ ?_
            · refine i_iincN (L' := fun v39 => [(0, aR (b + 37)), (1, aI y1), (2, aI y2), (3, aI y3), (4, aI y4), (5, aI y5), (6, aI y6), (7, aI y7), (8, aI v39), (9, aI u9), (10, aI v17), (11, aI v20), (12, aI v23)]) C dX4_differ_190 (q := 8) rfl hl8 (fun _ => rfl) (fun v39 => ?_)
              exact i_sub [0, 1, 2, 3, 4, 5, 6, 7, 8, 9] rfl (hj36 v39 M34)
            · exact i_sub [10, 11, 12] rfl (hk175 v17 v20 v23 M34)
          · refine i_goto (tgt := 193) C dX4_differ_167 (by decide) ?_
            exact i_sub [0, 1, 2, 3, 4, 5, 6, 7, 8, 9] rfl (hj36 u8 M34)
        refine i_if_ne (tgt := 163) C dX4_differ_156 (by decide) ?_ ?_
        · refine i_iconst C dX4_differ_163 kI_0 ?_
          exact (hj33 0 M30)
        · refine i_iconst C dX4_differ_159 kI_1 ?_
          refine i_goto (tgt := 164) C dX4_differ_160 (by decide) ?_
          exact (hj33 1 M30)
      refine i_if_ne (tgt := 150) C dX4_differ_143 (by decide) ?_ ?_
      · refine i_iconst C dX4_differ_150 kI_0 ?_
        exact (hj28 0 M25)
      · refine i_iconst C dX4_differ_146 kI_1 ?_
        refine i_goto (tgt := 151) C dX4_differ_147 (by decide) ?_
        exact (hj28 1 M25)
set_option maxRecDepth 100000 in
set_option maxHeartbeats 4000000 in
theorem c_X4_differ (l : Launch) (G : Gx) {K : Kx} (hK : K = kP) {b : Nat} {x1 : Int} {x2 : Int} {x3 : Int} {x4 : Int} (hb : isC b) {M : Mem} {res : Int × Mem} (hM : OkM M) (ha : okS [aR (b + 37), aI x1, aI x2, aI x3, aI x4]) (hF : pLaws_differ b x1 x2 x3 x4 M = some res) : Ct l G K yX4_differ (wsM yX4_differ cX4_differ 13 (some .int)) rmX4_differ [aR (b + 37), aI x1, aI x2, aI x3, aI x4] M (some (aI res.1)) res.2 := by
  refine ct_of RX4 (by decide +kernel) rfl (hK ▸ kP_ok) hM ha (Nat.le_of_ble_eq_true rfl) hF ?_
  intro X C hl hG hX0 hN hR hq
  have hX : xK X = kP := hX0.trans hK
  show Im X 0 0 0 [(0, aR (b + 37)), (1, aI x1), (2, aI x2), (3, aI x3), (4, aI x4)] [] M res (pLaws_differ b x1 x2 x3 x4 M)
  unfold pLaws_differ
  have hl5 : 5 < xn X := by rw [hN]; decide
  have hl6 : 6 < xn X := by rw [hN]; decide
  have hl7 : 7 < xn X := by rw [hN]; decide
  have hl8 : 8 < xn X := by rw [hN]; decide
  have hl9 : 9 < xn X := by rw [hN]; decide
  have hl10 : 10 < xn X := by rw [hN]; decide
  have hl11 : 11 < xn X := by rw [hN]; decide
  have hl12 : 12 < xn X := by rw [hN]; decide
  have hRm : ∀ {rm : Room} {ny : Nat}, RmOk rmX4_differ rm ny → RmOk (xR X) rm ny := fun h => by rw [hR]; exact h
  refine i_aload_n C dX4_differ_0 rfl (q := 0) rfl ?_
  refine i_iload_n C dX4_differ_1 rfl (q := 1) rfl ?_
  refine i_iconst C dX4_differ_2 kI_0 ?_
  refine i_cI (kc' := 0) (ks' := 0) 0 0 3 (fun q hq hM hS => crV C (as := [aI x1, aI 0]) dX4_differ_3.1 kX4 (shP_37 hX hb) ml_X4_75 cal_X4_mentions cv_X4_mentions (hRm ⟨Nat.le_of_ble_eq_true rfl, Nat.le_of_ble_eq_true rfl⟩) rfl (Nat.le_of_ble_eq_true rfl) (c_X4_mentions (xl X) (xG X) hX hb hM ⟨hS.2.2.1, hS.2.1, hS.1, trivial⟩ hq)) (Nat.le_of_ble_eq_true rfl) (Nat.le_of_ble_eq_true rfl) rfl rfl rfl (fun v2 M1 => ?_)
  refine i_jn (fun j => ∀ (p3 : Int) (M5 : Mem), Im X 0 0 24 [(0, aR (b + 37)), (1, aI x1), (2, aI x2), (3, aI x3), (4, aI x4)] [aI p3] M5 res (j p3 M5)) ?_ (fun j4 hj4 => ?_)
  · intro p3 M5
    refine i_istore C dX4_differ_24 hl5 (L' := [(0, aR (b + 37)), (1, aI x1), (2, aI x2), (3, aI x3), (4, aI x4), (5, aI p3)]) rfl ?_
    refine i_aload_n C dX4_differ_26 rfl (q := 0) rfl ?_
    refine i_iload_n C dX4_differ_27 rfl (q := 1) rfl ?_
    refine i_iconst C dX4_differ_28 kI_1 ?_
    refine i_cI (kc' := 0) (ks' := 0) 0 0 3 (fun q hq hM hS => crV C (as := [aI x1, aI 1]) dX4_differ_29.1 kX4 (shP_37 hX hb) ml_X4_75 cal_X4_mentions cv_X4_mentions (hRm ⟨Nat.le_of_ble_eq_true rfl, Nat.le_of_ble_eq_true rfl⟩) rfl (Nat.le_of_ble_eq_true rfl) (c_X4_mentions (xl X) (xG X) hX hb hM ⟨hS.2.2.1, hS.2.1, hS.1, trivial⟩ hq)) (Nat.le_of_ble_eq_true rfl) (Nat.le_of_ble_eq_true rfl) rfl rfl rfl (fun v7 M6 => ?_)
    refine i_jn (fun j => ∀ (p8 : Int) (M10 : Mem), Im X 0 0 49 [(0, aR (b + 37)), (1, aI x1), (2, aI x2), (3, aI x3), (4, aI x4), (5, aI p3)] [aI p8] M10 res (j p8 M10)) ?_ (fun j9 hj9 => ?_)
    · intro p8 M10
      refine i_istore C dX4_differ_49 hl6 (L' := [(0, aR (b + 37)), (1, aI x1), (2, aI x2), (3, aI x3), (4, aI x4), (5, aI p3), (6, aI p8)]) rfl ?_
      refine i_aload_n C dX4_differ_51 rfl (q := 0) rfl ?_
      refine i_iload_n C dX4_differ_52 rfl (q := 1) rfl ?_
      refine i_iconst C dX4_differ_53 kI_2 ?_
      refine i_cI (kc' := 0) (ks' := 0) 0 0 3 (fun q hq hM hS => crV C (as := [aI x1, aI 2]) dX4_differ_54.1 kX4 (shP_37 hX hb) ml_X4_75 cal_X4_mentions cv_X4_mentions (hRm ⟨Nat.le_of_ble_eq_true rfl, Nat.le_of_ble_eq_true rfl⟩) rfl (Nat.le_of_ble_eq_true rfl) (c_X4_mentions (xl X) (xG X) hX hb hM ⟨hS.2.2.1, hS.2.1, hS.1, trivial⟩ hq)) (Nat.le_of_ble_eq_true rfl) (Nat.le_of_ble_eq_true rfl) rfl rfl rfl (fun v12 M11 => ?_)
      refine i_jn (fun j => ∀ (p13 : Int) (M15 : Mem), Im X 0 0 75 [(0, aR (b + 37)), (1, aI x1), (2, aI x2), (3, aI x3), (4, aI x4), (5, aI p3), (6, aI p8)] [aI p13] M15 res (j p13 M15)) ?_ (fun j14 hj14 => ?_)
      · intro p13 M15
        refine i_istore C dX4_differ_75 hl7 (L' := [(0, aR (b + 37)), (1, aI x1), (2, aI x2), (3, aI x3), (4, aI x4), (5, aI p3), (6, aI p8), (7, aI p13)]) rfl ?_
        refine i_iconst C dX4_differ_77 kI_0 ?_
        refine i_istore C dX4_differ_78 hl8 (L' := [(0, aR (b + 37)), (1, aI x1), (2, aI x2), (3, aI x3), (4, aI x4), (5, aI p3), (6, aI p8), (7, aI p13), (8, aI 0)]) rfl ?_
        refine i_iconst C dX4_differ_80 kI_0 ?_
        refine i_istore C dX4_differ_81 hl9 (L' := [(0, aR (b + 37)), (1, aI x1), (2, aI x2), (3, aI x3), (4, aI x4), (5, aI p3), (6, aI p8), (7, aI p13), (8, aI 0), (9, aI 0)]) rfl ?_
        refine (w_X4_differ_83 C hX hN hR hb hq x1 x2 x3 x4 p3 p8 p13 (fun v40 M41 => ?_) (fun v45 v46 v47 M48 => ?_) FU 0 0 M15)
        · refine i_iload_n C dX4_differ_199 rfl (q := 0) rfl ?_
          refine i_iconst C dX4_differ_200 kI_1 ?_
          refine i_icmp_ne (tgt := 209) C dX4_differ_201 (by decide) ?_ ?_
          · refine i_iload C dX4_differ_209 (q := 4) rfl ?_
            refine i_bipush C dX4_differ_211 kB_100 ?_
            refine i_iload C dX4_differ_213 (q := 1) rfl ?_
            refine i_split (fun _ => i_none) (fun e42 => ?_)
            refine i_idiv C dX4_differ_215 e42 ?_
            refine i_imul C dX4_differ_216 ?_
            refine i_iconst C dX4_differ_217 kI_4 ?_
            refine i_iload C dX4_differ_218 (q := 2) rfl ?_
            refine i_split (fun _ => i_none) (fun e43 => ?_)
            refine i_idiv C dX4_differ_220 e43 ?_
            refine i_imul C dX4_differ_221 ?_
            refine i_bipush C dX4_differ_222 kB_10 ?_
            refine i_iload C dX4_differ_224 (q := 3) rfl ?_
            refine i_split (fun _ => i_none) (fun e44 => ?_)
            refine i_idiv C dX4_differ_226 e44 ?_
            refine i_imul C dX4_differ_227 ?_
            exact i_iret C hq dX4_differ_228
          · refine i_ldc C dX4_differ_204 kc_X4_51 kI_m1000000005 ?_
            refine i_goto (tgt := 228) C dX4_differ_206 (by decide) ?_
            exact i_iret C hq dX4_differ_228
        · refine i_bipush C dX4_differ_175 kB_100 ?_
          refine i_iload C dX4_differ_177 (q := 2) rfl ?_
          refine i_imul C dX4_differ_179 ?_
          refine i_bipush C dX4_differ_180 kB_10 ?_
          refine i_iload C dX4_differ_182 (q := 1) rfl ?_
          refine i_imul C dX4_differ_184 ?_
          refine i_iadd C dX4_differ_185 ?_
          refine i_iload C dX4_differ_186 (q := 0) rfl ?_
          refine i_iadd C dX4_differ_188 ?_
          exact i_iret C hq dX4_differ_189
      refine i_jn (fun j => ∀  (M50 : Mem), Im X 0 0 69 [(0, aR (b + 37)), (1, aI x1), (2, aI x2), (3, aI x3), (4, aI x4), (5, aI p3), (6, aI p8)] [] M50 res (j  M50)) ?_ (fun j49 hj49 => ?_)
      · intro  M50
        refine i_bipush C dX4_differ_69 kB_10 ?_
        refine i_goto (tgt := 75) C dX4_differ_71 (by decide) ?_
        exact (hj14 10 M50)
      refine i_if_ne (tgt := 69) C dX4_differ_57 (by decide) ?_ ?_
      · exact (hj49  M11)
      · refine i_aload_n C dX4_differ_60 rfl (q := 0) rfl ?_
        refine i_iload_n C dX4_differ_61 rfl (q := 2) rfl ?_
        refine i_iconst C dX4_differ_62 kI_2 ?_
        refine i_cI (kc' := 0) (ks' := 0) 0 0 3 (fun q hq hM hS => crV C (as := [aI x2, aI 2]) dX4_differ_63.1 kX4 (shP_37 hX hb) ml_X4_75 cal_X4_mentions cv_X4_mentions (hRm ⟨Nat.le_of_ble_eq_true rfl, Nat.le_of_ble_eq_true rfl⟩) rfl (Nat.le_of_ble_eq_true rfl) (c_X4_mentions (xl X) (xG X) hX hb hM ⟨hS.2.2.1, hS.2.1, hS.1, trivial⟩ hq)) (Nat.le_of_ble_eq_true rfl) (Nat.le_of_ble_eq_true rfl) rfl rfl rfl (fun v52 M51 => ?_)
        refine i_if_eq (tgt := 74) C dX4_differ_66 (by decide) ?_ ?_
        · refine i_iconst C dX4_differ_74 kI_1 ?_
          exact (hj14 1 M51)
        · exact (hj49  M51)
    refine i_jn (fun j => ∀  (M54 : Mem), Im X 0 0 44 [(0, aR (b + 37)), (1, aI x1), (2, aI x2), (3, aI x3), (4, aI x4), (5, aI p3)] [] M54 res (j  M54)) ?_ (fun j53 hj53 => ?_)
    · intro  M54
      refine i_iconst C dX4_differ_44 kI_4 ?_
      refine i_goto (tgt := 49) C dX4_differ_45 (by decide) ?_
      exact (hj9 4 M54)
    refine i_if_ne (tgt := 44) C dX4_differ_32 (by decide) ?_ ?_
    · exact (hj53  M6)
    · refine i_aload_n C dX4_differ_35 rfl (q := 0) rfl ?_
      refine i_iload_n C dX4_differ_36 rfl (q := 2) rfl ?_
      refine i_iconst C dX4_differ_37 kI_1 ?_
      refine i_cI (kc' := 0) (ks' := 0) 0 0 3 (fun q hq hM hS => crV C (as := [aI x2, aI 1]) dX4_differ_38.1 kX4 (shP_37 hX hb) ml_X4_75 cal_X4_mentions cv_X4_mentions (hRm ⟨Nat.le_of_ble_eq_true rfl, Nat.le_of_ble_eq_true rfl⟩) rfl (Nat.le_of_ble_eq_true rfl) (c_X4_mentions (xl X) (xG X) hX hb hM ⟨hS.2.2.1, hS.2.1, hS.1, trivial⟩ hq)) (Nat.le_of_ble_eq_true rfl) (Nat.le_of_ble_eq_true rfl) rfl rfl rfl (fun v56 M55 => ?_)
      refine i_if_eq (tgt := 48) C dX4_differ_41 (by decide) ?_ ?_
      · refine i_iconst C dX4_differ_48 kI_1 ?_
        exact (hj9 1 M55)
      · exact (hj53  M55)
  refine i_jn (fun j => ∀  (M58 : Mem), Im X 0 0 18 [(0, aR (b + 37)), (1, aI x1), (2, aI x2), (3, aI x3), (4, aI x4)] [] M58 res (j  M58)) ?_ (fun j57 hj57 => ?_)
  · intro  M58
    refine i_bipush C dX4_differ_18 kB_100 ?_
    refine i_goto (tgt := 24) C dX4_differ_20 (by decide) ?_
    exact (hj4 100 M58)
  refine i_if_ne (tgt := 18) C dX4_differ_6 (by decide) ?_ ?_
  · exact (hj57  M1)
  · refine i_aload_n C dX4_differ_9 rfl (q := 0) rfl ?_
    refine i_iload_n C dX4_differ_10 rfl (q := 2) rfl ?_
    refine i_iconst C dX4_differ_11 kI_0 ?_
    refine i_cI (kc' := 0) (ks' := 0) 0 0 3 (fun q hq hM hS => crV C (as := [aI x2, aI 0]) dX4_differ_12.1 kX4 (shP_37 hX hb) ml_X4_75 cal_X4_mentions cv_X4_mentions (hRm ⟨Nat.le_of_ble_eq_true rfl, Nat.le_of_ble_eq_true rfl⟩) rfl (Nat.le_of_ble_eq_true rfl) (c_X4_mentions (xl X) (xG X) hX hb hM ⟨hS.2.2.1, hS.2.1, hS.1, trivial⟩ hq)) (Nat.le_of_ble_eq_true rfl) (Nat.le_of_ble_eq_true rfl) rfl rfl rfl (fun v60 M59 => ?_)
    refine i_if_eq (tgt := 23) C dX4_differ_15 (by decide) ?_ ?_
    · refine i_iconst C dX4_differ_23 kI_1 ?_
      exact (hj4 1 M59)
    · exact (hj57  M59)
set_option maxRecDepth 100000 in
set_option maxHeartbeats 4000000 in
theorem c_X5_renew (l : Launch) (G : Gx) {K : Kx} (hK : K = kP) {x1 : Int} {x2 : Int} {x3 : Int} {M : Mem} {res : Int × Mem} (hM : OkM M) (ha : okS [aR 5, aI x1, aI x2, aI x3]) (hF : pMeters_renew x1 x2 x3 M = some res) : Ct l G K yX5_renew (wsM yX5_renew cX5_renew 4 (some .int)) rmX5_renew [aR 5, aI x1, aI x2, aI x3] M (some (aI res.1)) res.2 := by
  refine ct_of RX5 (by decide +kernel) rfl (hK ▸ kP_ok) hM ha (Nat.le_of_ble_eq_true rfl) hF ?_
  intro X C hl hG hX0 hN hR hq
  have hX : xK X = kP := hX0.trans hK
  show Im X 0 0 0 [(0, aR 5), (1, aI x1), (2, aI x2), (3, aI x3)] [] M res (pMeters_renew x1 x2 x3 M)
  unfold pMeters_renew
  have hRm : ∀ {rm : Room} {ny : Nat}, RmOk rmX5_renew rm ny → RmOk (xR X) rm ny := fun h => by rw [hR]; exact h
  refine i_aload_n C dX5_renew_0 rfl (q := 0) rfl ?_
  refine i_getR C (k := 0) kX5 dX5_renew_1 (shT_5 hX) rfl (by decide) fl_X5_9 ?_
  refine i_iload_n C dX5_renew_4 rfl (q := 1) rfl ?_
  refine i_iload_n C dX5_renew_5 rfl (q := 2) rfl ?_
  refine i_ast C dX5_renew_6 (shT_6 hX) (fun M1 => ?_)
  refine i_aload_n C dX5_renew_7 rfl (q := 0) rfl ?_
  refine i_getR C (k := 1) kX5 dX5_renew_8 (shT_5 hX) rfl (by decide) fl_X5_15 ?_
  refine i_iload_n C dX5_renew_11 rfl (q := 1) rfl ?_
  refine i_iload_n C dX5_renew_12 rfl (q := 3) rfl ?_
  refine i_ast C dX5_renew_13 (shT_7 hX) (fun M2 => ?_)
  refine i_aload_n C dX5_renew_14 rfl (q := 0) rfl ?_
  refine i_getR C (k := 2) kX5 dX5_renew_15 (shT_5 hX) rfl (by decide) fl_X5_18 ?_
  refine i_iload_n C dX5_renew_18 rfl (q := 1) rfl ?_
  refine i_bipush C dX5_renew_19 kB_30 ?_
  refine i_imul C dX5_renew_21 ?_
  refine i_iload_n C dX5_renew_22 rfl (q := 1) rfl ?_
  refine i_bipush C dX5_renew_23 kB_30 ?_
  refine i_imul C dX5_renew_25 ?_
  refine i_bipush C dX5_renew_26 kB_30 ?_
  refine i_iadd C dX5_renew_28 ?_
  refine i_iconst C dX5_renew_29 kI_0 ?_
  refine i_cV (kc' := 0) (ks' := 0) 0 0 4 (fun q hq hM hS => crS C (as := [aR 8, aI (w32 (x1 * 30)), aI (w32 ((w32 (x1 * 30)) + 30)), aI 0]) dX5_renew_30.1 ml_X5_21 cal_J7_fill_fda19 st_J7_fill_fda19 (hRm ⟨Nat.le_of_ble_eq_true rfl, Nat.le_of_ble_eq_true rfl⟩) rfl (Nat.le_of_ble_eq_true rfl) (c_J7_fill_fda19 (xl X) (xG X) hX (shT_8 hX) hM ⟨hS.2.2.2.1, hS.2.2.1, hS.2.1, hS.1, trivial⟩ hq)) (Nat.le_of_ble_eq_true rfl) (Nat.le_of_ble_eq_true rfl) rfl rfl rfl (fun M3 => ?_)
  refine i_iload_n C dX5_renew_33 rfl (q := 3) rfl ?_
  exact i_iret C hq dX5_renew_34
set_option maxRecDepth 100000 in
set_option maxHeartbeats 4000000 in
theorem c_X5_finding (l : Launch) (G : Gx) {K : Kx} (hK : K = kP) {x1 : Int} {x2 : Int} {M : Mem} {res : Int × Mem} (hM : OkM M) (ha : okS [aR 5, aI x1, aI x2]) (hF : pMeters_finding x1 x2 M = some res) : Ct l G K yX5_finding (wsM yX5_finding cX5_finding 3 (some .int)) rmX5_finding [aR 5, aI x1, aI x2] M (some (aI res.1)) res.2 := by
  refine ct_of RX5 (by decide +kernel) rfl (hK ▸ kP_ok) hM ha (Nat.le_of_ble_eq_true rfl) hF ?_
  intro X C hl hG hX0 hN hR hq
  have hX : xK X = kP := hX0.trans hK
  show Im X 0 0 0 [(0, aR 5), (1, aI x1), (2, aI x2)] [] M res (pMeters_finding x1 x2 M)
  unfold pMeters_finding
  refine i_aload_n C dX5_finding_0 rfl (q := 0) rfl ?_
  refine i_getR C (k := 0) kX5 dX5_finding_1 (shT_5 hX) rfl (by decide) fl_X5_9 ?_
  refine i_iload_n C dX5_finding_4 rfl (q := 1) rfl ?_
  refine i_ald C dX5_finding_5 (shT_6 hX) (fun v1 => ?_)
  refine i_if_ge (tgt := 12) C dX5_finding_6 (by decide) ?_ ?_
  · refine i_iload_n C dX5_finding_12 rfl (q := 2) rfl ?_
    refine i_if_lt (tgt := 26) C dX5_finding_13 (by decide) ?_ ?_
    · refine i_ldc C dX5_finding_26 kc_X5_28 kI_m1000000013 ?_
      refine i_goto (tgt := 32) C dX5_finding_28 (by decide) ?_
      exact i_iret C hq dX5_finding_32
    · refine i_iload_n C dX5_finding_16 rfl (q := 2) rfl ?_
      refine i_aload_n C dX5_finding_17 rfl (q := 0) rfl ?_
      refine i_getR C (k := 1) kX5 dX5_finding_18 (shT_5 hX) rfl (by decide) fl_X5_15 ?_
      refine i_iload_n C dX5_finding_21 rfl (q := 1) rfl ?_
      refine i_ald C dX5_finding_22 (shT_7 hX) (fun v2 => ?_)
      refine i_icmp_lt (tgt := 31) C dX5_finding_23 (by decide) ?_ ?_
      · refine i_iconst C dX5_finding_31 kI_0 ?_
        exact i_iret C hq dX5_finding_32
      · refine i_ldc C dX5_finding_26 kc_X5_28 kI_m1000000013 ?_
        refine i_goto (tgt := 32) C dX5_finding_28 (by decide) ?_
        exact i_iret C hq dX5_finding_32
  · refine i_ldc C dX5_finding_9 kc_X5_27 kI_m1000000011 ?_
    exact i_iret C hq dX5_finding_11
set_option maxRecDepth 100000 in
set_option maxHeartbeats 4000000 in
theorem c_X5_holds (l : Launch) (G : Gx) {K : Kx} (hK : K = kP) {x1 : Int} {x2 : Int} {x3 : Int} {M : Mem} {res : Int × Mem} (hM : OkM M) (ha : okS [aR 5, aI x1, aI x2, aI x3]) (hF : pMeters_holds x1 x2 x3 M = some res) : Ct l G K yX5_holds (wsM yX5_holds cX5_holds 4 (some .boolean)) rmX5_holds [aR 5, aI x1, aI x2, aI x3] M (some (aI res.1)) res.2 := by
  refine ct_of RX5 (by decide +kernel) rfl (hK ▸ kP_ok) hM ha (Nat.le_of_ble_eq_true rfl) hF ?_
  intro X C hl hG hX0 hN hR hq
  have hX : xK X = kP := hX0.trans hK
  show Im X 0 0 0 [(0, aR 5), (1, aI x1), (2, aI x2), (3, aI x3)] [] M res (pMeters_holds x1 x2 x3 M)
  unfold pMeters_holds
  refine i_iload_n C dX5_holds_0 rfl (q := 3) rfl ?_
  refine i_if_lt (tgt := 34) C dX5_holds_1 (by decide) ?_ ?_
  · refine i_iconst C dX5_holds_34 kI_0 ?_
    exact i_zret C hq dX5_holds_35 (Or.inl rfl)
  · refine i_iload_n C dX5_holds_4 rfl (q := 2) rfl ?_
    refine i_if_lt (tgt := 34) C dX5_holds_5 (by decide) ?_ ?_
    · refine i_iconst C dX5_holds_34 kI_0 ?_
      exact i_zret C hq dX5_holds_35 (Or.inl rfl)
    · refine i_iload_n C dX5_holds_8 rfl (q := 3) rfl ?_
      refine i_aload_n C dX5_holds_9 rfl (q := 0) rfl ?_
      refine i_getR C (k := 1) kX5 dX5_holds_10 (shT_5 hX) rfl (by decide) fl_X5_15 ?_
      refine i_iload_n C dX5_holds_13 rfl (q := 1) rfl ?_
      refine i_ald C dX5_holds_14 (shT_7 hX) (fun v1 => ?_)
      refine i_icmp_gt (tgt := 34) C dX5_holds_15 (by decide) ?_ ?_
      · refine i_iconst C dX5_holds_34 kI_0 ?_
        exact i_zret C hq dX5_holds_35 (Or.inl rfl)
      · refine i_iload_n C dX5_holds_18 rfl (q := 2) rfl ?_
        refine i_aload_n C dX5_holds_19 rfl (q := 0) rfl ?_
        refine i_getR C (k := 1) kX5 dX5_holds_20 (shT_5 hX) rfl (by decide) fl_X5_15 ?_
        refine i_iload_n C dX5_holds_23 rfl (q := 1) rfl ?_
        refine i_ald C dX5_holds_24 (shT_7 hX) (fun v2 => ?_)
        refine i_iload_n C dX5_holds_25 rfl (q := 3) rfl ?_
        refine i_isub C dX5_holds_26 ?_
        refine i_icmp_gt (tgt := 34) C dX5_holds_27 (by decide) ?_ ?_
        · refine i_iconst C dX5_holds_34 kI_0 ?_
          exact i_zret C hq dX5_holds_35 (Or.inl rfl)
        · refine i_iconst C dX5_holds_30 kI_1 ?_
          refine i_goto (tgt := 35) C dX5_holds_31 (by decide) ?_
          exact i_zret C hq dX5_holds_35 (Or.inr rfl)
set_option maxRecDepth 100000 in
set_option maxHeartbeats 4000000 in
theorem w_X5_lastTold_2 {X : Xc} (C : Cx X RX5 cX5_lastTold (some .int)) (hX : xK X = kP) (hN : xn X = 4) (hR : xR X = rmX5_lastTold) {res : Int × Mem} (hq : Rq X (some (aI res.1)) res.2) (y1 : Int) : ∀ (n : Nat) (u3 : Int) (M : Mem), Im X 0 0 2 [(0, aR 5), (1, aI y1), (3, aI u3)] [] M res (lpX5_lastTold_2 y1 n u3 M) := by
  have hl3 : 3 < xn X := by rw [hN]; decide
  intro n
  induction n with
  | zero => intro _ _; exact i_none
  | succ n ih =>
    intro u3 M
    unfold lpX5_lastTold_2
    refine i_iload_n C dX5_lastTold_2 rfl (q := 2) rfl ?_
    refine i_if_lt (tgt := 28) C dX5_lastTold_3 (by decide) ?_ ?_
    · refine i_iload_n C dX5_lastTold_28 rfl (q := 2) rfl ?_
      exact i_iret C hq dX5_lastTold_29
    · refine i_aload_n C dX5_lastTold_6 rfl (q := 0) rfl ?_
      refine i_getR C (k := 2) kX5 dX5_lastTold_7 (shT_5 hX) rfl (by decide) fl_X5_18 ?_
      refine i_iload_n C dX5_lastTold_10 rfl (q := 1) rfl ?_
      refine i_bipush C dX5_lastTold_11 kB_30 ?_
      refine i_imul C dX5_lastTold_13 ?_
      refine i_iload_n C dX5_lastTold_14 rfl (q := 2) rfl ?_
      refine i_iadd C dX5_lastTold_15 ?_
      refine i_ald C dX5_lastTold_16 (shT_8 hX) (fun v1 => ?_)
      refine i_ldc C dX5_lastTold_17 kc_X5_29 kI_m1000000005 ?_
      refine i_icmp_ne (tgt := 28) C dX5_lastTold_19 (by decide) ?_ ?_
      · refine i_iload_n C dX5_lastTold_28 rfl (q := 2) rfl ?_
        exact i_iret C hq dX5_lastTold_29
      · refine i_iincN (L' := fun v2 => [(0, aR 5), (1, aI y1), (3, aI v2)]) C dX5_lastTold_22 (q := 2) rfl hl3 (fun _ => rfl) (fun v2 => ?_)
        refine i_goto (tgt := 2) C dX5_lastTold_25 (by decide) ?_
        exact (ih v2 M)
set_option maxRecDepth 100000 in
set_option maxHeartbeats 4000000 in
theorem c_X5_lastTold (l : Launch) (G : Gx) {K : Kx} (hK : K = kP) {x1 : Int} {x2 : Int} {M : Mem} {res : Int × Mem} (hM : OkM M) (ha : okS [aR 5, aI x1, aI x2]) (hF : pMeters_lastTold x1 x2 M = some res) : Ct l G K yX5_lastTold (wsM yX5_lastTold cX5_lastTold 4 (some .int)) rmX5_lastTold [aR 5, aI x1, aI x2] M (some (aI res.1)) res.2 := by
  refine ct_of RX5 (by decide +kernel) rfl (hK ▸ kP_ok) hM ha (Nat.le_of_ble_eq_true rfl) hF ?_
  intro X C hl hG hX0 hN hR hq
  have hX : xK X = kP := hX0.trans hK
  show Im X 0 0 0 [(0, aR 5), (1, aI x1), (2, aI x2)] [] M res (pMeters_lastTold x1 x2 M)
  unfold pMeters_lastTold
  have hl3 : 3 < xn X := by rw [hN]; decide
  refine i_iload_n C dX5_lastTold_0 rfl (q := 2) rfl ?_
  refine i_istore_n C dX5_lastTold_1 rfl hl3 (L' := [(0, aR 5), (1, aI x1), (2, aI x2), (3, aI x2)]) rfl ?_
  exact i_sub [0, 1, 3] rfl (w_X5_lastTold_2 C hX hN hR hq x1 FU x2 M)
set_option maxRecDepth 100000 in
set_option maxHeartbeats 4000000 in
theorem c_X5_canCount (l : Launch) (G : Gx) {K : Kx} (hK : K = kP) {b : Nat} {x1 : Int} {x2 : Int} (hb : isC b) {M : Mem} {res : Int × Mem} (hM : OkM M) (ha : okS [aR 5, aI x1, aI x2, aR b]) (hF : pMeters_canCount b x1 x2 M = some res) : Ct l G K yX5_canCount (wsM yX5_canCount cX5_canCount 5 (some .boolean)) rmX5_canCount [aR 5, aI x1, aI x2, aR b] M (some (aI res.1)) res.2 := by
  refine ct_of RX5 (by decide +kernel) rfl (hK ▸ kP_ok) hM ha (Nat.le_of_ble_eq_true rfl) hF ?_
  intro X C hl hG hX0 hN hR hq
  have hX : xK X = kP := hX0.trans hK
  show Im X 0 0 0 [(0, aR 5), (1, aI x1), (2, aI x2), (3, aR b)] [] M res (pMeters_canCount b x1 x2 M)
  unfold pMeters_canCount
  have hl4 : 4 < xn X := by rw [hN]; decide
  have hRm : ∀ {rm : Room} {ny : Nat}, RmOk rmX5_canCount rm ny → RmOk (xR X) rm ny := fun h => by rw [hR]; exact h
  refine i_aload_n C dX5_canCount_0 rfl (q := 3) rfl ?_
  refine i_getR C (k := 5) kX0 dX5_canCount_1 (shP_0 hX hb) rfl (by decide) fl_X5_30 ?_
  refine i_iload_n C dX5_canCount_4 rfl (q := 1) rfl ?_
  refine i_ald C dX5_canCount_5 (shP_4 hX hb) (fun v1 => ?_)
  refine i_istore C dX5_canCount_6 hl4 (L' := [(0, aR 5), (1, aI x1), (2, aI x2), (3, aR b), (4, aI v1)]) rfl ?_
  refine i_iload C dX5_canCount_8 (q := 4) rfl ?_
  refine i_ldc C dX5_canCount_10 kc_X5_29 kI_m1000000005 ?_
  refine i_jn (fun j => ∀  (M3 : Mem), Im X 0 0 23 [(0, aR 5), (1, aI x1), (2, aI x2)] [] M3 res (j  M3)) ?_ (fun j2 hj2 => ?_)
  · intro  M3
    refine i_aload_n C dX5_canCount_23 rfl (q := 0) rfl ?_
    refine i_iload_n C dX5_canCount_24 rfl (q := 1) rfl ?_
    refine i_iload_n C dX5_canCount_25 rfl (q := 2) rfl ?_
    refine i_cI (kc' := 0) (ks' := 0) 0 0 3 (fun q hq hM hS => crV C (as := [aI x1, aI x2]) dX5_canCount_26.1 kX5 (shT_5 hX) ml_X5_35 cal_X5_finding cv_X5_finding (hRm ⟨Nat.le_of_ble_eq_true rfl, Nat.le_of_ble_eq_true rfl⟩) rfl (Nat.le_of_ble_eq_true rfl) (c_X5_finding (xl X) (xG X) hX hM ⟨hS.2.2.1, hS.2.1, hS.1, trivial⟩ hq)) (Nat.le_of_ble_eq_true rfl) (Nat.le_of_ble_eq_true rfl) rfl rfl rfl (fun v5 M4 => ?_)
    refine i_if_ne (tgt := 45) C dX5_canCount_29 (by decide) ?_ ?_
    · refine i_iconst C dX5_canCount_45 kI_0 ?_
      exact i_zret C hq dX5_canCount_46 (Or.inl rfl)
    · refine i_aload_n C dX5_canCount_32 rfl (q := 0) rfl ?_
      refine i_iload_n C dX5_canCount_33 rfl (q := 1) rfl ?_
      refine i_iload_n C dX5_canCount_34 rfl (q := 2) rfl ?_
      refine i_cI (kc' := 0) (ks' := 0) 0 0 3 (fun q hq hM hS => crV C (as := [aI x1, aI x2]) dX5_canCount_35.1 kX5 (shT_5 hX) ml_X5_39 cal_X5_lastTold cv_X5_lastTold (hRm ⟨Nat.le_of_ble_eq_true rfl, Nat.le_of_ble_eq_true rfl⟩) rfl (Nat.le_of_ble_eq_true rfl) (c_X5_lastTold (xl X) (xG X) hX hM ⟨hS.2.2.1, hS.2.1, hS.1, trivial⟩ hq)) (Nat.le_of_ble_eq_true rfl) (Nat.le_of_ble_eq_true rfl) rfl rfl rfl (fun v7 M6 => ?_)
      refine i_if_lt (tgt := 45) C dX5_canCount_38 (by decide) ?_ ?_
      · refine i_iconst C dX5_canCount_45 kI_0 ?_
        exact i_zret C hq dX5_canCount_46 (Or.inl rfl)
      · refine i_iconst C dX5_canCount_41 kI_1 ?_
        refine i_goto (tgt := 46) C dX5_canCount_42 (by decide) ?_
        exact i_zret C hq dX5_canCount_46 (Or.inr rfl)
  refine i_icmp_eq (tgt := 23) C dX5_canCount_12 (by decide) ?_ ?_
  · exact i_sub [0, 1, 2] rfl (hj2  M)
  · refine i_iload_n C dX5_canCount_15 rfl (q := 2) rfl ?_
    refine i_iload C dX5_canCount_16 (q := 4) rfl ?_
    refine i_icmp_lt (tgt := 23) C dX5_canCount_18 (by decide) ?_ ?_
    · exact i_sub [0, 1, 2] rfl (hj2  M)
    · refine i_iconst C dX5_canCount_21 kI_0 ?_
      exact i_zret C hq dX5_canCount_22 (Or.inl rfl)
set_option maxRecDepth 100000 in
set_option maxHeartbeats 4000000 in
theorem c_X5_agreed (l : Launch) (G : Gx) {K : Kx} (hK : K = kP) {x0 : Int} {x2 : Int} {x4 : Int} {M : Mem} {res : Int × Mem} (hM : OkM M) (ha : okS [aL x0, aL x2, aI x4]) (hF : pMeters_agreed x0 x2 x4 M = some res) : Ct l G K yX5_agreed (wsM yX5_agreed cX5_agreed 9 (some .long)) rmX5_agreed [aL x0, aL x2, aI x4] M (some (aL res.1)) res.2 := by
  refine ct_of RX5 (by decide +kernel) rfl (hK ▸ kP_ok) hM ha (Nat.le_of_ble_eq_true rfl) hF ?_
  intro X C hl hG hX0 hN hR hq
  have hX : xK X = kP := hX0.trans hK
  show Im X 0 0 0 [(0, aL x0), (2, aL x2), (4, aI x4)] [] M res (pMeters_agreed x0 x2 x4 M)
  unfold pMeters_agreed
  have hl6 : 6 < xn X := by rw [hN]; decide
  have hl8 : 8 < xn X := by rw [hN]; decide
  have hRj : 1 ≤ (xR X).frames ∧ 60 ≤ (xR X).locals := by rw [hR]; exact ⟨Nat.le_of_ble_eq_true rfl, Nat.le_of_ble_eq_true rfl⟩
  refine i_lload_n C dX5_agreed_0 rfl (q := 0) rfl ?_
  refine i_lload_n C dX5_agreed_1 rfl (q := 1) rfl ?_
  refine i_mminL C hRj ml_X5_55 dX5_agreed_2 (Nat.le_of_ble_eq_true rfl) ?_
  refine i_nmL (fun v1 => ?_)
  refine i_lstore C dX5_agreed_5 hl6 (L' := [(0, aL x0), (2, aL x2), (4, aI x4), (5, aL v1)]) rfl ?_
  refine i_lload_n C dX5_agreed_7 rfl (q := 0) rfl ?_
  refine i_lload_n C dX5_agreed_8 rfl (q := 1) rfl ?_
  refine i_mmaxL C hRj ml_X5_61 dX5_agreed_9 (Nat.le_of_ble_eq_true rfl) ?_
  refine i_nmL (fun v2 => ?_)
  refine i_lstore C dX5_agreed_12 hl8 (L' := [(0, aL x0), (2, aL x2), (4, aI x4), (5, aL v1), (7, aL v2)]) rfl ?_
  refine i_lload C dX5_agreed_14 (q := 4) rfl ?_
  refine i_lload C dX5_agreed_16 (q := 3) rfl ?_
  refine i_lsub C dX5_agreed_18 ?_
  refine i_ldc2 C dX5_agreed_19 k2_X5_64 kJ_100 ?_
  refine i_lmul C dX5_agreed_22 ?_
  refine i_iload C dX5_agreed_23 (q := 2) rfl ?_
  refine i_i2l C dX5_agreed_25 ?_
  refine i_lload C dX5_agreed_26 (q := 3) rfl ?_
  refine i_mabsL C hRj ml_X5_66 dX5_agreed_28 (Nat.le_of_ble_eq_true rfl) ?_
  refine i_lmul C dX5_agreed_31 ?_
  refine i_lcmp C dX5_agreed_32 ?_
  refine i_if_gt (tgt := 48) C dX5_agreed_33 (by decide) ?_ ?_
  · refine i_lload C dX5_agreed_48 (q := 3) rfl ?_
    exact i_lret C hq dX5_agreed_50
  · refine i_lload C dX5_agreed_36 (q := 3) rfl ?_
    refine i_lload C dX5_agreed_38 (q := 4) rfl ?_
    refine i_ladd C dX5_agreed_40 ?_
    refine i_ldc2 C dX5_agreed_41 k2_X5_70 kJ_2 ?_
    refine i_ldiv C dX5_agreed_44 (by decide) ?_
    refine i_goto (tgt := 50) C dX5_agreed_45 (by decide) ?_
    exact i_lret C hq dX5_agreed_50
set_option maxRecDepth 100000 in
set_option maxHeartbeats 4000000 in
theorem c_X5_sumOwed (l : Launch) (G : Gx) {K : Kx} (hK : K = kP) {b : Nat} {x1 : Int} (hb : isC b) {M : Mem} {res : Int × Mem} (hM : OkM M) (ha : okS [aR 5, aI x1, aR b]) (hF : pMeters_sumOwed b x1 M = some res) : Ct l G K yX5_sumOwed (wsM yX5_sumOwed cX5_sumOwed 5 (some .long)) rmX5_sumOwed [aR 5, aI x1, aR b] M (some (aL res.1)) res.2 := by
  refine ct_of RX5 (by decide +kernel) rfl (hK ▸ kP_ok) hM ha (Nat.le_of_ble_eq_true rfl) hF ?_
  intro X C hl hG hX0 hN hR hq
  have hX : xK X = kP := hX0.trans hK
  show Im X 0 0 0 [(0, aR 5), (1, aI x1), (2, aR b)] [] M res (pMeters_sumOwed b x1 M)
  unfold pMeters_sumOwed
  have hl3 : 3 < xn X := by rw [hN]; decide
  have hl4 : 4 < xn X := by rw [hN]; decide
  have hRm : ∀ {rm : Room} {ny : Nat}, RmOk rmX5_sumOwed rm ny → RmOk (xR X) rm ny := fun h => by rw [hR]; exact h
  refine i_aload_n C dX5_sumOwed_0 rfl (q := 0) rfl ?_
  refine i_iconst C dX5_sumOwed_1 kI_0 ?_
  refine i_iload_n C dX5_sumOwed_2 rfl (q := 1) rfl ?_
  refine i_aload_n C dX5_sumOwed_3 rfl (q := 2) rfl ?_
  refine i_cI (kc' := 0) (ks' := 0) 0 0 4 (fun q hq hM hS => crV C (as := [aI 0, aI x1, aR b]) dX5_sumOwed_4.1 kX5 (shT_5 hX) ml_X5_42 cal_X5_canCount cv_X5_canCount (hRm ⟨Nat.le_of_ble_eq_true rfl, Nat.le_of_ble_eq_true rfl⟩) rfl (Nat.le_of_ble_eq_true rfl) (c_X5_canCount (xl X) (xG X) hX hb hM ⟨hS.2.2.2.1, hS.2.2.1, hS.2.1, hS.1, trivial⟩ hq)) (Nat.le_of_ble_eq_true rfl) (Nat.le_of_ble_eq_true rfl) rfl rfl rfl (fun v2 M1 => ?_)
  refine i_istore_n C dX5_sumOwed_7 rfl hl3 (L' := [(0, aR 5), (1, aI x1), (2, aR b), (3, aI v2)]) rfl ?_
  refine i_aload_n C dX5_sumOwed_8 rfl (q := 0) rfl ?_
  refine i_iconst C dX5_sumOwed_9 kI_1 ?_
  refine i_iload_n C dX5_sumOwed_10 rfl (q := 1) rfl ?_
  refine i_aload_n C dX5_sumOwed_11 rfl (q := 2) rfl ?_
  refine i_cI (kc' := 0) (ks' := 0) 0 0 4 (fun q hq hM hS => crV C (as := [aI 1, aI x1, aR b]) dX5_sumOwed_12.1 kX5 (shT_5 hX) ml_X5_42 cal_X5_canCount cv_X5_canCount (hRm ⟨Nat.le_of_ble_eq_true rfl, Nat.le_of_ble_eq_true rfl⟩) rfl (Nat.le_of_ble_eq_true rfl) (c_X5_canCount (xl X) (xG X) hX hb hM ⟨hS.2.2.2.1, hS.2.2.1, hS.2.1, hS.1, trivial⟩ hq)) (Nat.le_of_ble_eq_true rfl) (Nat.le_of_ble_eq_true rfl) rfl rfl rfl (fun v4 M3 => ?_)
  refine i_istore C dX5_sumOwed_15 hl4 (L' := [(0, aR 5), (1, aI x1), (2, aR b), (3, aI v2), (4, aI v4)]) rfl ?_
  refine i_iload_n C dX5_sumOwed_17 rfl (q := 3) rfl ?_
  refine i_jn (fun j => ∀  (M6 : Mem), Im X 0 0 63 [(0, aR 5), (1, aI x1), (3, aI v2), (4, aI v4)] [] M6 res (j  M6)) ?_ (fun j5 hj5 => ?_)
  · intro  M6
    refine i_iload_n C dX5_sumOwed_63 rfl (q := 2) rfl ?_
    refine i_if_eq (tgt := 80) C dX5_sumOwed_64 (by decide) ?_ ?_
    · refine i_iload C dX5_sumOwed_80 (q := 3) rfl ?_
      refine i_if_eq (tgt := 103) C dX5_sumOwed_82 (by decide) ?_ ?_
      · refine i_ldc2 C dX5_sumOwed_103 k2_X5_53 kJ_4000000000 ?_
        exact i_lret C hq dX5_sumOwed_106
      · refine i_aload_n C dX5_sumOwed_85 rfl (q := 0) rfl ?_
        refine i_getR C (k := 2) kX5 dX5_sumOwed_86 (shT_5 hX) rfl (by decide) fl_X5_18 ?_
        refine i_bipush C dX5_sumOwed_89 kB_30 ?_
        refine i_aload_n C dX5_sumOwed_91 rfl (q := 0) rfl ?_
        refine i_iconst C dX5_sumOwed_92 kI_1 ?_
        refine i_iload_n C dX5_sumOwed_93 rfl (q := 1) rfl ?_
        refine i_cI (kc' := 0) (ks' := 0) 0 0 3 (fun q hq hM hS => crV C (as := [aI 1, aI x1]) dX5_sumOwed_94.1 kX5 (shT_5 hX) ml_X5_39 cal_X5_lastTold cv_X5_lastTold (hRm ⟨Nat.le_of_ble_eq_true rfl, Nat.le_of_ble_eq_true rfl⟩) rfl (Nat.le_of_ble_eq_true rfl) (c_X5_lastTold (xl X) (xG X) hX hM ⟨hS.2.2.1, hS.2.1, hS.1, trivial⟩ hq)) (Nat.le_of_ble_eq_true rfl) (Nat.le_of_ble_eq_true rfl) rfl rfl rfl (fun v8 M7 => ?_)
        refine i_iadd C dX5_sumOwed_97 ?_
        refine i_ald C dX5_sumOwed_98 (shT_8 hX) (fun v9 => ?_)
        refine i_i2l C dX5_sumOwed_99 ?_
        refine i_goto (tgt := 106) C dX5_sumOwed_100 (by decide) ?_
        exact i_lret C hq dX5_sumOwed_106
    · refine i_aload_n C dX5_sumOwed_67 rfl (q := 0) rfl ?_
      refine i_getR C (k := 2) kX5 dX5_sumOwed_68 (shT_5 hX) rfl (by decide) fl_X5_18 ?_
      refine i_aload_n C dX5_sumOwed_71 rfl (q := 0) rfl ?_
      refine i_iconst C dX5_sumOwed_72 kI_0 ?_
      refine i_iload_n C dX5_sumOwed_73 rfl (q := 1) rfl ?_
      refine i_cI (kc' := 0) (ks' := 0) 0 0 3 (fun q hq hM hS => crV C (as := [aI 0, aI x1]) dX5_sumOwed_74.1 kX5 (shT_5 hX) ml_X5_39 cal_X5_lastTold cv_X5_lastTold (hRm ⟨Nat.le_of_ble_eq_true rfl, Nat.le_of_ble_eq_true rfl⟩) rfl (Nat.le_of_ble_eq_true rfl) (c_X5_lastTold (xl X) (xG X) hX hM ⟨hS.2.2.1, hS.2.1, hS.1, trivial⟩ hq)) (Nat.le_of_ble_eq_true rfl) (Nat.le_of_ble_eq_true rfl) rfl rfl rfl (fun v11 M10 => ?_)
      refine i_ald C dX5_sumOwed_77 (shT_8 hX) (fun v12 => ?_)
      refine i_i2l C dX5_sumOwed_78 ?_
      exact i_lret C hq dX5_sumOwed_79
  refine i_if_eq (tgt := 63) C dX5_sumOwed_18 (by decide) ?_ ?_
  · exact i_sub [0, 1, 3, 4] rfl (hj5  M3)
  · refine i_iload C dX5_sumOwed_21 (q := 4) rfl ?_
    refine i_if_eq (tgt := 63) C dX5_sumOwed_23 (by decide) ?_ ?_
    · exact i_sub [0, 1, 3, 4] rfl (hj5  M3)
    · refine i_aload_n C dX5_sumOwed_26 rfl (q := 0) rfl ?_
      refine i_getR C (k := 2) kX5 dX5_sumOwed_27 (shT_5 hX) rfl (by decide) fl_X5_18 ?_
      refine i_aload_n C dX5_sumOwed_30 rfl (q := 0) rfl ?_
      refine i_iconst C dX5_sumOwed_31 kI_0 ?_
      refine i_iload_n C dX5_sumOwed_32 rfl (q := 1) rfl ?_
      refine i_cI (kc' := 0) (ks' := 0) 0 0 3 (fun q hq hM hS => crV C (as := [aI 0, aI x1]) dX5_sumOwed_33.1 kX5 (shT_5 hX) ml_X5_39 cal_X5_lastTold cv_X5_lastTold (hRm ⟨Nat.le_of_ble_eq_true rfl, Nat.le_of_ble_eq_true rfl⟩) rfl (Nat.le_of_ble_eq_true rfl) (c_X5_lastTold (xl X) (xG X) hX hM ⟨hS.2.2.1, hS.2.1, hS.1, trivial⟩ hq)) (Nat.le_of_ble_eq_true rfl) (Nat.le_of_ble_eq_true rfl) rfl rfl rfl (fun v14 M13 => ?_)
      refine i_ald C dX5_sumOwed_36 (shT_8 hX) (fun v15 => ?_)
      refine i_i2l C dX5_sumOwed_37 ?_
      refine i_aload_n C dX5_sumOwed_38 rfl (q := 0) rfl ?_
      refine i_getR C (k := 2) kX5 dX5_sumOwed_39 (shT_5 hX) rfl (by decide) fl_X5_18 ?_
      refine i_bipush C dX5_sumOwed_42 kB_30 ?_
      refine i_aload_n C dX5_sumOwed_44 rfl (q := 0) rfl ?_
      refine i_iconst C dX5_sumOwed_45 kI_1 ?_
      refine i_iload_n C dX5_sumOwed_46 rfl (q := 1) rfl ?_
      refine i_cI (kc' := 0) (ks' := 0) 0 0 3 (fun q hq hM hS => crV C (as := [aI 1, aI x1]) dX5_sumOwed_47.1 kX5 (shT_5 hX) ml_X5_39 cal_X5_lastTold cv_X5_lastTold (hRm ⟨Nat.le_of_ble_eq_true rfl, Nat.le_of_ble_eq_true rfl⟩) rfl (Nat.le_of_ble_eq_true rfl) (c_X5_lastTold (xl X) (xG X) hX hM ⟨hS.2.2.1, hS.2.1, hS.1, trivial⟩ hq)) (Nat.le_of_ble_eq_true rfl) (Nat.le_of_ble_eq_true rfl) rfl rfl rfl (fun v17 M16 => ?_)
      refine i_iadd C dX5_sumOwed_50 ?_
      refine i_ald C dX5_sumOwed_51 (shT_8 hX) (fun v18 => ?_)
      refine i_i2l C dX5_sumOwed_52 ?_
      refine i_aload_n C dX5_sumOwed_53 rfl (q := 2) rfl ?_
      refine i_getR C (k := 6) kX0 dX5_sumOwed_54 (shP_0 hX hb) rfl (by decide) fl_X5_46 ?_
      refine i_iconst C dX5_sumOwed_57 kI_0 ?_
      refine i_ald C dX5_sumOwed_58 (shP_5 hX hb) (fun v19 => ?_)
      refine i_cL (kc' := 0) (ks' := 0) 0 0 3 (fun q hq hM hS => crS C (as := [aL v15, aL v18, aI v19]) dX5_sumOwed_59.1 ml_X5_49 cal_X5_agreed st_X5_agreed (hRm ⟨Nat.le_of_ble_eq_true rfl, Nat.le_of_ble_eq_true rfl⟩) rfl (Nat.le_of_ble_eq_true rfl) (c_X5_agreed (xl X) (xG X) hX hM ⟨hS.2.2.1, hS.2.1, hS.1, trivial⟩ hq)) (Nat.le_of_ble_eq_true rfl) (Nat.le_of_ble_eq_true rfl) rfl rfl rfl (fun v21 M20 => ?_)
      exact i_lret C hq dX5_sumOwed_62
set_option maxRecDepth 100000 in
set_option maxHeartbeats 4000000 in
theorem c_X6_has (l : Launch) (G : Gx) {K : Kx} (hK : K = kP) {b : Nat} {x1 : Int} (hb : isC b) {M : Mem} {res : Int × Mem} (hM : OkM M) (ha : okS [aR (b + 6), aI x1]) (hF : pPersons_has b x1 M = some res) : Ct l G K yX6_has (wsM yX6_has cX6_has 2 (some .boolean)) rmX6_has [aR (b + 6), aI x1] M (some (aI res.1)) res.2 := by
  refine ct_of RX6 (by decide +kernel) rfl (hK ▸ kP_ok) hM ha (Nat.le_of_ble_eq_true rfl) hF ?_
  intro X C hl hG hX0 hN hR hq
  have hX : xK X = kP := hX0.trans hK
  show Im X 0 0 0 [(0, aR (b + 6)), (1, aI x1)] [] M res (pPersons_has b x1 M)
  unfold pPersons_has
  refine i_iload_n C dX6_has_0 rfl (q := 1) rfl ?_
  refine i_if_lt (tgt := 16) C dX6_has_1 (by decide) ?_ ?_
  · refine i_iconst C dX6_has_16 kI_0 ?_
    exact i_zret C hq dX6_has_17 (Or.inl rfl)
  · refine i_iload_n C dX6_has_4 rfl (q := 1) rfl ?_
    refine i_aload_n C dX6_has_5 rfl (q := 0) rfl ?_
    refine i_getI C (k := 0) kX6 dX6_has_6 (shP_6 hX hb) rfl (by decide) fl_X6_9 rfl ?_
    refine i_icmp_ge (tgt := 16) C dX6_has_9 (by decide) ?_ ?_
    · refine i_iconst C dX6_has_16 kI_0 ?_
      exact i_zret C hq dX6_has_17 (Or.inl rfl)
    · refine i_iconst C dX6_has_12 kI_1 ?_
      refine i_goto (tgt := 17) C dX6_has_13 (by decide) ?_
      exact i_zret C hq dX6_has_17 (Or.inr rfl)
set_option maxRecDepth 100000 in
set_option maxHeartbeats 4000000 in
theorem c_X6_addPerson (l : Launch) (G : Gx) {K : Kx} (hK : K = kP) {b : Nat} {x1 : Int} {x2 : Int} {x3 : Int} (hb : isC b) {M : Mem} {res : Int × Mem} (hM : OkM M) (ha : okS [aR (b + 6), aI x1, aI x2, aI x3]) (hF : pPersons_addPerson b x1 x2 x3 M = some res) : Ct l G K yX6_addPerson (wsM yX6_addPerson cX6_addPerson 4 (some .int)) rmX6_addPerson [aR (b + 6), aI x1, aI x2, aI x3] M (some (aI res.1)) res.2 := by
  refine ct_of RX6 (by decide +kernel) rfl (hK ▸ kP_ok) hM ha (Nat.le_of_ble_eq_true rfl) hF ?_
  intro X C hl hG hX0 hN hR hq
  have hX : xK X = kP := hX0.trans hK
  show Im X 0 0 0 [(0, aR (b + 6)), (1, aI x1), (2, aI x2), (3, aI x3)] [] M res (pPersons_addPerson b x1 x2 x3 M)
  unfold pPersons_addPerson
  refine i_aload_n C dX6_addPerson_0 rfl (q := 0) rfl ?_
  refine i_getR C (k := 1) kX6 dX6_addPerson_1 (shP_6 hX hb) rfl (by decide) fl_X6_15 ?_
  refine i_aload_n C dX6_addPerson_4 rfl (q := 0) rfl ?_
  refine i_getI C (k := 0) kX6 dX6_addPerson_5 (shP_6 hX hb) rfl (by decide) fl_X6_9 rfl ?_
  refine i_iload_n C dX6_addPerson_8 rfl (q := 1) rfl ?_
  refine i_ast C dX6_addPerson_9 (shP_7 hX hb) (fun M1 => ?_)
  refine i_aload_n C dX6_addPerson_10 rfl (q := 0) rfl ?_
  refine i_getR C (k := 2) kX6 dX6_addPerson_11 (shP_6 hX hb) rfl (by decide) fl_X6_19 ?_
  refine i_aload_n C dX6_addPerson_14 rfl (q := 0) rfl ?_
  refine i_getI C (k := 0) kX6 dX6_addPerson_15 (shP_6 hX hb) rfl (by decide) fl_X6_9 rfl ?_
  refine i_iload_n C dX6_addPerson_18 rfl (q := 2) rfl ?_
  refine i_ast C dX6_addPerson_19 (shP_8 hX hb) (fun M2 => ?_)
  refine i_aload_n C dX6_addPerson_20 rfl (q := 0) rfl ?_
  refine i_getR C (k := 3) kX6 dX6_addPerson_21 (shP_6 hX hb) rfl (by decide) fl_X6_22 ?_
  refine i_aload_n C dX6_addPerson_24 rfl (q := 0) rfl ?_
  refine i_getI C (k := 0) kX6 dX6_addPerson_25 (shP_6 hX hb) rfl (by decide) fl_X6_9 rfl ?_
  refine i_iload_n C dX6_addPerson_28 rfl (q := 3) rfl ?_
  refine i_ast C dX6_addPerson_29 (shP_9 hX hb) (fun M3 => ?_)
  refine i_aload_n C dX6_addPerson_30 rfl (q := 0) rfl ?_
  refine i_getR C (k := 4) kX6 dX6_addPerson_31 (shP_6 hX hb) rfl (by decide) fl_X6_25 ?_
  refine i_aload_n C dX6_addPerson_34 rfl (q := 0) rfl ?_
  refine i_getI C (k := 0) kX6 dX6_addPerson_35 (shP_6 hX hb) rfl (by decide) fl_X6_9 rfl ?_
  refine i_iload_n C dX6_addPerson_38 rfl (q := 1) rfl ?_
  refine i_ast C dX6_addPerson_39 (shP_10 hX hb) (fun M4 => ?_)
  refine i_aload_n C dX6_addPerson_40 rfl (q := 0) rfl ?_
  refine i_getR C (k := 5) kX6 dX6_addPerson_41 (shP_6 hX hb) rfl (by decide) fl_X6_28 ?_
  refine i_aload_n C dX6_addPerson_44 rfl (q := 0) rfl ?_
  refine i_getI C (k := 0) kX6 dX6_addPerson_45 (shP_6 hX hb) rfl (by decide) fl_X6_9 rfl ?_
  refine i_ldc C dX6_addPerson_48 kc_X6_50 kI_m1000000005 ?_
  refine i_ast C dX6_addPerson_50 (shP_11 hX hb) (fun M5 => ?_)
  refine i_aload_n C dX6_addPerson_51 rfl (q := 0) rfl ?_
  refine i_getR C (k := 6) kX6 dX6_addPerson_52 (shP_6 hX hb) rfl (by decide) fl_X6_31 ?_
  refine i_aload_n C dX6_addPerson_55 rfl (q := 0) rfl ?_
  refine i_getI C (k := 0) kX6 dX6_addPerson_56 (shP_6 hX hb) rfl (by decide) fl_X6_9 rfl ?_
  refine i_ldc C dX6_addPerson_59 kc_X6_50 kI_m1000000005 ?_
  refine i_ast C dX6_addPerson_61 (shP_12 hX hb) (fun M6 => ?_)
  refine i_aload_n C dX6_addPerson_62 rfl (q := 0) rfl ?_
  refine i_dup C dX6_addPerson_63 rfl ?_
  refine i_getI C (k := 0) kX6 dX6_addPerson_64 (shP_6 hX hb) rfl (by decide) fl_X6_9 rfl ?_
  refine i_dup_x1 C dX6_addPerson_67 rfl rfl ?_
  refine i_iconst C dX6_addPerson_68 kI_1 ?_
  refine i_iadd C dX6_addPerson_69 ?_
  refine i_putI C (k := 0) kX6 dX6_addPerson_70 (shP_6 hX hb) rfl (by decide) fl_X6_9 rfl rfl rfl rfl (fun M7 => ?_)
  exact i_iret C hq dX6_addPerson_73
set_option maxRecDepth 100000 in
set_option maxHeartbeats 4000000 in
theorem c_X6_joinLine (l : Launch) (G : Gx) {K : Kx} (hK : K = kP) {b : Nat} {x1 : Int} {x2 : Int} {x3 : Int} (hb : isC b) {M : Mem} {res : Mem} (hM : OkM M) (ha : okS [aR (b + 6), aI x1, aI x2, aI x3]) (hF : pPersons_joinLine b x1 x2 x3 M = some res) : Ct l G K yX6_joinLine (wsM yX6_joinLine cX6_joinLine 4 none) rmX6_joinLine [aR (b + 6), aI x1, aI x2, aI x3] M none res := by
  refine ct_of RX6 (by decide +kernel) rfl (hK ▸ kP_ok) hM ha (Nat.le_of_ble_eq_true rfl) hF ?_
  intro X C hl hG hX0 hN hR hq
  have hX : xK X = kP := hX0.trans hK
  show Im X 0 0 0 [(0, aR (b + 6)), (1, aI x1), (2, aI x2), (3, aI x3)] [] M res (pPersons_joinLine b x1 x2 x3 M)
  unfold pPersons_joinLine
  refine i_aload_n C dX6_joinLine_0 rfl (q := 0) rfl ?_
  refine i_getI C (k := 8) kX6 dX6_joinLine_1 (shP_6 hX hb) rfl (by decide) fl_X6_37 rfl ?_
  refine i_bipush C dX6_joinLine_4 kB_20 ?_
  refine i_icmp_lt (tgt := 10) C dX6_joinLine_6 (by decide) ?_ ?_
  · refine i_aload_n C dX6_joinLine_10 rfl (q := 0) rfl ?_
    refine i_getR C (k := 4) kX6 dX6_joinLine_11 (shP_6 hX hb) rfl (by decide) fl_X6_25 ?_
    refine i_iload_n C dX6_joinLine_14 rfl (q := 1) rfl ?_
    refine i_ldc C dX6_joinLine_15 kc_X6_50 kI_m1000000005 ?_
    refine i_ast C dX6_joinLine_17 (shP_10 hX hb) (fun M1 => ?_)
    refine i_aload_n C dX6_joinLine_18 rfl (q := 0) rfl ?_
    refine i_getR C (k := 5) kX6 dX6_joinLine_19 (shP_6 hX hb) rfl (by decide) fl_X6_28 ?_
    refine i_iload_n C dX6_joinLine_22 rfl (q := 1) rfl ?_
    refine i_iload_n C dX6_joinLine_23 rfl (q := 2) rfl ?_
    refine i_ast C dX6_joinLine_24 (shP_11 hX hb) (fun M2 => ?_)
    refine i_aload_n C dX6_joinLine_25 rfl (q := 0) rfl ?_
    refine i_getR C (k := 6) kX6 dX6_joinLine_26 (shP_6 hX hb) rfl (by decide) fl_X6_31 ?_
    refine i_iload_n C dX6_joinLine_29 rfl (q := 1) rfl ?_
    refine i_iload_n C dX6_joinLine_30 rfl (q := 3) rfl ?_
    refine i_ast C dX6_joinLine_31 (shP_12 hX hb) (fun M3 => ?_)
    refine i_aload_n C dX6_joinLine_32 rfl (q := 0) rfl ?_
    refine i_getR C (k := 7) kX6 dX6_joinLine_33 (shP_6 hX hb) rfl (by decide) fl_X6_34 ?_
    refine i_aload_n C dX6_joinLine_36 rfl (q := 0) rfl ?_
    refine i_dup C dX6_joinLine_37 rfl ?_
    refine i_getI C (k := 8) kX6 dX6_joinLine_38 (shP_6 hX hb) rfl (by decide) fl_X6_37 rfl ?_
    refine i_dup_x1 C dX6_joinLine_41 rfl rfl ?_
    refine i_iconst C dX6_joinLine_42 kI_1 ?_
    refine i_iadd C dX6_joinLine_43 ?_
    refine i_putI C (k := 8) kX6 dX6_joinLine_44 (shP_6 hX hb) rfl (by decide) fl_X6_37 rfl rfl rfl rfl (fun M4 => ?_)
    refine i_iload_n C dX6_joinLine_47 rfl (q := 1) rfl ?_
    refine i_ast C dX6_joinLine_48 (shP_13 hX hb) (fun M5 => ?_)
    exact i_vret C hq dX6_joinLine_49
  · exact i_vret C hq dX6_joinLine_9
set_option maxRecDepth 100000 in
set_option maxHeartbeats 4000000 in
theorem c_X7_addLetter (l : Launch) (G : Gx) {K : Kx} (hK : K = kP) {b : Nat} {x1 : Int} {x2 : Int} {x3 : Int} (hb : isC b) {M : Mem} {res : Int × Mem} (hM : OkM M) (ha : okS [aR (b + 30), aI x1, aI x2, aI x3]) (hF : pPost_addLetter b x1 x2 x3 M = some res) : Ct l G K yX7_addLetter (wsM yX7_addLetter cX7_addLetter 4 (some .int)) rmX7_addLetter [aR (b + 30), aI x1, aI x2, aI x3] M (some (aI res.1)) res.2 := by
  refine ct_of RX7 (by decide +kernel) rfl (hK ▸ kP_ok) hM ha (Nat.le_of_ble_eq_true rfl) hF ?_
  intro X C hl hG hX0 hN hR hq
  have hX : xK X = kP := hX0.trans hK
  show Im X 0 0 0 [(0, aR (b + 30)), (1, aI x1), (2, aI x2), (3, aI x3)] [] M res (pPost_addLetter b x1 x2 x3 M)
  unfold pPost_addLetter
  refine i_aload_n C dX7_addLetter_0 rfl (q := 0) rfl ?_
  refine i_getR C (k := 1) kX7 dX7_addLetter_1 (shP_30 hX hb) rfl (by decide) fl_X7_15 ?_
  refine i_aload_n C dX7_addLetter_4 rfl (q := 0) rfl ?_
  refine i_getI C (k := 0) kX7 dX7_addLetter_5 (shP_30 hX hb) rfl (by decide) fl_X7_9 rfl ?_
  refine i_iload_n C dX7_addLetter_8 rfl (q := 1) rfl ?_
  refine i_ast C dX7_addLetter_9 (shP_31 hX hb) (fun M1 => ?_)
  refine i_aload_n C dX7_addLetter_10 rfl (q := 0) rfl ?_
  refine i_getR C (k := 2) kX7 dX7_addLetter_11 (shP_30 hX hb) rfl (by decide) fl_X7_19 ?_
  refine i_aload_n C dX7_addLetter_14 rfl (q := 0) rfl ?_
  refine i_getI C (k := 0) kX7 dX7_addLetter_15 (shP_30 hX hb) rfl (by decide) fl_X7_9 rfl ?_
  refine i_iload_n C dX7_addLetter_18 rfl (q := 2) rfl ?_
  refine i_ast C dX7_addLetter_19 (shP_32 hX hb) (fun M2 => ?_)
  refine i_aload_n C dX7_addLetter_20 rfl (q := 0) rfl ?_
  refine i_getR C (k := 3) kX7 dX7_addLetter_21 (shP_30 hX hb) rfl (by decide) fl_X7_22 ?_
  refine i_aload_n C dX7_addLetter_24 rfl (q := 0) rfl ?_
  refine i_getI C (k := 0) kX7 dX7_addLetter_25 (shP_30 hX hb) rfl (by decide) fl_X7_9 rfl ?_
  refine i_iload_n C dX7_addLetter_28 rfl (q := 3) rfl ?_
  refine i_ast C dX7_addLetter_29 (shP_33 hX hb) (fun M3 => ?_)
  refine i_aload_n C dX7_addLetter_30 rfl (q := 0) rfl ?_
  refine i_dup C dX7_addLetter_31 rfl ?_
  refine i_getI C (k := 0) kX7 dX7_addLetter_32 (shP_30 hX hb) rfl (by decide) fl_X7_9 rfl ?_
  refine i_iconst C dX7_addLetter_35 kI_1 ?_
  refine i_iadd C dX7_addLetter_36 ?_
  refine i_dup_x1 C dX7_addLetter_37 rfl rfl ?_
  refine i_putI C (k := 0) kX7 dX7_addLetter_38 (shP_30 hX hb) rfl (by decide) fl_X7_9 rfl rfl rfl rfl (fun M4 => ?_)
  exact i_iret C hq dX7_addLetter_41
set_option maxRecDepth 100000 in
set_option maxHeartbeats 4000000 in
theorem c_X7_addCall (l : Launch) (G : Gx) {K : Kx} (hK : K = kP) {b : Nat} {x1 : Int} {x2 : Int} {x3 : Int} (hb : isC b) {M : Mem} {res : Mem} (hM : OkM M) (ha : okS [aR (b + 30), aI x1, aI x2, aI x3]) (hF : pPost_addCall b x1 x2 x3 M = some res) : Ct l G K yX7_addCall (wsM yX7_addCall cX7_addCall 4 none) rmX7_addCall [aR (b + 30), aI x1, aI x2, aI x3] M none res := by
  refine ct_of RX7 (by decide +kernel) rfl (hK ▸ kP_ok) hM ha (Nat.le_of_ble_eq_true rfl) hF ?_
  intro X C hl hG hX0 hN hR hq
  have hX : xK X = kP := hX0.trans hK
  show Im X 0 0 0 [(0, aR (b + 30)), (1, aI x1), (2, aI x2), (3, aI x3)] [] M res (pPost_addCall b x1 x2 x3 M)
  unfold pPost_addCall
  refine i_aload_n C dX7_addCall_0 rfl (q := 0) rfl ?_
  refine i_getR C (k := 5) kX7 dX7_addCall_1 (shP_30 hX hb) rfl (by decide) fl_X7_28 ?_
  refine i_aload_n C dX7_addCall_4 rfl (q := 0) rfl ?_
  refine i_getI C (k := 4) kX7 dX7_addCall_5 (shP_30 hX hb) rfl (by decide) fl_X7_25 rfl ?_
  refine i_iload_n C dX7_addCall_8 rfl (q := 1) rfl ?_
  refine i_ast C dX7_addCall_9 (shP_34 hX hb) (fun M1 => ?_)
  refine i_aload_n C dX7_addCall_10 rfl (q := 0) rfl ?_
  refine i_getR C (k := 6) kX7 dX7_addCall_11 (shP_30 hX hb) rfl (by decide) fl_X7_31 ?_
  refine i_aload_n C dX7_addCall_14 rfl (q := 0) rfl ?_
  refine i_getI C (k := 4) kX7 dX7_addCall_15 (shP_30 hX hb) rfl (by decide) fl_X7_25 rfl ?_
  refine i_iload_n C dX7_addCall_18 rfl (q := 2) rfl ?_
  refine i_ast C dX7_addCall_19 (shP_35 hX hb) (fun M2 => ?_)
  refine i_aload_n C dX7_addCall_20 rfl (q := 0) rfl ?_
  refine i_getR C (k := 7) kX7 dX7_addCall_21 (shP_30 hX hb) rfl (by decide) fl_X7_34 ?_
  refine i_aload_n C dX7_addCall_24 rfl (q := 0) rfl ?_
  refine i_getI C (k := 4) kX7 dX7_addCall_25 (shP_30 hX hb) rfl (by decide) fl_X7_25 rfl ?_
  refine i_iload_n C dX7_addCall_28 rfl (q := 3) rfl ?_
  refine i_ast C dX7_addCall_29 (shP_36 hX hb) (fun M3 => ?_)
  refine i_aload_n C dX7_addCall_30 rfl (q := 0) rfl ?_
  refine i_dup C dX7_addCall_31 rfl ?_
  refine i_getI C (k := 4) kX7 dX7_addCall_32 (shP_30 hX hb) rfl (by decide) fl_X7_25 rfl ?_
  refine i_iconst C dX7_addCall_35 kI_1 ?_
  refine i_iadd C dX7_addCall_36 ?_
  refine i_putI C (k := 4) kX7 dX7_addCall_37 (shP_30 hX hb) rfl (by decide) fl_X7_25 rfl rfl rfl rfl (fun M4 => ?_)
  exact i_vret C hq dX7_addCall_40
set_option maxRecDepth 100000 in
set_option maxHeartbeats 4000000 in
theorem w_X8_add_3 {X : Xc} (C : Cx X RX8 cX8_add none) (hX : xK X = kP) (hN : xn X = 3) (hR : xR X = rmX8_add) {res : Mem} (hq : Rq X none res) (y1 : Int) : ∀ (n : Nat) (u2 : Int) (M : Mem), Im X 0 0 3 [(0, aR 1), (1, aI y1), (2, aI u2)] [] M res (lpX8_add_3 y1 n u2 M) := by
  have hl2 : 2 < xn X := by rw [hN]; decide
  intro n
  induction n with
  | zero => intro _ _; exact i_none
  | succ n ih =>
    intro u2 M
    unfold lpX8_add_3
    refine i_iload_n C dX8_add_3 rfl (q := 2) rfl ?_
    refine i_if_lt (tgt := 45) C dX8_add_4 (by decide) ?_ ?_
    · exact i_vret C hq dX8_add_45
    · refine i_aload_n C dX8_add_7 rfl (q := 0) rfl ?_
      refine i_getI C (k := 0) kX8 dX8_add_8 (shT_1 hX) rfl (by decide) fl_X8_9 rfl ?_
      refine i_bipush C dX8_add_11 kB_96 ?_
      refine i_jn (fun j => ∀  (M2 : Mem), Im X 0 0 39 [(0, aR 1), (1, aI y1), (2, aI u2)] [] M2 res (j  M2)) ?_ (fun j1 hj1 => ?_)
      · intro  M2
        refine i_iincN (L' := fun v3 => [(0, aR 1), (1, aI y1), (2, aI v3)]) C dX8_add_39 (q := 2) rfl hl2 (fun _ => rfl) (fun v3 => ?_)
        refine i_goto (tgt := 3) C dX8_add_42 (by decide) ?_
        exact (ih v3 M2)
      refine i_icmp_ge (tgt := 39) C dX8_add_13 (by decide) ?_ ?_
      · exact (hj1  M)
      · refine i_aload_n C dX8_add_16 rfl (q := 0) rfl ?_
        refine i_getR C (k := 1) kX8 dX8_add_17 (shT_1 hX) rfl (by decide) fl_X8_15 ?_
        refine i_aload_n C dX8_add_20 rfl (q := 0) rfl ?_
        refine i_dup C dX8_add_21 rfl ?_
        refine i_getI C (k := 0) kX8 dX8_add_22 (shT_1 hX) rfl (by decide) fl_X8_9 rfl ?_
        refine i_dup_x1 C dX8_add_25 rfl rfl ?_
        refine i_iconst C dX8_add_26 kI_1 ?_
        refine i_iadd C dX8_add_27 ?_
        refine i_putI C (k := 0) kX8 dX8_add_28 (shT_1 hX) rfl (by decide) fl_X8_9 rfl rfl rfl rfl (fun M4 => ?_)
        refine i_iload_n C dX8_add_31 rfl (q := 1) rfl ?_
        refine i_iload_n C dX8_add_32 rfl (q := 2) rfl ?_
        refine i_ishr C dX8_add_33 ?_
        refine i_sipush C dX8_add_34 kS_255 ?_
        refine i_iand C dX8_add_37 ?_
        refine i_ast C dX8_add_38 (shT_2 hX) (fun M5 => ?_)
        exact (hj1  M5)
set_option maxRecDepth 100000 in
set_option maxHeartbeats 4000000 in
theorem c_X8_add (l : Launch) (G : Gx) {K : Kx} (hK : K = kP) {x1 : Int} {M : Mem} {res : Mem} (hM : OkM M) (ha : okS [aR 1, aI x1]) (hF : pTape_add x1 M = some res) : Ct l G K yX8_add (wsM yX8_add cX8_add 3 none) rmX8_add [aR 1, aI x1] M none res := by
  refine ct_of RX8 (by decide +kernel) rfl (hK ▸ kP_ok) hM ha (Nat.le_of_ble_eq_true rfl) hF ?_
  intro X C hl hG hX0 hN hR hq
  have hX : xK X = kP := hX0.trans hK
  show Im X 0 0 0 [(0, aR 1), (1, aI x1)] [] M res (pTape_add x1 M)
  unfold pTape_add
  have hl2 : 2 < xn X := by rw [hN]; decide
  refine i_bipush C dX8_add_0 kB_24 ?_
  refine i_istore_n C dX8_add_2 rfl hl2 (L' := [(0, aR 1), (1, aI x1), (2, aI 24)]) rfl ?_
  exact (w_X8_add_3 C hX hN hR hq x1 FU 24 M)
set_option maxRecDepth 100000 in
set_option maxHeartbeats 4000000 in
theorem c_X8_sortOf (l : Launch) (G : Gx) {K : Kx} (hK : K = kP) {x0 : Int} {M : Mem} {res : Int × Mem} (hM : OkM M) (ha : okS [aI x0]) (hF : pTape_sortOf x0 M = some res) : Ct l G K yX8_sortOf (wsM yX8_sortOf cX8_sortOf 1 (some .int)) rmX8_sortOf [aI x0] M (some (aI res.1)) res.2 := by
  refine ct_of RX8 (by decide +kernel) rfl (hK ▸ kP_ok) hM ha (Nat.le_of_ble_eq_true rfl) hF ?_
  intro X C hl hG hX0 hN hR hq
  have hX : xK X = kP := hX0.trans hK
  show Im X 0 0 0 [(0, aI x0)] [] M res (pTape_sortOf x0 M)
  unfold pTape_sortOf
  refine i_iload_n C dX8_sortOf_0 rfl (q := 0) rfl ?_
  refine i_bipush C dX8_sortOf_1 kB_97 ?_
  refine i_jn (fun j => ∀  (M2 : Mem), Im X 0 0 14 [(0, aI x0)] [] M2 res (j  M2)) ?_ (fun j1 hj1 => ?_)
  · intro  M2
    refine i_iload_n C dX8_sortOf_14 rfl (q := 0) rfl ?_
    refine i_bipush C dX8_sortOf_15 kB_48 ?_
    refine i_icmp_lt (tgt := 30) C dX8_sortOf_17 (by decide) ?_ ?_
    · refine i_iconst C dX8_sortOf_30 kI_1 ?_
      exact i_iret C hq dX8_sortOf_31
    · refine i_iload_n C dX8_sortOf_20 rfl (q := 0) rfl ?_
      refine i_bipush C dX8_sortOf_21 kB_57 ?_
      refine i_icmp_gt (tgt := 30) C dX8_sortOf_23 (by decide) ?_ ?_
      · refine i_iconst C dX8_sortOf_30 kI_1 ?_
        exact i_iret C hq dX8_sortOf_31
      · refine i_iconst C dX8_sortOf_26 kI_3 ?_
        refine i_goto (tgt := 31) C dX8_sortOf_27 (by decide) ?_
        exact i_iret C hq dX8_sortOf_31
  refine i_icmp_lt (tgt := 14) C dX8_sortOf_3 (by decide) ?_ ?_
  · exact (hj1  M)
  · refine i_iload_n C dX8_sortOf_6 rfl (q := 0) rfl ?_
    refine i_bipush C dX8_sortOf_7 kB_122 ?_
    refine i_icmp_gt (tgt := 14) C dX8_sortOf_9 (by decide) ?_ ?_
    · exact (hj1  M)
    · refine i_iconst C dX8_sortOf_12 kI_2 ?_
      exact i_iret C hq dX8_sortOf_13
set_option maxRecDepth 100000 in
set_option maxHeartbeats 4000000 in
theorem w_X8_advance_35 {X : Xc} (C : Cx X RX8 cX8_advance none) (hX : xK X = kP) (hN : xn X = 3) (hR : xR X = rmX8_advance) {res : Mem} (hq : Rq X none res) (y1 : Int) (y2 : Int) {k73 : Mem → Option (Mem)} (hk73 : ∀ (M : Mem), Im X 0 0 73 [(0, aR 1), (1, aI y1), (2, aI y2)] [] M res (k73 M)) : ∀ (n : Nat) (M : Mem), Im X 0 0 35 [(0, aR 1), (1, aI y1), (2, aI y2)] [] M res (lpX8_advance_35 y1 y2 k73 n M) := by
  have hl1 : 1 < xn X := by rw [hN]; decide
  have hl2 : 2 < xn X := by rw [hN]; decide
  intro n
  induction n with
  | zero => intro _; exact i_none
  | succ n ih =>
    intro M
    unfold lpX8_advance_35
    refine i_aload_n C dX8_advance_35 rfl (q := 0) rfl ?_
    refine i_getI C (k := 6) kX8 dX8_advance_36 (shT_1 hX) rfl (by decide) fl_X8_31 rfl ?_
    refine i_aload_n C dX8_advance_39 rfl (q := 0) rfl ?_
    refine i_getI C (k := 0) kX8 dX8_advance_40 (shT_1 hX) rfl (by decide) fl_X8_9 rfl ?_
    refine i_icmp_ge (tgt := 73) C dX8_advance_43 (by decide) ?_ ?_
    · exact (hk73  M)
    · refine i_aload_n C dX8_advance_46 rfl (q := 0) rfl ?_
      refine i_getR C (k := 1) kX8 dX8_advance_47 (shT_1 hX) rfl (by decide) fl_X8_15 ?_
      refine i_aload_n C dX8_advance_50 rfl (q := 0) rfl ?_
      refine i_getI C (k := 6) kX8 dX8_advance_51 (shT_1 hX) rfl (by decide) fl_X8_31 rfl ?_
      refine i_ald C dX8_advance_54 (shT_2 hX) (fun v6 => ?_)
      refine i_bipush C dX8_advance_55 kB_32 ?_
      refine i_icmp_ne (tgt := 73) C dX8_advance_57 (by decide) ?_ ?_
      · exact (hk73  M)
      · refine i_aload_n C dX8_advance_60 rfl (q := 0) rfl ?_
        refine i_dup C dX8_advance_61 rfl ?_
        refine i_getI C (k := 6) kX8 dX8_advance_62 (shT_1 hX) rfl (by decide) fl_X8_31 rfl ?_
        refine i_iconst C dX8_advance_65 kI_1 ?_
        refine i_iadd C dX8_advance_66 ?_
        refine i_putI C (k := 6) kX8 dX8_advance_67 (shT_1 hX) rfl (by decide) fl_X8_31 rfl rfl rfl rfl (fun M7 => ?_)
        refine i_goto (tgt := 35) C dX8_advance_70 (by decide) ?_
        exact (ih  M7)
set_option maxRecDepth 100000 in
set_option maxHeartbeats 4000000 in
theorem w_X8_advance_133 {X : Xc} (C : Cx X RX8 cX8_advance none) (hX : xK X = kP) (hN : xn X = 3) (hR : xR X = rmX8_advance) {res : Mem} (hq : Rq X none res) (y1 : Int) (y2 : Int) {k176 : Mem → Option (Mem)} (hk176 : ∀ (M : Mem), Im X 0 0 176 [(0, aR 1), (1, aI y1), (2, aI y2)] [] M res (k176 M)) : ∀ (n : Nat) (M : Mem), Im X 0 0 133 [(0, aR 1), (1, aI y1), (2, aI y2)] [] M res (lpX8_advance_133 y1 y2 k176 n M) := by
  have hl1 : 1 < xn X := by rw [hN]; decide
  have hl2 : 2 < xn X := by rw [hN]; decide
  have hRm : ∀ {rm : Room} {ny : Nat}, RmOk rmX8_advance rm ny → RmOk (xR X) rm ny := fun h => by rw [hR]; exact h
  intro n
  induction n with
  | zero => intro _; exact i_none
  | succ n ih =>
    intro M
    unfold lpX8_advance_133
    refine i_aload_n C dX8_advance_133 rfl (q := 0) rfl ?_
    refine i_getI C (k := 7) kX8 dX8_advance_134 (shT_1 hX) rfl (by decide) fl_X8_34 rfl ?_
    refine i_aload_n C dX8_advance_137 rfl (q := 0) rfl ?_
    refine i_getI C (k := 0) kX8 dX8_advance_138 (shT_1 hX) rfl (by decide) fl_X8_9 rfl ?_
    refine i_icmp_ge (tgt := 176) C dX8_advance_141 (by decide) ?_ ?_
    · exact (hk176  M)
    · refine i_aload_n C dX8_advance_144 rfl (q := 0) rfl ?_
      refine i_getR C (k := 1) kX8 dX8_advance_145 (shT_1 hX) rfl (by decide) fl_X8_15 ?_
      refine i_aload_n C dX8_advance_148 rfl (q := 0) rfl ?_
      refine i_getI C (k := 7) kX8 dX8_advance_149 (shT_1 hX) rfl (by decide) fl_X8_34 rfl ?_
      refine i_ald C dX8_advance_152 (shT_2 hX) (fun v16 => ?_)
      refine i_cI (kc' := 0) (ks' := 0) 0 0 1 (fun q hq hM hS => crS C (as := [aI v16]) dX8_advance_153.1 ml_X8_75 cal_X8_sortOf st_X8_sortOf (hRm ⟨Nat.le_of_ble_eq_true rfl, Nat.le_of_ble_eq_true rfl⟩) rfl (Nat.le_of_ble_eq_true rfl) (c_X8_sortOf (xl X) (xG X) hX hM ⟨hS.1, trivial⟩ hq)) (Nat.le_of_ble_eq_true rfl) (Nat.le_of_ble_eq_true rfl) rfl rfl rfl (fun v18 M17 => ?_)
      refine i_aload_n C dX8_advance_156 rfl (q := 0) rfl ?_
      refine i_getI C (k := 8) kX8 dX8_advance_157 (shT_1 hX) rfl (by decide) fl_X8_37 rfl ?_
      refine i_icmp_ne (tgt := 176) C dX8_advance_160 (by decide) ?_ ?_
      · exact (hk176  M17)
      · refine i_aload_n C dX8_advance_163 rfl (q := 0) rfl ?_
        refine i_dup C dX8_advance_164 rfl ?_
        refine i_getI C (k := 7) kX8 dX8_advance_165 (shT_1 hX) rfl (by decide) fl_X8_34 rfl ?_
        refine i_iconst C dX8_advance_168 kI_1 ?_
        refine i_iadd C dX8_advance_169 ?_
        refine i_putI C (k := 7) kX8 dX8_advance_170 (shT_1 hX) rfl (by decide) fl_X8_34 rfl rfl rfl rfl (fun M19 => ?_)
        refine i_goto (tgt := 133) C dX8_advance_173 (by decide) ?_
        exact (ih  M19)
set_option maxRecDepth 100000 in
set_option maxHeartbeats 4000000 in
theorem c_X8_advance (l : Launch) (G : Gx) {K : Kx} (hK : K = kP) {M : Mem} {res : Mem} (hM : OkM M) (ha : okS [aR 1]) (hF : pTape_advance M = some res) : Ct l G K yX8_advance (wsM yX8_advance cX8_advance 3 none) rmX8_advance [aR 1] M none res := by
  refine ct_of RX8 (by decide +kernel) rfl (hK ▸ kP_ok) hM ha (Nat.le_of_ble_eq_true rfl) hF ?_
  intro X C hl hG hX0 hN hR hq
  have hX : xK X = kP := hX0.trans hK
  show Im X 0 0 0 [(0, aR 1)] [] M res (pTape_advance  M)
  unfold pTape_advance
  have hl1 : 1 < xn X := by rw [hN]; decide
  have hl2 : 2 < xn X := by rw [hN]; decide
  have hRm : ∀ {rm : Room} {ny : Nat}, RmOk rmX8_advance rm ny → RmOk (xR X) rm ny := fun h => by rw [hR]; exact h
  refine i_aload_n C dX8_advance_0 rfl (q := 0) rfl ?_
  refine i_getI C (k := 8) kX8 dX8_advance_1 (shT_1 hX) rfl (by decide) fl_X8_37 rfl ?_
  refine i_iconst C dX8_advance_4 kI_2 ?_
  refine i_jn (fun j => ∀ (p1 : Int) (M3 : Mem), Im X 0 0 21 [(0, aR 1)] [aI p1] M3 res (j p1 M3)) ?_ (fun j2 hj2 => ?_)
  · intro p1 M3
    refine i_istore_n C dX8_advance_21 rfl hl1 (L' := [(0, aR 1), (1, aI p1)]) rfl ?_
    refine i_aload_n C dX8_advance_22 rfl (q := 0) rfl ?_
    refine i_getI C (k := 7) kX8 dX8_advance_23 (shT_1 hX) rfl (by decide) fl_X8_34 rfl ?_
    refine i_nm (fun v4 => ?_)
    refine i_istore_n C dX8_advance_26 rfl hl2 (L' := [(0, aR 1), (1, aI p1), (2, aI v4)]) rfl ?_
    refine i_aload_n C dX8_advance_27 rfl (q := 0) rfl ?_
    refine i_aload_n C dX8_advance_28 rfl (q := 0) rfl ?_
    refine i_getI C (k := 7) kX8 dX8_advance_29 (shT_1 hX) rfl (by decide) fl_X8_34 rfl ?_
    refine i_putI C (k := 6) kX8 dX8_advance_32 (shT_1 hX) rfl (by decide) fl_X8_31 rfl rfl rfl rfl (fun M5 => ?_)
    refine (w_X8_advance_35 C hX hN hR hq p1 v4 (fun M8 => ?_) FU M5)
    refine i_aload_n C dX8_advance_73 rfl (q := 0) rfl ?_
    refine i_aload_n C dX8_advance_74 rfl (q := 0) rfl ?_
    refine i_getI C (k := 6) kX8 dX8_advance_75 (shT_1 hX) rfl (by decide) fl_X8_31 rfl ?_
    refine i_putI C (k := 7) kX8 dX8_advance_78 (shT_1 hX) rfl (by decide) fl_X8_34 rfl rfl rfl rfl (fun M9 => ?_)
    refine i_aload_n C dX8_advance_81 rfl (q := 0) rfl ?_
    refine i_iconst C dX8_advance_82 kI_0 ?_
    refine i_putI C (k := 8) kX8 dX8_advance_83 (shT_1 hX) rfl (by decide) fl_X8_37 rfl rfl rfl rfl (fun M10 => ?_)
    refine i_aload_n C dX8_advance_86 rfl (q := 0) rfl ?_
    refine i_getI C (k := 6) kX8 dX8_advance_87 (shT_1 hX) rfl (by decide) fl_X8_31 rfl ?_
    refine i_aload_n C dX8_advance_90 rfl (q := 0) rfl ?_
    refine i_getI C (k := 0) kX8 dX8_advance_91 (shT_1 hX) rfl (by decide) fl_X8_9 rfl ?_
    refine i_icmp_lt (tgt := 98) C dX8_advance_94 (by decide) ?_ ?_
    · refine i_aload_n C dX8_advance_98 rfl (q := 0) rfl ?_
      refine i_aload_n C dX8_advance_99 rfl (q := 0) rfl ?_
      refine i_getR C (k := 1) kX8 dX8_advance_100 (shT_1 hX) rfl (by decide) fl_X8_15 ?_
      refine i_aload_n C dX8_advance_103 rfl (q := 0) rfl ?_
      refine i_getI C (k := 6) kX8 dX8_advance_104 (shT_1 hX) rfl (by decide) fl_X8_31 rfl ?_
      refine i_ald C dX8_advance_107 (shT_2 hX) (fun v11 => ?_)
      refine i_cI (kc' := 0) (ks' := 0) 0 0 1 (fun q hq hM hS => crS C (as := [aI v11]) dX8_advance_108.1 ml_X8_75 cal_X8_sortOf st_X8_sortOf (hRm ⟨Nat.le_of_ble_eq_true rfl, Nat.le_of_ble_eq_true rfl⟩) rfl (Nat.le_of_ble_eq_true rfl) (c_X8_sortOf (xl X) (xG X) hX hM ⟨hS.1, trivial⟩ hq)) (Nat.le_of_ble_eq_true rfl) (Nat.le_of_ble_eq_true rfl) rfl rfl rfl (fun v13 M12 => ?_)
      refine i_putI C (k := 8) kX8 dX8_advance_111 (shT_1 hX) rfl (by decide) fl_X8_37 rfl rfl rfl rfl (fun M14 => ?_)
      refine i_aload_n C dX8_advance_114 rfl (q := 0) rfl ?_
      refine i_dup C dX8_advance_115 rfl ?_
      refine i_getI C (k := 7) kX8 dX8_advance_116 (shT_1 hX) rfl (by decide) fl_X8_34 rfl ?_
      refine i_iconst C dX8_advance_119 kI_1 ?_
      refine i_iadd C dX8_advance_120 ?_
      refine i_putI C (k := 7) kX8 dX8_advance_121 (shT_1 hX) rfl (by decide) fl_X8_34 rfl rfl rfl rfl (fun M15 => ?_)
      refine i_aload_n C dX8_advance_124 rfl (q := 0) rfl ?_
      refine i_getI C (k := 8) kX8 dX8_advance_125 (shT_1 hX) rfl (by decide) fl_X8_37 rfl ?_
      refine i_iconst C dX8_advance_128 kI_1 ?_
      refine i_icmp_ne (tgt := 133) C dX8_advance_129 (by decide) ?_ ?_
      · refine (w_X8_advance_133 C hX hN hR hq p1 v4 (fun M20 => ?_) FU M15)
        refine i_iload_n C dX8_advance_176 rfl (q := 1) rfl ?_
        refine i_if_eq (tgt := 193) C dX8_advance_177 (by decide) ?_ ?_
        · exact i_vret C hq dX8_advance_193
        · refine i_aload_n C dX8_advance_180 rfl (q := 0) rfl ?_
          refine i_getI C (k := 6) kX8 dX8_advance_181 (shT_1 hX) rfl (by decide) fl_X8_31 rfl ?_
          refine i_iload_n C dX8_advance_184 rfl (q := 2) rfl ?_
          refine i_icmp_ne (tgt := 193) C dX8_advance_185 (by decide) ?_ ?_
          · exact i_vret C hq dX8_advance_193
          · refine i_aload_n C dX8_advance_188 rfl (q := 0) rfl ?_
            refine i_iconst C dX8_advance_189 kI_4 ?_
            refine i_putI C (k := 8) kX8 dX8_advance_190 (shT_1 hX) rfl (by decide) fl_X8_37 rfl rfl rfl rfl (fun M21 => ?_)
            exact i_vret C hq dX8_advance_193
      · exact i_vret C hq dX8_advance_132
    · exact i_vret C hq dX8_advance_97
  refine i_jn (fun j => ∀  (M23 : Mem), Im X 0 0 16 [(0, aR 1)] [] M23 res (j  M23)) ?_ (fun j22 hj22 => ?_)
  · intro  M23
    refine i_iconst C dX8_advance_16 kI_1 ?_
    refine i_goto (tgt := 21) C dX8_advance_17 (by decide) ?_
    exact (hj2 1 M23)
  refine i_icmp_eq (tgt := 16) C dX8_advance_5 (by decide) ?_ ?_
  · exact (hj22  M)
  · refine i_aload_n C dX8_advance_8 rfl (q := 0) rfl ?_
    refine i_getI C (k := 8) kX8 dX8_advance_9 (shT_1 hX) rfl (by decide) fl_X8_37 rfl ?_
    refine i_iconst C dX8_advance_12 kI_3 ?_
    refine i_icmp_ne (tgt := 20) C dX8_advance_13 (by decide) ?_ ?_
    · refine i_iconst C dX8_advance_20 kI_0 ?_
      exact (hj2 0 M)
    · exact (hj22  M)
set_option maxRecDepth 100000 in
set_option maxHeartbeats 4000000 in
theorem c_X8_keyWord (l : Launch) (G : Gx) {K : Kx} (hK : K = kP) {x0 : Int} {M : Mem} {res : Nat × Mem} (hM : OkM M) (ha : okS [aI x0]) (hF : pTape_keyWord x0 M = some res) : Ct l G K yX8_keyWord (wsM yX8_keyWord cX8_keyWord 1 (some (.object "java/lang/String"))) rmX8_keyWord [aI x0] M (some (aR (9000 + res.1))) res.2 := by
  refine ct_of RX8 (by decide +kernel) rfl (hK ▸ kP_ok) hM ha (Nat.le_of_ble_eq_true rfl) hF ?_
  intro X C hl hG hX0 hN hR hq
  have hX : xK X = kP := hX0.trans hK
  show Im X 0 0 0 [(0, aI x0)] [] M res (pTape_keyWord x0 M)
  unfold pTape_keyWord
  refine i_iload_n C dX8_keyWord_0 rfl (q := 0) rfl ?_
  refine i_split (fun e1 => ?_) (fun e1 => ?_)
  · refine i_tswIn (tgt := 32) C dX8_keyWord_1 e1 (by decide) (by decide) rfl (by decide) ?_
    refine i_ldcS C 0 dX8_keyWord_32 rfl rfl ?_
    exact i_aretS C (Or.inl ⟨_, rfl⟩) hq dX8_keyWord_34
  refine i_split (fun e2 => ?_) (fun e2 => ?_)
  · refine i_tswIn (tgt := 35) C dX8_keyWord_1 e2 (by decide) (by decide) rfl (by decide) ?_
    refine i_ldcS C 1 dX8_keyWord_35 rfl rfl ?_
    exact i_aretS C (Or.inl ⟨_, rfl⟩) hq dX8_keyWord_37
  refine i_split (fun e3 => ?_) (fun e3 => ?_)
  · refine i_tswIn (tgt := 38) C dX8_keyWord_1 e3 (by decide) (by decide) rfl (by decide) ?_
    refine i_ldcS C 2 dX8_keyWord_38 rfl rfl ?_
    exact i_aretS C (Or.inl ⟨_, rfl⟩) hq dX8_keyWord_40
  refine i_split (fun e4 => ?_) (fun e4 => ?_)
  · refine i_tswIn (tgt := 41) C dX8_keyWord_1 e4 (by decide) (by decide) rfl (by decide) ?_
    refine i_ldcS C 3 dX8_keyWord_41 rfl rfl ?_
    exact i_aretS C (Or.inl ⟨_, rfl⟩) hq dX8_keyWord_43
  refine i_tswOut (tgt := 44) C dX8_keyWord_1 (by omega) (by decide) ?_
  refine i_ldcS C 4 dX8_keyWord_44 rfl rfl ?_
  exact i_aretS C (Or.inl ⟨_, rfl⟩) hq dX8_keyWord_46
set_option maxRecDepth 100000 in
set_option maxHeartbeats 4000000 in
theorem w_X8_isHere_20 {X : Xc} (C : Cx X RX8 cX8_isHere (some .boolean)) (hX : xK X = kP) (hN : xn X = 3) (hR : xR X = rmX8_isHere) {w : Nat} (hw : w < 11) {res : Int × Mem} (hq : Rq X (some (aI res.1)) res.2) : ∀ (n : Nat) (u2 : Int) (M : Mem), Im X 0 0 20 [(0, aR 1), (1, aR (9000 + w)), (2, aI u2)] [] M res (lpX8_isHere_20 w n u2 M) := by
  have hl2 : 2 < xn X := by rw [hN]; decide
  have hRm : ∀ {rm : Room} {ny : Nat}, RmOk rmX8_isHere rm ny → RmOk (xR X) rm ny := fun h => by rw [hR]; exact h
  intro n
  induction n with
  | zero => intro _ _; exact i_none
  | succ n ih =>
    intro u2 M
    unfold lpX8_isHere_20
    refine i_iload_n C dX8_isHere_20 rfl (q := 2) rfl ?_
    refine i_aload_n C dX8_isHere_21 rfl (q := 1) rfl ?_
    refine i_cI (kc' := 0) (ks' := 0) 0 0 1 (fun q hq hM hS => crVS C (as := []) dX8_isHere_22.1 hw ml_X8_87 cal_J0_length_8abf5 cv_J0_length_8abf5 (hRm ⟨Nat.le_of_ble_eq_true rfl, Nat.le_of_ble_eq_true rfl⟩) rfl (Nat.le_of_ble_eq_true rfl) (c_J0_length_8abf5 (xl X) (xG X) hX hw hM ⟨hS.1, trivial⟩ hq)) (Nat.le_of_ble_eq_true rfl) (Nat.le_of_ble_eq_true rfl) rfl rfl rfl (fun v4 M3 => ?_)
    refine i_icmp_ge (tgt := 55) C dX8_isHere_25 (by decide) ?_ ?_
    · refine i_iconst C dX8_isHere_55 kI_1 ?_
      exact i_zret C hq dX8_isHere_56 (Or.inr rfl)
    · refine i_aload_n C dX8_isHere_28 rfl (q := 1) rfl ?_
      refine i_iload_n C dX8_isHere_29 rfl (q := 2) rfl ?_
      refine i_cI (kc' := 0) (ks' := 0) 0 0 2 (fun q hq hM hS => crVS C (as := [aI u2]) dX8_isHere_30.1 hw ml_X8_91 cal_J0_charAt_5068e cv_J0_charAt_5068e (hRm ⟨Nat.le_of_ble_eq_true rfl, Nat.le_of_ble_eq_true rfl⟩) rfl (Nat.le_of_ble_eq_true rfl) (c_J0_charAt_5068e (xl X) (xG X) hX hw hM ⟨hS.2.1, hS.1, trivial⟩ hq)) (Nat.le_of_ble_eq_true rfl) (Nat.le_of_ble_eq_true rfl) rfl rfl rfl (fun v6 M5 => ?_)
      refine i_aload_n C dX8_isHere_33 rfl (q := 0) rfl ?_
      refine i_getR C (k := 1) kX8 dX8_isHere_34 (shT_1 hX) rfl (by decide) fl_X8_15 ?_
      refine i_aload_n C dX8_isHere_37 rfl (q := 0) rfl ?_
      refine i_getI C (k := 6) kX8 dX8_isHere_38 (shT_1 hX) rfl (by decide) fl_X8_31 rfl ?_
      refine i_iload_n C dX8_isHere_41 rfl (q := 2) rfl ?_
      refine i_iadd C dX8_isHere_42 ?_
      refine i_ald C dX8_isHere_43 (shT_2 hX) (fun v7 => ?_)
      refine i_icmp_eq (tgt := 49) C dX8_isHere_44 (by decide) ?_ ?_
      · refine i_iincN (L' := fun v8 => [(0, aR 1), (1, aR (9000 + w)), (2, aI v8)]) C dX8_isHere_49 (q := 2) rfl hl2 (fun _ => rfl) (fun v8 => ?_)
        refine i_goto (tgt := 20) C dX8_isHere_52 (by decide) ?_
        exact (ih v8 M5)
      · refine i_iconst C dX8_isHere_47 kI_0 ?_
        exact i_zret C hq dX8_isHere_48 (Or.inl rfl)
set_option maxRecDepth 100000 in
set_option maxHeartbeats 4000000 in
theorem c_X8_isHere (l : Launch) (G : Gx) {K : Kx} (hK : K = kP) {w : Nat} (hw : w < 11) {M : Mem} {res : Int × Mem} (hM : OkM M) (ha : okS [aR 1, aR (9000 + w)]) (hF : pTape_isHere w M = some res) : Ct l G K yX8_isHere (wsM yX8_isHere cX8_isHere 3 (some .boolean)) rmX8_isHere [aR 1, aR (9000 + w)] M (some (aI res.1)) res.2 := by
  refine ct_of RX8 (by decide +kernel) rfl (hK ▸ kP_ok) hM ha (Nat.le_of_ble_eq_true rfl) hF ?_
  intro X C hl hG hX0 hN hR hq
  have hX : xK X = kP := hX0.trans hK
  show Im X 0 0 0 [(0, aR 1), (1, aR (9000 + w))] [] M res (pTape_isHere w M)
  unfold pTape_isHere
  have hl2 : 2 < xn X := by rw [hN]; decide
  have hRm : ∀ {rm : Room} {ny : Nat}, RmOk rmX8_isHere rm ny → RmOk (xR X) rm ny := fun h => by rw [hR]; exact h
  refine i_aload_n C dX8_isHere_0 rfl (q := 1) rfl ?_
  refine i_cI (kc' := 0) (ks' := 0) 0 0 1 (fun q hq hM hS => crVS C (as := []) dX8_isHere_1.1 hw ml_X8_87 cal_J0_length_8abf5 cv_J0_length_8abf5 (hRm ⟨Nat.le_of_ble_eq_true rfl, Nat.le_of_ble_eq_true rfl⟩) rfl (Nat.le_of_ble_eq_true rfl) (c_J0_length_8abf5 (xl X) (xG X) hX hw hM ⟨hS.1, trivial⟩ hq)) (Nat.le_of_ble_eq_true rfl) (Nat.le_of_ble_eq_true rfl) rfl rfl rfl (fun v2 M1 => ?_)
  refine i_aload_n C dX8_isHere_4 rfl (q := 0) rfl ?_
  refine i_getI C (k := 7) kX8 dX8_isHere_5 (shT_1 hX) rfl (by decide) fl_X8_34 rfl ?_
  refine i_aload_n C dX8_isHere_8 rfl (q := 0) rfl ?_
  refine i_getI C (k := 6) kX8 dX8_isHere_9 (shT_1 hX) rfl (by decide) fl_X8_31 rfl ?_
  refine i_isub C dX8_isHere_12 ?_
  refine i_icmp_eq (tgt := 18) C dX8_isHere_13 (by decide) ?_ ?_
  · refine i_iconst C dX8_isHere_18 kI_0 ?_
    refine i_istore_n C dX8_isHere_19 rfl hl2 (L' := [(0, aR 1), (1, aR (9000 + w)), (2, aI 0)]) rfl ?_
    exact (w_X8_isHere_20 C hX hN hR hw hq FU 0 M1)
  · refine i_iconst C dX8_isHere_16 kI_0 ?_
    exact i_zret C hq dX8_isHere_17 (Or.inl rfl)
set_option maxRecDepth 100000 in
set_option maxHeartbeats 4000000 in
theorem w_X8_keyHere_2 {X : Xc} (C : Cx X RX8 cX8_keyHere (some .int)) (hX : xK X = kP) (hN : xn X = 2) (hR : xR X = rmX8_keyHere) {res : Int × Mem} (hq : Rq X (some (aI res.1)) res.2) : ∀ (n : Nat) (u1 : Int) (M : Mem), Im X 0 0 2 [(0, aR 1), (1, aI u1)] [] M res (lpX8_keyHere_2 n u1 M) := by
  have hl1 : 1 < xn X := by rw [hN]; decide
  have hRm : ∀ {rm : Room} {ny : Nat}, RmOk rmX8_keyHere rm ny → RmOk (xR X) rm ny := fun h => by rw [hR]; exact h
  intro n
  induction n with
  | zero => intro _ _; exact i_none
  | succ n ih =>
    intro u1 M
    unfold lpX8_keyHere_2
    refine i_iload_n C dX8_keyHere_2 rfl (q := 1) rfl ?_
    refine i_iconst C dX8_keyHere_3 kI_4 ?_
    refine i_icmp_gt (tgt := 34) C dX8_keyHere_4 (by decide) ?_ ?_
    · refine i_ldc C dX8_keyHere_34 kc_X8_63 kI_m1000000005 ?_
      exact i_iret C hq dX8_keyHere_36
    · refine i_aload_n C dX8_keyHere_7 rfl (q := 0) rfl ?_
      refine i_getI C (k := 8) kX8 dX8_keyHere_8 (shT_1 hX) rfl (by decide) fl_X8_37 rfl ?_
      refine i_iconst C dX8_keyHere_11 kI_2 ?_
      refine i_jn (fun j => ∀  (M2 : Mem), Im X 0 0 28 [(0, aR 1), (1, aI u1)] [] M2 res (j  M2)) ?_ (fun j1 hj1 => ?_)
      · intro  M2
        refine i_iincN (L' := fun v3 => [(0, aR 1), (1, aI v3)]) C dX8_keyHere_28 (q := 1) rfl hl1 (fun _ => rfl) (fun v3 => ?_)
        refine i_goto (tgt := 2) C dX8_keyHere_31 (by decide) ?_
        exact (ih v3 M2)
      refine i_icmp_ne (tgt := 28) C dX8_keyHere_12 (by decide) ?_ ?_
      · exact (hj1  M)
      · refine i_aload_n C dX8_keyHere_15 rfl (q := 0) rfl ?_
        refine i_iload_n C dX8_keyHere_16 rfl (q := 1) rfl ?_
        refine i_cS (kc' := 0) (ks' := 0) 0 0 1 (fun q hq hM hS => crS C (as := [aI u1]) dX8_keyHere_17.1 ml_X8_79 cal_X8_keyWord st_X8_keyWord (hRm ⟨Nat.le_of_ble_eq_true rfl, Nat.le_of_ble_eq_true rfl⟩) rfl (Nat.le_of_ble_eq_true rfl) (c_X8_keyWord (xl X) (xG X) hX hM ⟨hS.1, trivial⟩ hq)) (Nat.le_of_ble_eq_true rfl) (Nat.le_of_ble_eq_true rfl) rfl rfl rfl (fun t5 M4 ht5 => ?_)
        refine i_cI (kc' := 0) (ks' := 0) 0 0 2 (fun q hq hM hS => crV C (as := [aR (9000 + t5)]) dX8_keyHere_20.1 kX8 (shT_1 hX) ml_X8_83 cal_X8_isHere cv_X8_isHere (hRm ⟨Nat.le_of_ble_eq_true rfl, Nat.le_of_ble_eq_true rfl⟩) rfl (Nat.le_of_ble_eq_true rfl) (c_X8_isHere (xl X) (xG X) hX ht5 hM ⟨hS.2.1, hS.1, trivial⟩ hq)) (Nat.le_of_ble_eq_true rfl) (Nat.le_of_ble_eq_true rfl) rfl rfl rfl (fun v7 M6 => ?_)
        refine i_if_eq (tgt := 28) C dX8_keyHere_23 (by decide) ?_ ?_
        · exact (hj1  M6)
        · refine i_iload_n C dX8_keyHere_26 rfl (q := 1) rfl ?_
          exact i_iret C hq dX8_keyHere_27
set_option maxRecDepth 100000 in
set_option maxHeartbeats 4000000 in
theorem c_X8_keyHere (l : Launch) (G : Gx) {K : Kx} (hK : K = kP) {M : Mem} {res : Int × Mem} (hM : OkM M) (ha : okS [aR 1]) (hF : pTape_keyHere M = some res) : Ct l G K yX8_keyHere (wsM yX8_keyHere cX8_keyHere 2 (some .int)) rmX8_keyHere [aR 1] M (some (aI res.1)) res.2 := by
  refine ct_of RX8 (by decide +kernel) rfl (hK ▸ kP_ok) hM ha (Nat.le_of_ble_eq_true rfl) hF ?_
  intro X C hl hG hX0 hN hR hq
  have hX : xK X = kP := hX0.trans hK
  show Im X 0 0 0 [(0, aR 1)] [] M res (pTape_keyHere  M)
  unfold pTape_keyHere
  have hl1 : 1 < xn X := by rw [hN]; decide
  have hRm : ∀ {rm : Room} {ny : Nat}, RmOk rmX8_keyHere rm ny → RmOk (xR X) rm ny := fun h => by rw [hR]; exact h
  refine i_iconst C dX8_keyHere_0 kI_0 ?_
  refine i_istore_n C dX8_keyHere_1 rfl hl1 (L' := [(0, aR 1), (1, aI 0)]) rfl ?_
  exact (w_X8_keyHere_2 C hX hN hR hq FU 0 M)
set_option maxRecDepth 100000 in
set_option maxHeartbeats 4000000 in
theorem w_X8_numberHere_7 {X : Xc} (C : Cx X RX8 cX8_numberHere (some .int)) (hX : xK X = kP) (hN : xn X = 3) (hR : xR X = rmX8_numberHere) {res : Int × Mem} (hq : Rq X (some (aI res.1)) res.2) : ∀ (n : Nat) (u1 : Int) (u2 : Int) (M : Mem), Im X 0 0 7 [(0, aR 1), (1, aI u1), (2, aI u2)] [] M res (lpX8_numberHere_7 n u1 u2 M) := by
  have hl1 : 1 < xn X := by rw [hN]; decide
  have hl2 : 2 < xn X := by rw [hN]; decide
  intro n
  induction n with
  | zero => intro _ _ _; exact i_none
  | succ n ih =>
    intro u1 u2 M
    unfold lpX8_numberHere_7
    refine i_iload_n C dX8_numberHere_7 rfl (q := 2) rfl ?_
    refine i_aload_n C dX8_numberHere_8 rfl (q := 0) rfl ?_
    refine i_getI C (k := 7) kX8 dX8_numberHere_9 (shT_1 hX) rfl (by decide) fl_X8_34 rfl ?_
    refine i_icmp_ge (tgt := 36) C dX8_numberHere_12 (by decide) ?_ ?_
    · refine i_iload_n C dX8_numberHere_36 rfl (q := 1) rfl ?_
      exact i_iret C hq dX8_numberHere_37
    · refine i_bipush C dX8_numberHere_15 kB_10 ?_
      refine i_iload_n C dX8_numberHere_17 rfl (q := 1) rfl ?_
      refine i_imul C dX8_numberHere_18 ?_
      refine i_aload_n C dX8_numberHere_19 rfl (q := 0) rfl ?_
      refine i_getR C (k := 1) kX8 dX8_numberHere_20 (shT_1 hX) rfl (by decide) fl_X8_15 ?_
      refine i_iload_n C dX8_numberHere_23 rfl (q := 2) rfl ?_
      refine i_ald C dX8_numberHere_24 (shT_2 hX) (fun v2 => ?_)
      refine i_iadd C dX8_numberHere_25 ?_
      refine i_bipush C dX8_numberHere_26 kB_48 ?_
      refine i_isub C dX8_numberHere_28 ?_
      refine i_nm (fun v3 => ?_)
      refine i_istore_n C dX8_numberHere_29 rfl hl1 (L' := [(0, aR 1), (1, aI v3), (2, aI u2)]) rfl ?_
      refine i_iincN (L' := fun v4 => [(0, aR 1), (1, aI v3), (2, aI v4)]) C dX8_numberHere_30 (q := 2) rfl hl2 (fun _ => rfl) (fun v4 => ?_)
      refine i_goto (tgt := 7) C dX8_numberHere_33 (by decide) ?_
      exact (ih v3 v4 M)
set_option maxRecDepth 100000 in
set_option maxHeartbeats 4000000 in
theorem c_X8_numberHere (l : Launch) (G : Gx) {K : Kx} (hK : K = kP) {M : Mem} {res : Int × Mem} (hM : OkM M) (ha : okS [aR 1]) (hF : pTape_numberHere M = some res) : Ct l G K yX8_numberHere (wsM yX8_numberHere cX8_numberHere 3 (some .int)) rmX8_numberHere [aR 1] M (some (aI res.1)) res.2 := by
  refine ct_of RX8 (by decide +kernel) rfl (hK ▸ kP_ok) hM ha (Nat.le_of_ble_eq_true rfl) hF ?_
  intro X C hl hG hX0 hN hR hq
  have hX : xK X = kP := hX0.trans hK
  show Im X 0 0 0 [(0, aR 1)] [] M res (pTape_numberHere  M)
  unfold pTape_numberHere
  have hl1 : 1 < xn X := by rw [hN]; decide
  have hl2 : 2 < xn X := by rw [hN]; decide
  refine i_iconst C dX8_numberHere_0 kI_0 ?_
  refine i_istore_n C dX8_numberHere_1 rfl hl1 (L' := [(0, aR 1), (1, aI 0)]) rfl ?_
  refine i_aload_n C dX8_numberHere_2 rfl (q := 0) rfl ?_
  refine i_getI C (k := 6) kX8 dX8_numberHere_3 (shT_1 hX) rfl (by decide) fl_X8_31 rfl ?_
  refine i_nm (fun v1 => ?_)
  refine i_istore_n C dX8_numberHere_6 rfl hl2 (L' := [(0, aR 1), (1, aI 0), (2, aI v1)]) rfl ?_
  exact (w_X8_numberHere_7 C hX hN hR hq FU 0 v1 M)
set_option maxRecDepth 100000 in
set_option maxHeartbeats 4000000 in
theorem c_X8_emit (l : Launch) (G : Gx) {K : Kx} (hK : K = kP) {x1 : Int} {M : Mem} {res : Mem} (hM : OkM M) (ha : okS [aR 1, aI x1]) (hF : pTape_emit x1 M = some res) : Ct l G K yX8_emit (wsM yX8_emit cX8_emit 2 none) rmX8_emit [aR 1, aI x1] M none res := by
  refine ct_of RX8 (by decide +kernel) rfl (hK ▸ kP_ok) hM ha (Nat.le_of_ble_eq_true rfl) hF ?_
  intro X C hl hG hX0 hN hR hq
  have hX : xK X = kP := hX0.trans hK
  show Im X 0 0 0 [(0, aR 1), (1, aI x1)] [] M res (pTape_emit x1 M)
  unfold pTape_emit
  refine i_aload_n C dX8_emit_0 rfl (q := 0) rfl ?_
  refine i_getI C (k := 4) kX8 dX8_emit_1 (shT_1 hX) rfl (by decide) fl_X8_25 rfl ?_
  refine i_bipush C dX8_emit_4 kB_96 ?_
  refine i_icmp_ge (tgt := 26) C dX8_emit_6 (by decide) ?_ ?_
  · exact i_vret C hq dX8_emit_26
  · refine i_aload_n C dX8_emit_9 rfl (q := 0) rfl ?_
    refine i_getR C (k := 5) kX8 dX8_emit_10 (shT_1 hX) rfl (by decide) fl_X8_28 ?_
    refine i_aload_n C dX8_emit_13 rfl (q := 0) rfl ?_
    refine i_dup C dX8_emit_14 rfl ?_
    refine i_getI C (k := 4) kX8 dX8_emit_15 (shT_1 hX) rfl (by decide) fl_X8_25 rfl ?_
    refine i_dup_x1 C dX8_emit_18 rfl rfl ?_
    refine i_iconst C dX8_emit_19 kI_1 ?_
    refine i_iadd C dX8_emit_20 ?_
    refine i_putI C (k := 4) kX8 dX8_emit_21 (shT_1 hX) rfl (by decide) fl_X8_25 rfl rfl rfl rfl (fun M1 => ?_)
    refine i_iload_n C dX8_emit_24 rfl (q := 1) rfl ?_
    refine i_ast C dX8_emit_25 (shT_3 hX) (fun M2 => ?_)
    exact i_vret C hq dX8_emit_26
set_option maxRecDepth 100000 in
set_option maxHeartbeats 4000000 in
theorem w_X8_releaseNots_0 {X : Xc} (C : Cx X RX8 cX8_releaseNots none) (hX : xK X = kP) (hN : xn X = 1) (hR : xR X = rmX8_releaseNots) {res : Mem} (hq : Rq X none res) : ∀ (n : Nat) (M : Mem), Im X 0 0 0 [(0, aR 1)] [] M res (lpX8_releaseNots_0 n M) := by
  have hRm : ∀ {rm : Room} {ny : Nat}, RmOk rmX8_releaseNots rm ny → RmOk (xR X) rm ny := fun h => by rw [hR]; exact h
  intro n
  induction n with
  | zero => intro _; exact i_none
  | succ n ih =>
    intro M
    unfold lpX8_releaseNots_0
    refine i_aload_n C dX8_releaseNots_0 rfl (q := 0) rfl ?_
    refine i_getI C (k := 10) kX8 dX8_releaseNots_1 (shT_1 hX) rfl (by decide) fl_X8_43 rfl ?_
    refine i_if_le (tgt := 54) C dX8_releaseNots_4 (by decide) ?_ ?_
    · exact i_vret C hq dX8_releaseNots_54
    · refine i_aload_n C dX8_releaseNots_7 rfl (q := 0) rfl ?_
      refine i_getR C (k := 9) kX8 dX8_releaseNots_8 (shT_1 hX) rfl (by decide) fl_X8_40 ?_
      refine i_aload_n C dX8_releaseNots_11 rfl (q := 0) rfl ?_
      refine i_getI C (k := 10) kX8 dX8_releaseNots_12 (shT_1 hX) rfl (by decide) fl_X8_43 rfl ?_
      refine i_iconst C dX8_releaseNots_15 kI_1 ?_
      refine i_isub C dX8_releaseNots_16 ?_
      refine i_ald C dX8_releaseNots_17 (shT_4 hX) (fun v1 => ?_)
      refine i_sipush C dX8_releaseNots_18 kS_20009 ?_
      refine i_icmp_ne (tgt := 54) C dX8_releaseNots_21 (by decide) ?_ ?_
      · exact i_vret C hq dX8_releaseNots_54
      · refine i_aload_n C dX8_releaseNots_24 rfl (q := 0) rfl ?_
        refine i_sipush C dX8_releaseNots_25 kS_20009 ?_
        refine i_cV (kc' := 0) (ks' := 0) 0 0 2 (fun q hq hM hS => crV C (as := [aI 20009]) dX8_releaseNots_28.1 kX8 (shT_1 hX) ml_X8_130 cal_X8_emit cv_X8_emit (hRm ⟨Nat.le_of_ble_eq_true rfl, Nat.le_of_ble_eq_true rfl⟩) rfl (Nat.le_of_ble_eq_true rfl) (c_X8_emit (xl X) (xG X) hX hM ⟨hS.2.1, hS.1, trivial⟩ hq)) (Nat.le_of_ble_eq_true rfl) (Nat.le_of_ble_eq_true rfl) rfl rfl rfl (fun M2 => ?_)
        refine i_aload_n C dX8_releaseNots_31 rfl (q := 0) rfl ?_
        refine i_dup C dX8_releaseNots_32 rfl ?_
        refine i_getI C (k := 10) kX8 dX8_releaseNots_33 (shT_1 hX) rfl (by decide) fl_X8_43 rfl ?_
        refine i_iconst C dX8_releaseNots_36 kI_1 ?_
        refine i_isub C dX8_releaseNots_37 ?_
        refine i_putI C (k := 10) kX8 dX8_releaseNots_38 (shT_1 hX) rfl (by decide) fl_X8_43 rfl rfl rfl rfl (fun M3 => ?_)
        refine i_aload_n C dX8_releaseNots_41 rfl (q := 0) rfl ?_
        refine i_dup C dX8_releaseNots_42 rfl ?_
        refine i_getI C (k := 12) kX8 dX8_releaseNots_43 (shT_1 hX) rfl (by decide) fl_X8_49 rfl ?_
        refine i_iconst C dX8_releaseNots_46 kI_1 ?_
        refine i_isub C dX8_releaseNots_47 ?_
        refine i_putI C (k := 12) kX8 dX8_releaseNots_48 (shT_1 hX) rfl (by decide) fl_X8_49 rfl rfl rfl rfl (fun M4 => ?_)
        refine i_goto (tgt := 0) C dX8_releaseNots_51 (by decide) ?_
        exact (ih  M4)
set_option maxRecDepth 100000 in
set_option maxHeartbeats 4000000 in
theorem c_X8_releaseNots (l : Launch) (G : Gx) {K : Kx} (hK : K = kP) {M : Mem} {res : Mem} (hM : OkM M) (ha : okS [aR 1]) (hF : pTape_releaseNots M = some res) : Ct l G K yX8_releaseNots (wsM yX8_releaseNots cX8_releaseNots 1 none) rmX8_releaseNots [aR 1] M none res := by
  refine ct_of RX8 (by decide +kernel) rfl (hK ▸ kP_ok) hM ha (Nat.le_of_ble_eq_true rfl) hF ?_
  intro X C hl hG hX0 hN hR hq
  have hX : xK X = kP := hX0.trans hK
  show Im X 0 0 0 [(0, aR 1)] [] M res (pTape_releaseNots  M)
  unfold pTape_releaseNots
  have hRm : ∀ {rm : Room} {ny : Nat}, RmOk rmX8_releaseNots rm ny → RmOk (xR X) rm ny := fun h => by rw [hR]; exact h
  exact (w_X8_releaseNots_0 C hX hN hR hq FU M)
set_option maxRecDepth 100000 in
set_option maxHeartbeats 4000000 in
theorem c_X8_addPart (l : Launch) (G : Gx) {K : Kx} (hK : K = kP) {x1 : Int} {M : Mem} {res : Int × Mem} (hM : OkM M) (ha : okS [aR 1, aI x1]) (hF : pTape_addPart x1 M = some res) : Ct l G K yX8_addPart (wsM yX8_addPart cX8_addPart 2 (some .boolean)) rmX8_addPart [aR 1, aI x1] M (some (aI res.1)) res.2 := by
  refine ct_of RX8 (by decide +kernel) rfl (hK ▸ kP_ok) hM ha (Nat.le_of_ble_eq_true rfl) hF ?_
  intro X C hl hG hX0 hN hR hq
  have hX : xK X = kP := hX0.trans hK
  show Im X 0 0 0 [(0, aR 1), (1, aI x1)] [] M res (pTape_addPart x1 M)
  unfold pTape_addPart
  have hRm : ∀ {rm : Room} {ny : Nat}, RmOk rmX8_addPart rm ny → RmOk (xR X) rm ny := fun h => by rw [hR]; exact h
  refine i_aload_n C dX8_addPart_0 rfl (q := 0) rfl ?_
  refine i_dup C dX8_addPart_1 rfl ?_
  refine i_getI C (k := 3) kX8 dX8_addPart_2 (shT_1 hX) rfl (by decide) fl_X8_22 rfl ?_
  refine i_iconst C dX8_addPart_5 kI_1 ?_
  refine i_iadd C dX8_addPart_6 ?_
  refine i_putI C (k := 3) kX8 dX8_addPart_7 (shT_1 hX) rfl (by decide) fl_X8_22 rfl rfl rfl rfl (fun M1 => ?_)
  refine i_aload_n C dX8_addPart_10 rfl (q := 0) rfl ?_
  refine i_iconst C dX8_addPart_11 kI_0 ?_
  refine i_putI C (k := 13) kX8 dX8_addPart_12 (shT_1 hX) rfl (by decide) fl_X8_52 rfl (by decide) (by decide) rfl (fun M2 => ?_)
  refine i_aload_n C dX8_addPart_15 rfl (q := 0) rfl ?_
  refine i_iload_n C dX8_addPart_16 rfl (q := 1) rfl ?_
  refine i_cV (kc' := 0) (ks' := 0) 0 0 2 (fun q hq hM hS => crV C (as := [aI x1]) dX8_addPart_17.1 kX8 (shT_1 hX) ml_X8_130 cal_X8_emit cv_X8_emit (hRm ⟨Nat.le_of_ble_eq_true rfl, Nat.le_of_ble_eq_true rfl⟩) rfl (Nat.le_of_ble_eq_true rfl) (c_X8_emit (xl X) (xG X) hX hM ⟨hS.2.1, hS.1, trivial⟩ hq)) (Nat.le_of_ble_eq_true rfl) (Nat.le_of_ble_eq_true rfl) rfl rfl rfl (fun M3 => ?_)
  refine i_aload_n C dX8_addPart_20 rfl (q := 0) rfl ?_
  refine i_cV (kc' := 0) (ks' := 0) 0 0 1 (fun q hq hM hS => crV C (as := []) dX8_addPart_21.1 kX8 (shT_1 hX) ml_X8_134 cal_X8_releaseNots cv_X8_releaseNots (hRm ⟨Nat.le_of_ble_eq_true rfl, Nat.le_of_ble_eq_true rfl⟩) rfl (Nat.le_of_ble_eq_true rfl) (c_X8_releaseNots (xl X) (xG X) hX hM ⟨hS.1, trivial⟩ hq)) (Nat.le_of_ble_eq_true rfl) (Nat.le_of_ble_eq_true rfl) rfl rfl rfl (fun M4 => ?_)
  refine i_iconst C dX8_addPart_24 kI_1 ?_
  exact i_zret C hq dX8_addPart_25 (Or.inr rfl)
set_option maxRecDepth 100000 in
set_option maxHeartbeats 4000000 in
theorem c_X8_namesOf (l : Launch) (G : Gx) {K : Kx} (hK : K = kP) {x0 : Int} {M : Mem} {res : Nat × Mem} (hM : OkM M) (ha : okS [aI x0]) (hF : pTape_namesOf x0 M = some res) : Ct l G K yX8_namesOf (wsM yX8_namesOf cX8_namesOf 1 (some (.object "java/lang/String"))) rmX8_namesOf [aI x0] M (some (aR (9000 + res.1))) res.2 := by
  refine ct_of RX8 (by decide +kernel) rfl (hK ▸ kP_ok) hM ha (Nat.le_of_ble_eq_true rfl) hF ?_
  intro X C hl hG hX0 hN hR hq
  have hX : xK X = kP := hX0.trans hK
  show Im X 0 0 0 [(0, aI x0)] [] M res (pTape_namesOf x0 M)
  unfold pTape_namesOf
  refine i_iload_n C dX8_namesOf_0 rfl (q := 0) rfl ?_
  refine i_split (fun e1 => ?_) (fun e1 => ?_)
  · refine i_tswIn (tgt := 32) C dX8_namesOf_1 e1 (by decide) (by decide) rfl (by decide) ?_
    refine i_ldcS C 5 dX8_namesOf_32 rfl rfl ?_
    exact i_aretS C (Or.inl ⟨_, rfl⟩) hq dX8_namesOf_34
  refine i_split (fun e2 => ?_) (fun e2 => ?_)
  · refine i_tswIn (tgt := 35) C dX8_namesOf_1 e2 (by decide) (by decide) rfl (by decide) ?_
    refine i_ldcS C 6 dX8_namesOf_35 rfl rfl ?_
    exact i_aretS C (Or.inl ⟨_, rfl⟩) hq dX8_namesOf_37
  refine i_split (fun e3 => ?_) (fun e3 => ?_)
  · refine i_tswIn (tgt := 38) C dX8_namesOf_1 e3 (by decide) (by decide) rfl (by decide) ?_
    refine i_ldcS C 7 dX8_namesOf_38 rfl rfl ?_
    exact i_aretS C (Or.inl ⟨_, rfl⟩) hq dX8_namesOf_40
  refine i_split (fun e4 => ?_) (fun e4 => ?_)
  · refine i_tswIn (tgt := 41) C dX8_namesOf_1 e4 (by decide) (by decide) rfl (by decide) ?_
    refine i_ldcS C 8 dX8_namesOf_41 rfl rfl ?_
    exact i_aretS C (Or.inl ⟨_, rfl⟩) hq dX8_namesOf_43
  refine i_tswOut (tgt := 44) C dX8_namesOf_1 (by omega) (by decide) ?_
  refine i_ldcS C 9 dX8_namesOf_44 rfl rfl ?_
  exact i_aretS C (Or.inl ⟨_, rfl⟩) hq dX8_namesOf_46
set_option maxRecDepth 100000 in
set_option maxHeartbeats 4000000 in
theorem c_X8_hold (l : Launch) (G : Gx) {K : Kx} (hK : K = kP) {x1 : Int} {M : Mem} {res : Int × Mem} (hM : OkM M) (ha : okS [aR 1, aI x1]) (hF : pTape_hold x1 M = some res) : Ct l G K yX8_hold (wsM yX8_hold cX8_hold 2 (some .boolean)) rmX8_hold [aR 1, aI x1] M (some (aI res.1)) res.2 := by
  refine ct_of RX8 (by decide +kernel) rfl (hK ▸ kP_ok) hM ha (Nat.le_of_ble_eq_true rfl) hF ?_
  intro X C hl hG hX0 hN hR hq
  have hX : xK X = kP := hX0.trans hK
  show Im X 0 0 0 [(0, aR 1), (1, aI x1)] [] M res (pTape_hold x1 M)
  unfold pTape_hold
  refine i_aload_n C dX8_hold_0 rfl (q := 0) rfl ?_
  refine i_getI C (k := 10) kX8 dX8_hold_1 (shT_1 hX) rfl (by decide) fl_X8_43 rfl ?_
  refine i_bipush C dX8_hold_4 kB_96 ?_
  refine i_icmp_ge (tgt := 26) C dX8_hold_6 (by decide) ?_ ?_
  · refine i_iconst C dX8_hold_26 kI_1 ?_
    exact i_zret C hq dX8_hold_27 (Or.inr rfl)
  · refine i_aload_n C dX8_hold_9 rfl (q := 0) rfl ?_
    refine i_getR C (k := 9) kX8 dX8_hold_10 (shT_1 hX) rfl (by decide) fl_X8_40 ?_
    refine i_aload_n C dX8_hold_13 rfl (q := 0) rfl ?_
    refine i_dup C dX8_hold_14 rfl ?_
    refine i_getI C (k := 10) kX8 dX8_hold_15 (shT_1 hX) rfl (by decide) fl_X8_43 rfl ?_
    refine i_dup_x1 C dX8_hold_18 rfl rfl ?_
    refine i_iconst C dX8_hold_19 kI_1 ?_
    refine i_iadd C dX8_hold_20 ?_
    refine i_putI C (k := 10) kX8 dX8_hold_21 (shT_1 hX) rfl (by decide) fl_X8_43 rfl rfl rfl rfl (fun M1 => ?_)
    refine i_iload_n C dX8_hold_24 rfl (q := 1) rfl ?_
    refine i_ast C dX8_hold_25 (shT_4 hX) (fun M2 => ?_)
    refine i_iconst C dX8_hold_26 kI_1 ?_
    exact i_zret C hq dX8_hold_27 (Or.inr rfl)
set_option maxRecDepth 100000 in
set_option maxHeartbeats 4000000 in
theorem c_X8_takePart (l : Launch) (G : Gx) {K : Kx} (hK : K = kP) {M : Mem} {res : Int × Mem} (hM : OkM M) (ha : okS [aR 1]) (hF : pTape_takePart M = some res) : Ct l G K yX8_takePart (wsM yX8_takePart cX8_takePart 2 (some .boolean)) rmX8_takePart [aR 1] M (some (aI res.1)) res.2 := by
  refine ct_of RX8 (by decide +kernel) rfl (hK ▸ kP_ok) hM ha (Nat.le_of_ble_eq_true rfl) hF ?_
  intro X C hl hG hX0 hN hR hq
  have hX : xK X = kP := hX0.trans hK
  show Im X 0 0 0 [(0, aR 1)] [] M res (pTape_takePart  M)
  unfold pTape_takePart
  have hl1 : 1 < xn X := by rw [hN]; decide
  have hRm : ∀ {rm : Room} {ny : Nat}, RmOk rmX8_takePart rm ny → RmOk (xR X) rm ny := fun h => by rw [hR]; exact h
  refine i_aload_n C dX8_takePart_0 rfl (q := 0) rfl ?_
  refine i_getI C (k := 8) kX8 dX8_takePart_1 (shT_1 hX) rfl (by decide) fl_X8_37 rfl ?_
  refine i_iconst C dX8_takePart_4 kI_3 ?_
  refine i_icmp_ne (tgt := 38) C dX8_takePart_5 (by decide) ?_ ?_
  · refine i_aload_n C dX8_takePart_38 rfl (q := 0) rfl ?_
    refine i_getI C (k := 8) kX8 dX8_takePart_39 (shT_1 hX) rfl (by decide) fl_X8_37 rfl ?_
    refine i_iconst C dX8_takePart_42 kI_2 ?_
    refine i_icmp_ne (tgt := 106) C dX8_takePart_43 (by decide) ?_ ?_
    · refine i_aload_n C dX8_takePart_106 rfl (q := 0) rfl ?_
      refine i_getI C (k := 8) kX8 dX8_takePart_107 (shT_1 hX) rfl (by decide) fl_X8_37 rfl ?_
      refine i_iconst C dX8_takePart_110 kI_1 ?_
      refine i_icmp_eq (tgt := 116) C dX8_takePart_111 (by decide) ?_ ?_
      · refine i_aload_n C dX8_takePart_116 rfl (q := 0) rfl ?_
        refine i_getR C (k := 1) kX8 dX8_takePart_117 (shT_1 hX) rfl (by decide) fl_X8_15 ?_
        refine i_aload_n C dX8_takePart_120 rfl (q := 0) rfl ?_
        refine i_getI C (k := 6) kX8 dX8_takePart_121 (shT_1 hX) rfl (by decide) fl_X8_31 rfl ?_
        refine i_ald C dX8_takePart_124 (shT_2 hX) (fun v1 => ?_)
        refine i_bipush C dX8_takePart_125 kB_33 ?_
        refine i_jn (fun j => ∀  (M3 : Mem), Im X 0 0 157 [(0, aR 1)] [] M3 res (j  M3)) ?_ (fun j2 hj2 => ?_)
        · intro  M3
          refine i_aload_n C dX8_takePart_157 rfl (q := 0) rfl ?_
          refine i_getR C (k := 1) kX8 dX8_takePart_158 (shT_1 hX) rfl (by decide) fl_X8_15 ?_
          refine i_aload_n C dX8_takePart_161 rfl (q := 0) rfl ?_
          refine i_getI C (k := 6) kX8 dX8_takePart_162 (shT_1 hX) rfl (by decide) fl_X8_31 rfl ?_
          refine i_ald C dX8_takePart_165 (shT_2 hX) (fun v4 => ?_)
          refine i_bipush C dX8_takePart_166 kB_40 ?_
          refine i_icmp_ne (tgt := 198) C dX8_takePart_168 (by decide) ?_ ?_
          · refine i_iconst C dX8_takePart_198 kI_0 ?_
            exact i_zret C hq dX8_takePart_199 (Or.inl rfl)
          · refine i_aload_n C dX8_takePart_171 rfl (q := 0) rfl ?_
            refine i_getI C (k := 11) kX8 dX8_takePart_172 (shT_1 hX) rfl (by decide) fl_X8_46 rfl ?_
            refine i_bipush C dX8_takePart_175 kB_8 ?_
            refine i_icmp_ge (tgt := 198) C dX8_takePart_177 (by decide) ?_ ?_
            · refine i_iconst C dX8_takePart_198 kI_0 ?_
              exact i_zret C hq dX8_takePart_199 (Or.inl rfl)
            · refine i_aload_n C dX8_takePart_180 rfl (q := 0) rfl ?_
              refine i_dup C dX8_takePart_181 rfl ?_
              refine i_getI C (k := 11) kX8 dX8_takePart_182 (shT_1 hX) rfl (by decide) fl_X8_46 rfl ?_
              refine i_iconst C dX8_takePart_185 kI_1 ?_
              refine i_iadd C dX8_takePart_186 ?_
              refine i_putI C (k := 11) kX8 dX8_takePart_187 (shT_1 hX) rfl (by decide) fl_X8_46 rfl rfl rfl rfl (fun M5 => ?_)
              refine i_aload_n C dX8_takePart_190 rfl (q := 0) rfl ?_
              refine i_sipush C dX8_takePart_191 kS_20010 ?_
              refine i_cI (kc' := 0) (ks' := 0) 0 0 2 (fun q hq hM hS => crV C (as := [aI 20010]) dX8_takePart_194.1 kX8 (shT_1 hX) ml_X8_127 cal_X8_hold cv_X8_hold (hRm ⟨Nat.le_of_ble_eq_true rfl, Nat.le_of_ble_eq_true rfl⟩) rfl (Nat.le_of_ble_eq_true rfl) (c_X8_hold (xl X) (xG X) hX hM ⟨hS.2.1, hS.1, trivial⟩ hq)) (Nat.le_of_ble_eq_true rfl) (Nat.le_of_ble_eq_true rfl) rfl rfl rfl (fun v7 M6 => ?_)
              exact i_zretQ C hq dX8_takePart_197
        refine i_icmp_ne (tgt := 157) C dX8_takePart_127 (by decide) ?_ ?_
        · exact (hj2  M)
        · refine i_aload_n C dX8_takePart_130 rfl (q := 0) rfl ?_
          refine i_getI C (k := 12) kX8 dX8_takePart_131 (shT_1 hX) rfl (by decide) fl_X8_49 rfl ?_
          refine i_bipush C dX8_takePart_134 kB_8 ?_
          refine i_icmp_ge (tgt := 157) C dX8_takePart_136 (by decide) ?_ ?_
          · exact (hj2  M)
          · refine i_aload_n C dX8_takePart_139 rfl (q := 0) rfl ?_
            refine i_dup C dX8_takePart_140 rfl ?_
            refine i_getI C (k := 12) kX8 dX8_takePart_141 (shT_1 hX) rfl (by decide) fl_X8_49 rfl ?_
            refine i_iconst C dX8_takePart_144 kI_1 ?_
            refine i_iadd C dX8_takePart_145 ?_
            refine i_putI C (k := 12) kX8 dX8_takePart_146 (shT_1 hX) rfl (by decide) fl_X8_49 rfl rfl rfl rfl (fun M8 => ?_)
            refine i_aload_n C dX8_takePart_149 rfl (q := 0) rfl ?_
            refine i_sipush C dX8_takePart_150 kS_20009 ?_
            refine i_cI (kc' := 0) (ks' := 0) 0 0 2 (fun q hq hM hS => crV C (as := [aI 20009]) dX8_takePart_153.1 kX8 (shT_1 hX) ml_X8_127 cal_X8_hold cv_X8_hold (hRm ⟨Nat.le_of_ble_eq_true rfl, Nat.le_of_ble_eq_true rfl⟩) rfl (Nat.le_of_ble_eq_true rfl) (c_X8_hold (xl X) (xG X) hX hM ⟨hS.2.1, hS.1, trivial⟩ hq)) (Nat.le_of_ble_eq_true rfl) (Nat.le_of_ble_eq_true rfl) rfl rfl rfl (fun v10 M9 => ?_)
            exact i_zretQ C hq dX8_takePart_156
      · refine i_iconst C dX8_takePart_114 kI_0 ?_
        exact i_zret C hq dX8_takePart_115 (Or.inl rfl)
    · refine i_aload_n C dX8_takePart_46 rfl (q := 0) rfl ?_
      refine i_getI C (k := 7) kX8 dX8_takePart_47 (shT_1 hX) rfl (by decide) fl_X8_34 rfl ?_
      refine i_aload_n C dX8_takePart_50 rfl (q := 0) rfl ?_
      refine i_getI C (k := 6) kX8 dX8_takePart_51 (shT_1 hX) rfl (by decide) fl_X8_31 rfl ?_
      refine i_isub C dX8_takePart_54 ?_
      refine i_iconst C dX8_takePart_55 kI_1 ?_
      refine i_jn (fun j => ∀ (p11 : Int) (M13 : Mem), Im X 0 0 83 [(0, aR 1)] [aI p11] M13 res (j p11 M13)) ?_ (fun j12 hj12 => ?_)
      · intro p11 M13
        refine i_istore_n C dX8_takePart_83 rfl hl1 (L' := [(0, aR 1), (1, aI p11)]) rfl ?_
        refine i_iload_n C dX8_takePart_84 rfl (q := 1) rfl ?_
        refine i_if_lt (tgt := 104) C dX8_takePart_85 (by decide) ?_ ?_
        · refine i_iconst C dX8_takePart_104 kI_0 ?_
          exact i_zret C hq dX8_takePart_105 (Or.inl rfl)
        · refine i_aload_n C dX8_takePart_88 rfl (q := 0) rfl ?_
          refine i_sipush C dX8_takePart_89 kS_10000 ?_
          refine i_iload_n C dX8_takePart_92 rfl (q := 1) rfl ?_
          refine i_iadd C dX8_takePart_93 ?_
          refine i_cI (kc' := 0) (ks' := 0) 0 0 2 (fun q hq hM hS => crV C (as := [aI (w32 (10000 + p11))]) dX8_takePart_94.1 kX8 (shT_1 hX) ml_X8_118 cal_X8_addPart cv_X8_addPart (hRm ⟨Nat.le_of_ble_eq_true rfl, Nat.le_of_ble_eq_true rfl⟩) rfl (Nat.le_of_ble_eq_true rfl) (c_X8_addPart (xl X) (xG X) hX hM ⟨hS.2.1, hS.1, trivial⟩ hq)) (Nat.le_of_ble_eq_true rfl) (Nat.le_of_ble_eq_true rfl) rfl rfl rfl (fun v15 M14 => ?_)
          refine i_if_eq (tgt := 104) C dX8_takePart_97 (by decide) ?_ ?_
          · refine i_iconst C dX8_takePart_104 kI_0 ?_
            exact i_zret C hq dX8_takePart_105 (Or.inl rfl)
          · refine i_iconst C dX8_takePart_100 kI_1 ?_
            refine i_goto (tgt := 105) C dX8_takePart_101 (by decide) ?_
            exact i_zret C hq dX8_takePart_105 (Or.inr rfl)
      refine i_icmp_ne (tgt := 82) C dX8_takePart_56 (by decide) ?_ ?_
      · refine i_iconst C dX8_takePart_82 kI_m1 ?_
        exact (hj12 (-1) M)
      · refine i_aload_n C dX8_takePart_59 rfl (q := 0) rfl ?_
        refine i_getI C (k := 2) kX8 dX8_takePart_60 (shT_1 hX) rfl (by decide) fl_X8_19 rfl ?_
        refine i_cS (kc' := 0) (ks' := 0) 0 0 1 (fun q hq hM hS => crS C (as := [aI (M 1 2)]) dX8_takePart_63.1 ml_X8_121 cal_X8_namesOf st_X8_namesOf (hRm ⟨Nat.le_of_ble_eq_true rfl, Nat.le_of_ble_eq_true rfl⟩) rfl (Nat.le_of_ble_eq_true rfl) (c_X8_namesOf (xl X) (xG X) hX hM ⟨hS.1, trivial⟩ hq)) (Nat.le_of_ble_eq_true rfl) (Nat.le_of_ble_eq_true rfl) rfl rfl rfl (fun t17 M16 ht17 => ?_)
        refine i_aload_n C dX8_takePart_66 rfl (q := 0) rfl ?_
        refine i_getR C (k := 1) kX8 dX8_takePart_67 (shT_1 hX) rfl (by decide) fl_X8_15 ?_
        refine i_aload_n C dX8_takePart_70 rfl (q := 0) rfl ?_
        refine i_getI C (k := 6) kX8 dX8_takePart_71 (shT_1 hX) rfl (by decide) fl_X8_31 rfl ?_
        refine i_ald C dX8_takePart_74 (shT_2 hX) (fun v18 => ?_)
        refine i_i2c C dX8_takePart_75 ?_
        refine i_cI (kc' := 0) (ks' := 0) 0 0 2 (fun q hq hM hS => crVS C (as := [aI (bChr v18)]) dX8_takePart_76.1 ht17 ml_X8_124 cal_J0_indexOf_0f7a4 cv_J0_indexOf_0f7a4 (hRm ⟨Nat.le_of_ble_eq_true rfl, Nat.le_of_ble_eq_true rfl⟩) rfl (Nat.le_of_ble_eq_true rfl) (c_J0_indexOf_0f7a4 (xl X) (xG X) hX ht17 hM ⟨hS.2.1, hS.1, trivial⟩ hq)) (Nat.le_of_ble_eq_true rfl) (Nat.le_of_ble_eq_true rfl) rfl rfl rfl (fun v20 M19 => ?_)
        refine i_goto (tgt := 83) C dX8_takePart_79 (by decide) ?_
        exact (hj12 v20 M19)
  · refine i_aload_n C dX8_takePart_8 rfl (q := 0) rfl ?_
    refine i_getI C (k := 7) kX8 dX8_takePart_9 (shT_1 hX) rfl (by decide) fl_X8_34 rfl ?_
    refine i_aload_n C dX8_takePart_12 rfl (q := 0) rfl ?_
    refine i_getI C (k := 6) kX8 dX8_takePart_13 (shT_1 hX) rfl (by decide) fl_X8_31 rfl ?_
    refine i_isub C dX8_takePart_16 ?_
    refine i_iconst C dX8_takePart_17 kI_4 ?_
    refine i_icmp_gt (tgt := 36) C dX8_takePart_18 (by decide) ?_ ?_
    · refine i_iconst C dX8_takePart_36 kI_0 ?_
      exact i_zret C hq dX8_takePart_37 (Or.inl rfl)
    · refine i_aload_n C dX8_takePart_21 rfl (q := 0) rfl ?_
      refine i_aload_n C dX8_takePart_22 rfl (q := 0) rfl ?_
      refine i_cI (kc' := 0) (ks' := 0) 0 0 1 (fun q hq hM hS => crV C (as := []) dX8_takePart_23.1 kX8 (shT_1 hX) ml_X8_115 cal_X8_numberHere cv_X8_numberHere (hRm ⟨Nat.le_of_ble_eq_true rfl, Nat.le_of_ble_eq_true rfl⟩) rfl (Nat.le_of_ble_eq_true rfl) (c_X8_numberHere (xl X) (xG X) hX hM ⟨hS.1, trivial⟩ hq)) (Nat.le_of_ble_eq_true rfl) (Nat.le_of_ble_eq_true rfl) rfl rfl rfl (fun v22 M21 => ?_)
      refine i_cI (kc' := 0) (ks' := 0) 0 0 2 (fun q hq hM hS => crV C (as := [aI v22]) dX8_takePart_26.1 kX8 (shT_1 hX) ml_X8_118 cal_X8_addPart cv_X8_addPart (hRm ⟨Nat.le_of_ble_eq_true rfl, Nat.le_of_ble_eq_true rfl⟩) rfl (Nat.le_of_ble_eq_true rfl) (c_X8_addPart (xl X) (xG X) hX hM ⟨hS.2.1, hS.1, trivial⟩ hq)) (Nat.le_of_ble_eq_true rfl) (Nat.le_of_ble_eq_true rfl) rfl rfl rfl (fun v24 M23 => ?_)
      refine i_if_eq (tgt := 36) C dX8_takePart_29 (by decide) ?_ ?_
      · refine i_iconst C dX8_takePart_36 kI_0 ?_
        exact i_zret C hq dX8_takePart_37 (Or.inl rfl)
      · refine i_iconst C dX8_takePart_32 kI_1 ?_
        refine i_goto (tgt := 37) C dX8_takePart_33 (by decide) ?_
        exact i_zret C hq dX8_takePart_37 (Or.inr rfl)
set_option maxRecDepth 100000 in
set_option maxHeartbeats 4000000 in
theorem w_X8_release_0 {X : Xc} (C : Cx X RX8 cX8_release (some .boolean)) (hX : xK X = kP) (hN : xn X = 3) (hR : xR X = rmX8_release) {res : Int × Mem} (hq : Rq X (some (aI res.1)) res.2) (y1 : Int) : ∀ (n : Nat) (M : Mem), Im X 0 0 0 [(0, aR 1), (1, aI y1)] [] M res (lpX8_release_0 y1 n M) := by
  have hl2 : 2 < xn X := by rw [hN]; decide
  have hRm : ∀ {rm : Room} {ny : Nat}, RmOk rmX8_release rm ny → RmOk (xR X) rm ny := fun h => by rw [hR]; exact h
  intro n
  induction n with
  | zero => intro _; exact i_none
  | succ n ih =>
    intro M
    unfold lpX8_release_0
    refine i_aload_n C dX8_release_0 rfl (q := 0) rfl ?_
    refine i_getI C (k := 10) kX8 dX8_release_1 (shT_1 hX) rfl (by decide) fl_X8_43 rfl ?_
    refine i_if_le (tgt := 91) C dX8_release_4 (by decide) ?_ ?_
    · refine i_iconst C dX8_release_91 kI_1 ?_
      exact i_zret C hq dX8_release_92 (Or.inr rfl)
    · refine i_aload_n C dX8_release_7 rfl (q := 0) rfl ?_
      refine i_getR C (k := 9) kX8 dX8_release_8 (shT_1 hX) rfl (by decide) fl_X8_40 ?_
      refine i_aload_n C dX8_release_11 rfl (q := 0) rfl ?_
      refine i_getI C (k := 10) kX8 dX8_release_12 (shT_1 hX) rfl (by decide) fl_X8_43 rfl ?_
      refine i_iconst C dX8_release_15 kI_1 ?_
      refine i_isub C dX8_release_16 ?_
      refine i_ald C dX8_release_17 (shT_4 hX) (fun v1 => ?_)
      refine i_sipush C dX8_release_18 kS_20010 ?_
      refine i_icmp_eq (tgt := 91) C dX8_release_21 (by decide) ?_ ?_
      · refine i_iconst C dX8_release_91 kI_1 ?_
        exact i_zret C hq dX8_release_92 (Or.inr rfl)
      · refine i_gstN C 2 dX8_release_24 rfl (by decide +kernel) ?_
        refine i_aload_n C dX8_release_27 rfl (q := 0) rfl ?_
        refine i_getR C (k := 9) kX8 dX8_release_28 (shT_1 hX) rfl (by decide) fl_X8_40 ?_
        refine i_aload_n C dX8_release_31 rfl (q := 0) rfl ?_
        refine i_getI C (k := 10) kX8 dX8_release_32 (shT_1 hX) rfl (by decide) fl_X8_43 rfl ?_
        refine i_iconst C dX8_release_35 kI_1 ?_
        refine i_isub C dX8_release_36 ?_
        refine i_ald C dX8_release_37 (shT_4 hX) (fun v2 => ?_)
        refine i_sipush C dX8_release_38 kS_20000 ?_
        refine i_isub C dX8_release_41 ?_
        refine i_aldT C 2 dX8_release_42 rfl (fun v3 => ?_)
        refine i_istore_n C dX8_release_43 rfl hl2 (L' := [(0, aR 1), (1, aI y1), (2, aI v3)]) rfl ?_
        refine i_iload_n C dX8_release_44 rfl (q := 2) rfl ?_
        refine i_iload_n C dX8_release_45 rfl (q := 1) rfl ?_
        refine i_icmp_ge (tgt := 51) C dX8_release_46 (by decide) ?_ ?_
        · refine i_iload_n C dX8_release_51 rfl (q := 2) rfl ?_
          refine i_iconst C dX8_release_52 kI_3 ?_
          refine i_jn (fun j => ∀  (M5 : Mem), Im X 0 0 63 [(0, aR 1), (1, aI y1)] [] M5 res (j  M5)) ?_ (fun j4 hj4 => ?_)
          · intro  M5
            refine i_aload_n C dX8_release_63 rfl (q := 0) rfl ?_
            refine i_aload_n C dX8_release_64 rfl (q := 0) rfl ?_
            refine i_getR C (k := 9) kX8 dX8_release_65 (shT_1 hX) rfl (by decide) fl_X8_40 ?_
            refine i_aload_n C dX8_release_68 rfl (q := 0) rfl ?_
            refine i_getI C (k := 10) kX8 dX8_release_69 (shT_1 hX) rfl (by decide) fl_X8_43 rfl ?_
            refine i_iconst C dX8_release_72 kI_1 ?_
            refine i_isub C dX8_release_73 ?_
            refine i_ald C dX8_release_74 (shT_4 hX) (fun v6 => ?_)
            refine i_cV (kc' := 0) (ks' := 0) 0 0 2 (fun q hq hM hS => crV C (as := [aI v6]) dX8_release_75.1 kX8 (shT_1 hX) ml_X8_130 cal_X8_emit cv_X8_emit (hRm ⟨Nat.le_of_ble_eq_true rfl, Nat.le_of_ble_eq_true rfl⟩) rfl (Nat.le_of_ble_eq_true rfl) (c_X8_emit (xl X) (xG X) hX hM ⟨hS.2.1, hS.1, trivial⟩ hq)) (Nat.le_of_ble_eq_true rfl) (Nat.le_of_ble_eq_true rfl) rfl rfl rfl (fun M7 => ?_)
            refine i_aload_n C dX8_release_78 rfl (q := 0) rfl ?_
            refine i_dup C dX8_release_79 rfl ?_
            refine i_getI C (k := 10) kX8 dX8_release_80 (shT_1 hX) rfl (by decide) fl_X8_43 rfl ?_
            refine i_iconst C dX8_release_83 kI_1 ?_
            refine i_isub C dX8_release_84 ?_
            refine i_putI C (k := 10) kX8 dX8_release_85 (shT_1 hX) rfl (by decide) fl_X8_43 rfl rfl rfl rfl (fun M8 => ?_)
            refine i_goto (tgt := 0) C dX8_release_88 (by decide) ?_
            exact (ih  M8)
          refine i_icmp_ne (tgt := 63) C dX8_release_53 (by decide) ?_ ?_
          · exact i_sub [0, 1] rfl (hj4  M)
          · refine i_iload_n C dX8_release_56 rfl (q := 1) rfl ?_
            refine i_iconst C dX8_release_57 kI_3 ?_
            refine i_icmp_ne (tgt := 63) C dX8_release_58 (by decide) ?_ ?_
            · exact i_sub [0, 1] rfl (hj4  M)
            · refine i_iconst C dX8_release_61 kI_0 ?_
              exact i_zret C hq dX8_release_62 (Or.inl rfl)
        · refine i_iconst C dX8_release_49 kI_1 ?_
          exact i_zret C hq dX8_release_50 (Or.inr rfl)
set_option maxRecDepth 100000 in
set_option maxHeartbeats 4000000 in
theorem c_X8_release (l : Launch) (G : Gx) {K : Kx} (hK : K = kP) {x1 : Int} {M : Mem} {res : Int × Mem} (hM : OkM M) (ha : okS [aR 1, aI x1]) (hF : pTape_release x1 M = some res) : Ct l G K yX8_release (wsM yX8_release cX8_release 3 (some .boolean)) rmX8_release [aR 1, aI x1] M (some (aI res.1)) res.2 := by
  refine ct_of RX8 (by decide +kernel) rfl (hK ▸ kP_ok) hM ha (Nat.le_of_ble_eq_true rfl) hF ?_
  intro X C hl hG hX0 hN hR hq
  have hX : xK X = kP := hX0.trans hK
  show Im X 0 0 0 [(0, aR 1), (1, aI x1)] [] M res (pTape_release x1 M)
  unfold pTape_release
  have hl2 : 2 < xn X := by rw [hN]; decide
  have hRm : ∀ {rm : Room} {ny : Nat}, RmOk rmX8_release rm ny → RmOk (xR X) rm ny := fun h => by rw [hR]; exact h
  exact (w_X8_release_0 C hX hN hR hq x1 FU M)
set_option maxRecDepth 100000 in
set_option maxHeartbeats 4000000 in
theorem c_X8_closeBracket (l : Launch) (G : Gx) {K : Kx} (hK : K = kP) {M : Mem} {res : Int × Mem} (hM : OkM M) (ha : okS [aR 1]) (hF : pTape_closeBracket M = some res) : Ct l G K yX8_closeBracket (wsM yX8_closeBracket cX8_closeBracket 1 (some .boolean)) rmX8_closeBracket [aR 1] M (some (aI res.1)) res.2 := by
  refine ct_of RX8 (by decide +kernel) rfl (hK ▸ kP_ok) hM ha (Nat.le_of_ble_eq_true rfl) hF ?_
  intro X C hl hG hX0 hN hR hq
  have hX : xK X = kP := hX0.trans hK
  show Im X 0 0 0 [(0, aR 1)] [] M res (pTape_closeBracket  M)
  unfold pTape_closeBracket
  have hRm : ∀ {rm : Room} {ny : Nat}, RmOk rmX8_closeBracket rm ny → RmOk (xR X) rm ny := fun h => by rw [hR]; exact h
  refine i_aload_n C dX8_closeBracket_0 rfl (q := 0) rfl ?_
  refine i_getI C (k := 11) kX8 dX8_closeBracket_1 (shT_1 hX) rfl (by decide) fl_X8_46 rfl ?_
  refine i_if_ne (tgt := 9) C dX8_closeBracket_4 (by decide) ?_ ?_
  · refine i_aload_n C dX8_closeBracket_9 rfl (q := 0) rfl ?_
    refine i_iconst C dX8_closeBracket_10 kI_0 ?_
    refine i_cI (kc' := 0) (ks' := 0) 0 0 2 (fun q hq hM hS => crV C (as := [aI 0]) dX8_closeBracket_11.1 kX8 (shT_1 hX) ml_X8_71 cal_X8_release cv_X8_release (hRm ⟨Nat.le_of_ble_eq_true rfl, Nat.le_of_ble_eq_true rfl⟩) rfl (Nat.le_of_ble_eq_true rfl) (c_X8_release (xl X) (xG X) hX hM ⟨hS.2.1, hS.1, trivial⟩ hq)) (Nat.le_of_ble_eq_true rfl) (Nat.le_of_ble_eq_true rfl) rfl rfl rfl (fun v2 M1 => ?_)
    refine i_pop C dX8_closeBracket_14 rfl ?_
    refine i_aload_n C dX8_closeBracket_15 rfl (q := 0) rfl ?_
    refine i_dup C dX8_closeBracket_16 rfl ?_
    refine i_getI C (k := 11) kX8 dX8_closeBracket_17 (shT_1 hX) rfl (by decide) fl_X8_46 rfl ?_
    refine i_iconst C dX8_closeBracket_20 kI_1 ?_
    refine i_isub C dX8_closeBracket_21 ?_
    refine i_putI C (k := 11) kX8 dX8_closeBracket_22 (shT_1 hX) rfl (by decide) fl_X8_46 rfl rfl rfl rfl (fun M3 => ?_)
    refine i_aload_n C dX8_closeBracket_25 rfl (q := 0) rfl ?_
    refine i_getI C (k := 10) kX8 dX8_closeBracket_26 (shT_1 hX) rfl (by decide) fl_X8_43 rfl ?_
    refine i_jn (fun j => ∀  (M5 : Mem), Im X 0 0 42 [(0, aR 1)] [] M5 res (j  M5)) ?_ (fun j4 hj4 => ?_)
    · intro  M5
      refine i_aload_n C dX8_closeBracket_42 rfl (q := 0) rfl ?_
      refine i_cV (kc' := 0) (ks' := 0) 0 0 1 (fun q hq hM hS => crV C (as := []) dX8_closeBracket_43.1 kX8 (shT_1 hX) ml_X8_134 cal_X8_releaseNots cv_X8_releaseNots (hRm ⟨Nat.le_of_ble_eq_true rfl, Nat.le_of_ble_eq_true rfl⟩) rfl (Nat.le_of_ble_eq_true rfl) (c_X8_releaseNots (xl X) (xG X) hX hM ⟨hS.1, trivial⟩ hq)) (Nat.le_of_ble_eq_true rfl) (Nat.le_of_ble_eq_true rfl) rfl rfl rfl (fun M6 => ?_)
      refine i_iconst C dX8_closeBracket_46 kI_1 ?_
      exact i_zret C hq dX8_closeBracket_47 (Or.inr rfl)
    refine i_if_le (tgt := 42) C dX8_closeBracket_29 (by decide) ?_ ?_
    · exact (hj4  M3)
    · refine i_aload_n C dX8_closeBracket_32 rfl (q := 0) rfl ?_
      refine i_dup C dX8_closeBracket_33 rfl ?_
      refine i_getI C (k := 10) kX8 dX8_closeBracket_34 (shT_1 hX) rfl (by decide) fl_X8_43 rfl ?_
      refine i_iconst C dX8_closeBracket_37 kI_1 ?_
      refine i_isub C dX8_closeBracket_38 ?_
      refine i_putI C (k := 10) kX8 dX8_closeBracket_39 (shT_1 hX) rfl (by decide) fl_X8_43 rfl rfl rfl rfl (fun M7 => ?_)
      exact (hj4  M7)
  · refine i_iconst C dX8_closeBracket_7 kI_0 ?_
    exact i_zret C hq dX8_closeBracket_8 (Or.inl rfl)
set_option maxRecDepth 100000 in
set_option maxHeartbeats 4000000 in
theorem c_X8_takeSign (l : Launch) (G : Gx) {K : Kx} (hK : K = kP) {M : Mem} {res : Int × Mem} (hM : OkM M) (ha : okS [aR 1]) (hF : pTape_takeSign M = some res) : Ct l G K yX8_takeSign (wsM yX8_takeSign cX8_takeSign 2 (some .boolean)) rmX8_takeSign [aR 1] M (some (aI res.1)) res.2 := by
  refine ct_of RX8 (by decide +kernel) rfl (hK ▸ kP_ok) hM ha (Nat.le_of_ble_eq_true rfl) hF ?_
  intro X C hl hG hX0 hN hR hq
  have hX : xK X = kP := hX0.trans hK
  show Im X 0 0 0 [(0, aR 1)] [] M res (pTape_takeSign  M)
  unfold pTape_takeSign
  have hl1 : 1 < xn X := by rw [hN]; decide
  have hRm : ∀ {rm : Room} {ny : Nat}, RmOk rmX8_takeSign rm ny → RmOk (xR X) rm ny := fun h => by rw [hR]; exact h
  refine i_aload_n C dX8_takeSign_0 rfl (q := 0) rfl ?_
  refine i_getI C (k := 8) kX8 dX8_takeSign_1 (shT_1 hX) rfl (by decide) fl_X8_37 rfl ?_
  refine i_iconst C dX8_takeSign_4 kI_1 ?_
  refine i_icmp_eq (tgt := 10) C dX8_takeSign_5 (by decide) ?_ ?_
  · refine i_aload_n C dX8_takeSign_10 rfl (q := 0) rfl ?_
    refine i_getR C (k := 1) kX8 dX8_takeSign_11 (shT_1 hX) rfl (by decide) fl_X8_15 ?_
    refine i_aload_n C dX8_takeSign_14 rfl (q := 0) rfl ?_
    refine i_getI C (k := 6) kX8 dX8_takeSign_15 (shT_1 hX) rfl (by decide) fl_X8_31 rfl ?_
    refine i_ald C dX8_takeSign_18 (shT_2 hX) (fun v1 => ?_)
    refine i_bipush C dX8_takeSign_19 kB_41 ?_
    refine i_icmp_ne (tgt := 29) C dX8_takeSign_21 (by decide) ?_ ?_
    · refine i_ldcS C 10 dX8_takeSign_29 rfl rfl ?_
      refine i_aload_n C dX8_takeSign_31 rfl (q := 0) rfl ?_
      refine i_getR C (k := 1) kX8 dX8_takeSign_32 (shT_1 hX) rfl (by decide) fl_X8_15 ?_
      refine i_aload_n C dX8_takeSign_35 rfl (q := 0) rfl ?_
      refine i_getI C (k := 6) kX8 dX8_takeSign_36 (shT_1 hX) rfl (by decide) fl_X8_31 rfl ?_
      refine i_ald C dX8_takeSign_39 (shT_2 hX) (fun v2 => ?_)
      refine i_i2c C dX8_takeSign_40 ?_
      refine i_cI (kc' := 0) (ks' := 0) 0 0 2 (fun q hq hM hS => crVS C (as := [aI (bChr v2)]) dX8_takeSign_41.1 (by decide) ml_X8_124 cal_J0_indexOf_0f7a4 cv_J0_indexOf_0f7a4 (hRm ⟨Nat.le_of_ble_eq_true rfl, Nat.le_of_ble_eq_true rfl⟩) rfl (Nat.le_of_ble_eq_true rfl) (c_J0_indexOf_0f7a4 (xl X) (xG X) hX (by decide) hM ⟨hS.2.1, hS.1, trivial⟩ hq)) (Nat.le_of_ble_eq_true rfl) (Nat.le_of_ble_eq_true rfl) rfl rfl rfl (fun v4 M3 => ?_)
      refine i_istore_n C dX8_takeSign_44 rfl hl1 (L' := [(0, aR 1), (1, aI v4)]) rfl ?_
      refine i_iload_n C dX8_takeSign_45 rfl (q := 1) rfl ?_
      refine i_if_lt (tgt := 61) C dX8_takeSign_46 (by decide) ?_ ?_
      · refine i_iconst C dX8_takeSign_61 kI_0 ?_
        exact i_zret C hq dX8_takeSign_62 (Or.inl rfl)
      · refine i_aload_n C dX8_takeSign_49 rfl (q := 0) rfl ?_
        refine i_gstN C 2 dX8_takeSign_50 rfl (by decide +kernel) ?_
        refine i_iload_n C dX8_takeSign_53 rfl (q := 1) rfl ?_
        refine i_aldT C 2 dX8_takeSign_54 rfl (fun v5 => ?_)
        refine i_cI (kc' := 0) (ks' := 0) 0 0 2 (fun q hq hM hS => crV C (as := [aI v5]) dX8_takeSign_55.1 kX8 (shT_1 hX) ml_X8_71 cal_X8_release cv_X8_release (hRm ⟨Nat.le_of_ble_eq_true rfl, Nat.le_of_ble_eq_true rfl⟩) rfl (Nat.le_of_ble_eq_true rfl) (c_X8_release (xl X) (xG X) hX hM ⟨hS.2.1, hS.1, trivial⟩ hq)) (Nat.le_of_ble_eq_true rfl) (Nat.le_of_ble_eq_true rfl) rfl rfl rfl (fun v7 M6 => ?_)
        refine i_if_ne (tgt := 63) C dX8_takeSign_58 (by decide) ?_ ?_
        · refine i_aload_n C dX8_takeSign_63 rfl (q := 0) rfl ?_
          refine i_iconst C dX8_takeSign_64 kI_1 ?_
          refine i_putI C (k := 13) kX8 dX8_takeSign_65 (shT_1 hX) rfl (by decide) fl_X8_52 rfl (by decide) (by decide) rfl (fun M8 => ?_)
          refine i_aload_n C dX8_takeSign_68 rfl (q := 0) rfl ?_
          refine i_sipush C dX8_takeSign_69 kS_20000 ?_
          refine i_iload_n C dX8_takeSign_72 rfl (q := 1) rfl ?_
          refine i_iadd C dX8_takeSign_73 ?_
          refine i_cI (kc' := 0) (ks' := 0) 0 0 2 (fun q hq hM hS => crV C (as := [aI (w32 (20000 + v4))]) dX8_takeSign_74.1 kX8 (shT_1 hX) ml_X8_127 cal_X8_hold cv_X8_hold (hRm ⟨Nat.le_of_ble_eq_true rfl, Nat.le_of_ble_eq_true rfl⟩) rfl (Nat.le_of_ble_eq_true rfl) (c_X8_hold (xl X) (xG X) hX hM ⟨hS.2.1, hS.1, trivial⟩ hq)) (Nat.le_of_ble_eq_true rfl) (Nat.le_of_ble_eq_true rfl) rfl rfl rfl (fun v10 M9 => ?_)
          exact i_zretQ C hq dX8_takeSign_77
        · refine i_iconst C dX8_takeSign_61 kI_0 ?_
          exact i_zret C hq dX8_takeSign_62 (Or.inl rfl)
    · refine i_aload_n C dX8_takeSign_24 rfl (q := 0) rfl ?_
      refine i_cI (kc' := 0) (ks' := 0) 0 0 1 (fun q hq hM hS => crV C (as := []) dX8_takeSign_25.1 kX8 (shT_1 hX) ml_X8_137 cal_X8_closeBracket cv_X8_closeBracket (hRm ⟨Nat.le_of_ble_eq_true rfl, Nat.le_of_ble_eq_true rfl⟩) rfl (Nat.le_of_ble_eq_true rfl) (c_X8_closeBracket (xl X) (xG X) hX hM ⟨hS.1, trivial⟩ hq)) (Nat.le_of_ble_eq_true rfl) (Nat.le_of_ble_eq_true rfl) rfl rfl rfl (fun v12 M11 => ?_)
      exact i_zretQ C hq dX8_takeSign_28
  · refine i_iconst C dX8_takeSign_8 kI_0 ?_
    exact i_zret C hq dX8_takeSign_9 (Or.inl rfl)
set_option maxRecDepth 100000 in
set_option maxHeartbeats 4000000 in
theorem w_X8_parse_68 {X : Xc} (C : Cx X RX8 cX8_parse (some .int)) (hX : xK X = kP) (hN : xn X = 2) (hR : xR X = rmX8_parse) {res : Int × Mem} (hq : Rq X (some (aI res.1)) res.2) {k137 : Mem → Option (Int × Mem)} {k99 : Mem → Option (Int × Mem)} (hk137 : ∀ (M : Mem), Im X 0 0 137 [(0, aR 1)] [] M res (k137 M)) (hk99 : ∀ (M : Mem), Im X 0 0 99 [(0, aR 1)] [] M res (k99 M)) : ∀ (n : Nat) (u1 : Int) (M : Mem), Im X 0 0 68 [(0, aR 1), (1, aI u1)] [] M res (lpX8_parse_68 k137 k99 n u1 M) := by
  have hl1 : 1 < xn X := by rw [hN]; decide
  have hRm : ∀ {rm : Room} {ny : Nat}, RmOk rmX8_parse rm ny → RmOk (xR X) rm ny := fun h => by rw [hR]; exact h
  intro n
  induction n with
  | zero => intro _ _; exact i_none
  | succ n ih =>
    intro u1 M
    unfold lpX8_parse_68
    refine i_iload_n C dX8_parse_68 rfl (q := 1) rfl ?_
    refine i_bipush C dX8_parse_69 kB_96 ?_
    refine i_icmp_gt (tgt := 137) C dX8_parse_71 (by decide) ?_ ?_
    · exact i_sub [0] rfl (hk137  M)
    · refine i_aload_n C dX8_parse_74 rfl (q := 0) rfl ?_
      refine i_cV (kc' := 0) (ks' := 0) 0 0 1 (fun q hq hM hS => crV C (as := []) dX8_parse_75.1 kX8 (shT_1 hX) ml_X8_56 cal_X8_advance cv_X8_advance (hRm ⟨Nat.le_of_ble_eq_true rfl, Nat.le_of_ble_eq_true rfl⟩) rfl (Nat.le_of_ble_eq_true rfl) (c_X8_advance (xl X) (xG X) hX hM ⟨hS.1, trivial⟩ hq)) (Nat.le_of_ble_eq_true rfl) (Nat.le_of_ble_eq_true rfl) rfl rfl rfl (fun M17 => ?_)
      refine i_aload_n C dX8_parse_78 rfl (q := 0) rfl ?_
      refine i_getI C (k := 8) kX8 dX8_parse_79 (shT_1 hX) rfl (by decide) fl_X8_37 rfl ?_
      refine i_jn (fun j => ∀  (M19 : Mem), Im X 0 0 102 [(0, aR 1), (1, aI u1)] [] M19 res (j  M19)) ?_ (fun j18 hj18 => ?_)
      · intro  M19
        refine i_aload_n C dX8_parse_102 rfl (q := 0) rfl ?_
        refine i_getI C (k := 13) kX8 dX8_parse_103 (shT_1 hX) rfl (by decide) fl_X8_52 rfl ?_
        refine i_jn (fun j => ∀  (M21 : Mem), Im X 0 0 131 [(0, aR 1), (1, aI u1)] [] M21 res (j  M21)) ?_ (fun j20 hj20 => ?_)
        · intro  M21
          refine i_iincN (L' := fun v22 => [(0, aR 1), (1, aI v22)]) C dX8_parse_131 (q := 1) rfl hl1 (fun _ => rfl) (fun v22 => ?_)
          refine i_goto (tgt := 68) C dX8_parse_134 (by decide) ?_
          exact (ih v22 M21)
        refine i_if_eq (tgt := 119) C dX8_parse_106 (by decide) ?_ ?_
        · refine i_aload_n C dX8_parse_119 rfl (q := 0) rfl ?_
          refine i_cI (kc' := 0) (ks' := 0) 0 0 1 (fun q hq hM hS => crV C (as := []) dX8_parse_120.1 kX8 (shT_1 hX) ml_X8_68 cal_X8_takeSign cv_X8_takeSign (hRm ⟨Nat.le_of_ble_eq_true rfl, Nat.le_of_ble_eq_true rfl⟩) rfl (Nat.le_of_ble_eq_true rfl) (c_X8_takeSign (xl X) (xG X) hX hM ⟨hS.1, trivial⟩ hq)) (Nat.le_of_ble_eq_true rfl) (Nat.le_of_ble_eq_true rfl) rfl rfl rfl (fun v24 M23 => ?_)
          refine i_if_ne (tgt := 131) C dX8_parse_123 (by decide) ?_ ?_
          · exact (hj20  M23)
          · refine i_aload_n C dX8_parse_126 rfl (q := 0) rfl ?_
            refine i_getI C (k := 6) kX8 dX8_parse_127 (shT_1 hX) rfl (by decide) fl_X8_31 rfl ?_
            exact i_iret C hq dX8_parse_130
        · refine i_aload_n C dX8_parse_109 rfl (q := 0) rfl ?_
          refine i_cI (kc' := 0) (ks' := 0) 0 0 1 (fun q hq hM hS => crV C (as := []) dX8_parse_110.1 kX8 (shT_1 hX) ml_X8_64 cal_X8_takePart cv_X8_takePart (hRm ⟨Nat.le_of_ble_eq_true rfl, Nat.le_of_ble_eq_true rfl⟩) rfl (Nat.le_of_ble_eq_true rfl) (c_X8_takePart (xl X) (xG X) hX hM ⟨hS.1, trivial⟩ hq)) (Nat.le_of_ble_eq_true rfl) (Nat.le_of_ble_eq_true rfl) rfl rfl rfl (fun v26 M25 => ?_)
          refine i_if_eq (tgt := 126) C dX8_parse_113 (by decide) ?_ ?_
          · refine i_aload_n C dX8_parse_126 rfl (q := 0) rfl ?_
            refine i_getI C (k := 6) kX8 dX8_parse_127 (shT_1 hX) rfl (by decide) fl_X8_31 rfl ?_
            exact i_iret C hq dX8_parse_130
          · refine i_goto (tgt := 131) C dX8_parse_116 (by decide) ?_
            exact (hj20  M25)
      refine i_if_ne (tgt := 102) C dX8_parse_82 (by decide) ?_ ?_
      · exact (hj18  M17)
      · refine i_aload_n C dX8_parse_85 rfl (q := 0) rfl ?_
        refine i_getI C (k := 13) kX8 dX8_parse_86 (shT_1 hX) rfl (by decide) fl_X8_52 rfl ?_
        refine i_if_ne (tgt := 102) C dX8_parse_89 (by decide) ?_ ?_
        · exact (hj18  M17)
        · refine i_aload_n C dX8_parse_92 rfl (q := 0) rfl ?_
          refine i_getI C (k := 11) kX8 dX8_parse_93 (shT_1 hX) rfl (by decide) fl_X8_46 rfl ?_
          refine i_if_ne (tgt := 102) C dX8_parse_96 (by decide) ?_ ?_
          · exact (hj18  M17)
          · exact i_sub [0] rfl (hk99  M17)
set_option maxRecDepth 100000 in
set_option maxHeartbeats 4000000 in
theorem c_X8_parse (l : Launch) (G : Gx) {K : Kx} (hK : K = kP) {M : Mem} {res : Int × Mem} (hM : OkM M) (ha : okS [aR 1]) (hF : pTape_parse M = some res) : Ct l G K yX8_parse (wsM yX8_parse cX8_parse 2 (some .int)) rmX8_parse [aR 1] M (some (aI res.1)) res.2 := by
  refine ct_of RX8 (by decide +kernel) rfl (hK ▸ kP_ok) hM ha (Nat.le_of_ble_eq_true rfl) hF ?_
  intro X C hl hG hX0 hN hR hq
  have hX : xK X = kP := hX0.trans hK
  show Im X 0 0 0 [(0, aR 1)] [] M res (pTape_parse  M)
  unfold pTape_parse
  have hl1 : 1 < xn X := by rw [hN]; decide
  have hRm : ∀ {rm : Room} {ny : Nat}, RmOk rmX8_parse rm ny → RmOk (xR X) rm ny := fun h => by rw [hR]; exact h
  refine i_aload_n C dX8_parse_0 rfl (q := 0) rfl ?_
  refine i_iconst C dX8_parse_1 kI_0 ?_
  refine i_putI C (k := 7) kX8 dX8_parse_2 (shT_1 hX) rfl (by decide) fl_X8_34 rfl rfl rfl rfl (fun M1 => ?_)
  refine i_aload_n C dX8_parse_5 rfl (q := 0) rfl ?_
  refine i_iconst C dX8_parse_6 kI_0 ?_
  refine i_putI C (k := 8) kX8 dX8_parse_7 (shT_1 hX) rfl (by decide) fl_X8_37 rfl rfl rfl rfl (fun M2 => ?_)
  refine i_aload_n C dX8_parse_10 rfl (q := 0) rfl ?_
  refine i_iconst C dX8_parse_11 kI_0 ?_
  refine i_putI C (k := 3) kX8 dX8_parse_12 (shT_1 hX) rfl (by decide) fl_X8_22 rfl rfl rfl rfl (fun M3 => ?_)
  refine i_aload_n C dX8_parse_15 rfl (q := 0) rfl ?_
  refine i_iconst C dX8_parse_16 kI_0 ?_
  refine i_putI C (k := 4) kX8 dX8_parse_17 (shT_1 hX) rfl (by decide) fl_X8_25 rfl rfl rfl rfl (fun M4 => ?_)
  refine i_aload_n C dX8_parse_20 rfl (q := 0) rfl ?_
  refine i_iconst C dX8_parse_21 kI_0 ?_
  refine i_putI C (k := 10) kX8 dX8_parse_22 (shT_1 hX) rfl (by decide) fl_X8_43 rfl rfl rfl rfl (fun M5 => ?_)
  refine i_aload_n C dX8_parse_25 rfl (q := 0) rfl ?_
  refine i_iconst C dX8_parse_26 kI_0 ?_
  refine i_putI C (k := 11) kX8 dX8_parse_27 (shT_1 hX) rfl (by decide) fl_X8_46 rfl rfl rfl rfl (fun M6 => ?_)
  refine i_aload_n C dX8_parse_30 rfl (q := 0) rfl ?_
  refine i_iconst C dX8_parse_31 kI_0 ?_
  refine i_putI C (k := 12) kX8 dX8_parse_32 (shT_1 hX) rfl (by decide) fl_X8_49 rfl rfl rfl rfl (fun M7 => ?_)
  refine i_aload_n C dX8_parse_35 rfl (q := 0) rfl ?_
  refine i_iconst C dX8_parse_36 kI_1 ?_
  refine i_putI C (k := 13) kX8 dX8_parse_37 (shT_1 hX) rfl (by decide) fl_X8_52 rfl (by decide) (by decide) rfl (fun M8 => ?_)
  refine i_aload_n C dX8_parse_40 rfl (q := 0) rfl ?_
  refine i_cV (kc' := 0) (ks' := 0) 0 0 1 (fun q hq hM hS => crV C (as := []) dX8_parse_41.1 kX8 (shT_1 hX) ml_X8_56 cal_X8_advance cv_X8_advance (hRm ⟨Nat.le_of_ble_eq_true rfl, Nat.le_of_ble_eq_true rfl⟩) rfl (Nat.le_of_ble_eq_true rfl) (c_X8_advance (xl X) (xG X) hX hM ⟨hS.1, trivial⟩ hq)) (Nat.le_of_ble_eq_true rfl) (Nat.le_of_ble_eq_true rfl) rfl rfl rfl (fun M9 => ?_)
  refine i_aload_n C dX8_parse_44 rfl (q := 0) rfl ?_
  refine i_aload_n C dX8_parse_45 rfl (q := 0) rfl ?_
  refine i_cI (kc' := 0) (ks' := 0) 0 0 1 (fun q hq hM hS => crV C (as := []) dX8_parse_46.1 kX8 (shT_1 hX) ml_X8_59 cal_X8_keyHere cv_X8_keyHere (hRm ⟨Nat.le_of_ble_eq_true rfl, Nat.le_of_ble_eq_true rfl⟩) rfl (Nat.le_of_ble_eq_true rfl) (c_X8_keyHere (xl X) (xG X) hX hM ⟨hS.1, trivial⟩ hq)) (Nat.le_of_ble_eq_true rfl) (Nat.le_of_ble_eq_true rfl) rfl rfl rfl (fun v11 M10 => ?_)
  refine i_putI C (k := 2) kX8 dX8_parse_49 (shT_1 hX) rfl (by decide) fl_X8_19 rfl rfl rfl rfl (fun M12 => ?_)
  refine i_aload_n C dX8_parse_52 rfl (q := 0) rfl ?_
  refine i_getI C (k := 2) kX8 dX8_parse_53 (shT_1 hX) rfl (by decide) fl_X8_19 rfl ?_
  refine i_ldc C dX8_parse_56 kc_X8_63 kI_m1000000005 ?_
  refine i_icmp_ne (tgt := 66) C dX8_parse_58 (by decide) ?_ ?_
  · refine i_iconst C dX8_parse_66 kI_0 ?_
    refine i_istore_n C dX8_parse_67 rfl hl1 (L' := [(0, aR 1), (1, aI 0)]) rfl ?_
    refine i_jn (fun j => ∀  (M14 : Mem), Im X 0 0 137 [(0, aR 1)] [] M14 res (j  M14)) ?_ (fun j13 hj13 => ?_)
    · intro  M14
      refine i_aload_n C dX8_parse_137 rfl (q := 0) rfl ?_
      refine i_iconst C dX8_parse_138 kI_0 ?_
      refine i_cI (kc' := 0) (ks' := 0) 0 0 2 (fun q hq hM hS => crV C (as := [aI 0]) dX8_parse_139.1 kX8 (shT_1 hX) ml_X8_71 cal_X8_release cv_X8_release (hRm ⟨Nat.le_of_ble_eq_true rfl, Nat.le_of_ble_eq_true rfl⟩) rfl (Nat.le_of_ble_eq_true rfl) (c_X8_release (xl X) (xG X) hX hM ⟨hS.2.1, hS.1, trivial⟩ hq)) (Nat.le_of_ble_eq_true rfl) (Nat.le_of_ble_eq_true rfl) rfl rfl rfl (fun v16 M15 => ?_)
      refine i_pop C dX8_parse_142 rfl ?_
      refine i_ldc C dX8_parse_143 kc_X8_63 kI_m1000000005 ?_
      exact i_iret C hq dX8_parse_145
    refine (w_X8_parse_68 C hX hN hR hq (fun M27 => ?_) (fun M28 => ?_) FU 0 M12)
    · exact (hj13  M27)
    · refine i_goto (tgt := 137) C dX8_parse_99 (by decide) ?_
      exact (hj13  M28)
  · refine i_aload_n C dX8_parse_61 rfl (q := 0) rfl ?_
    refine i_getI C (k := 6) kX8 dX8_parse_62 (shT_1 hX) rfl (by decide) fl_X8_31 rfl ?_
    exact i_iret C hq dX8_parse_65
set_option maxRecDepth 100000 in
set_option maxHeartbeats 4000000 in
theorem c_X9_isOf (l : Launch) (G : Gx) {K : Kx} (hK : K = kP) {b : Nat} {x1 : Int} {x2 : Int} (hb : isC b) {M : Mem} {res : Int × Mem} (hM : OkM M) (ha : okS [aR (b + 15), aI x1, aI x2]) (hF : pTies_isOf b x1 x2 M = some res) : Ct l G K yX9_isOf (wsM yX9_isOf cX9_isOf 3 (some .boolean)) rmX9_isOf [aR (b + 15), aI x1, aI x2] M (some (aI res.1)) res.2 := by
  refine ct_of RX9 (by decide +kernel) rfl (hK ▸ kP_ok) hM ha (Nat.le_of_ble_eq_true rfl) hF ?_
  intro X C hl hG hX0 hN hR hq
  have hX : xK X = kP := hX0.trans hK
  show Im X 0 0 0 [(0, aR (b + 15)), (1, aI x1), (2, aI x2)] [] M res (pTies_isOf b x1 x2 M)
  unfold pTies_isOf
  have hRm : ∀ {rm : Room} {ny : Nat}, RmOk rmX9_isOf rm ny → RmOk (xR X) rm ny := fun h => by rw [hR]; exact h
  refine i_aload_n C dX9_isOf_0 rfl (q := 0) rfl ?_
  refine i_iload_n C dX9_isOf_1 rfl (q := 1) rfl ?_
  refine i_cI (kc' := 0) (ks' := 0) 0 0 2 (fun q hq hM hS => crV C (as := [aI x1]) dX9_isOf_2.1 kX9 (shP_15 hX hb) ml_X9_62 cal_X9_has cv_X9_has (hRm ⟨Nat.le_of_ble_eq_true rfl, Nat.le_of_ble_eq_true rfl⟩) rfl (Nat.le_of_ble_eq_true rfl) (c_X9_has (xl X) (xG X) hX hb hM ⟨hS.2.1, hS.1, trivial⟩ hq)) (Nat.le_of_ble_eq_true rfl) (Nat.le_of_ble_eq_true rfl) rfl rfl rfl (fun v2 M1 => ?_)
  refine i_if_eq (tgt := 22) C dX9_isOf_5 (by decide) ?_ ?_
  · refine i_iconst C dX9_isOf_22 kI_0 ?_
    exact i_zret C hq dX9_isOf_23 (Or.inl rfl)
  · refine i_aload_n C dX9_isOf_8 rfl (q := 0) rfl ?_
    refine i_getR C (k := 1) kX9 dX9_isOf_9 (shP_15 hX hb) rfl (by decide) fl_X9_15 ?_
    refine i_iload_n C dX9_isOf_12 rfl (q := 1) rfl ?_
    refine i_ald C dX9_isOf_13 (shP_16 hX hb) (fun v3 => ?_)
    refine i_iload_n C dX9_isOf_14 rfl (q := 2) rfl ?_
    refine i_icmp_ne (tgt := 22) C dX9_isOf_15 (by decide) ?_ ?_
    · refine i_iconst C dX9_isOf_22 kI_0 ?_
      exact i_zret C hq dX9_isOf_23 (Or.inl rfl)
    · refine i_iconst C dX9_isOf_18 kI_1 ?_
      refine i_goto (tgt := 23) C dX9_isOf_19 (by decide) ?_
      exact i_zret C hq dX9_isOf_23 (Or.inr rfl)
set_option maxRecDepth 100000 in
set_option maxHeartbeats 4000000 in
theorem c_X9_fits (l : Launch) (G : Gx) {K : Kx} (hK : K = kP) {x0 : Int} {x1 : Int} {M : Mem} {res : Int × Mem} (hM : OkM M) (ha : okS [aI x0, aI x1]) (hF : pTies_fits x0 x1 M = some res) : Ct l G K yX9_fits (wsM yX9_fits cX9_fits 2 (some .boolean)) rmX9_fits [aI x0, aI x1] M (some (aI res.1)) res.2 := by
  refine ct_of RX9 (by decide +kernel) rfl (hK ▸ kP_ok) hM ha (Nat.le_of_ble_eq_true rfl) hF ?_
  intro X C hl hG hX0 hN hR hq
  have hX : xK X = kP := hX0.trans hK
  show Im X 0 0 0 [(0, aI x0), (1, aI x1)] [] M res (pTies_fits x0 x1 M)
  unfold pTies_fits
  have hRm : ∀ {rm : Room} {ny : Nat}, RmOk rmX9_fits rm ny → RmOk (xR X) rm ny := fun h => by rw [hR]; exact h
  refine i_iload_n C dX9_fits_0 rfl (q := 0) rfl ?_
  refine i_split (fun e3 => ?_) (fun e3 => ?_)
  · refine i_tswIn (tgt := 36) C dX9_fits_1 e3 (by decide) (by decide) rfl (by decide) ?_
    refine i_iload_n C dX9_fits_36 rfl (q := 1) rfl ?_
    refine i_iconst C dX9_fits_37 kI_0 ?_
    refine i_bipush C dX9_fits_38 kB_9 ?_
    refine i_cI (kc' := 0) (ks' := 0) 0 0 3 (fun q hq hM hS => crN C (as := [aI x1, aI 0, aI 9]) dX9_fits_40.1 (by decide) cal_X11_within st_X11_within (hRm ⟨Nat.le_of_ble_eq_true rfl, Nat.le_of_ble_eq_true rfl⟩) rfl (Nat.le_of_ble_eq_true rfl) (c_X11_within (xl X) (xG X) hX hM ⟨hS.2.2.1, hS.2.1, hS.1, trivial⟩ hq)) (Nat.le_of_ble_eq_true rfl) (Nat.le_of_ble_eq_true rfl) rfl rfl rfl (fun v2 M1 => ?_)
    exact i_zretQ C hq dX9_fits_43
  refine i_split (fun e4 => ?_) (fun e4 => ?_)
  · refine i_tswIn (tgt := 69) C dX9_fits_1 e4 (by decide) (by decide) rfl (by decide) ?_
    refine i_iload_n C dX9_fits_69 rfl (q := 1) rfl ?_
    refine i_if_ne (tgt := 77) C dX9_fits_70 (by decide) ?_ ?_
    · refine i_iconst C dX9_fits_77 kI_0 ?_
      exact i_zret C hq dX9_fits_78 (Or.inl rfl)
    · refine i_iconst C dX9_fits_73 kI_1 ?_
      refine i_goto (tgt := 78) C dX9_fits_74 (by decide) ?_
      exact i_zret C hq dX9_fits_78 (Or.inr rfl)
  refine i_split (fun e7 => ?_) (fun e7 => ?_)
  · refine i_tswIn (tgt := 44) C dX9_fits_1 e7 (by decide) (by decide) rfl (by decide) ?_
    refine i_iload_n C dX9_fits_44 rfl (q := 1) rfl ?_
    refine i_iconst C dX9_fits_45 kI_0 ?_
    refine i_sipush C dX9_fits_46 kS_9999 ?_
    refine i_cI (kc' := 0) (ks' := 0) 0 0 3 (fun q hq hM hS => crN C (as := [aI x1, aI 0, aI 9999]) dX9_fits_49.1 (by decide) cal_X11_within st_X11_within (hRm ⟨Nat.le_of_ble_eq_true rfl, Nat.le_of_ble_eq_true rfl⟩) rfl (Nat.le_of_ble_eq_true rfl) (c_X11_within (xl X) (xG X) hX hM ⟨hS.2.2.1, hS.2.1, hS.1, trivial⟩ hq)) (Nat.le_of_ble_eq_true rfl) (Nat.le_of_ble_eq_true rfl) rfl rfl rfl (fun v6 M5 => ?_)
    exact i_zretQ C hq dX9_fits_52
  refine i_split (fun e10 => ?_) (fun e10 => ?_)
  · refine i_tswIn (tgt := 53) C dX9_fits_1 e10 (by decide) (by decide) rfl (by decide) ?_
    refine i_iload_n C dX9_fits_53 rfl (q := 1) rfl ?_
    refine i_iconst C dX9_fits_54 kI_0 ?_
    refine i_bipush C dX9_fits_55 kB_60 ?_
    refine i_cI (kc' := 0) (ks' := 0) 0 0 3 (fun q hq hM hS => crN C (as := [aI x1, aI 0, aI 60]) dX9_fits_57.1 (by decide) cal_X11_within st_X11_within (hRm ⟨Nat.le_of_ble_eq_true rfl, Nat.le_of_ble_eq_true rfl⟩) rfl (Nat.le_of_ble_eq_true rfl) (c_X11_within (xl X) (xG X) hX hM ⟨hS.2.2.1, hS.2.1, hS.1, trivial⟩ hq)) (Nat.le_of_ble_eq_true rfl) (Nat.le_of_ble_eq_true rfl) rfl rfl rfl (fun v9 M8 => ?_)
    exact i_zretQ C hq dX9_fits_60
  refine i_split (fun e13 => ?_) (fun e13 => ?_)
  · refine i_tswIn (tgt := 61) C dX9_fits_1 e13 (by decide) (by decide) rfl (by decide) ?_
    refine i_iload_n C dX9_fits_61 rfl (q := 1) rfl ?_
    refine i_iconst C dX9_fits_62 kI_1 ?_
    refine i_bipush C dX9_fits_63 kB_9 ?_
    refine i_cI (kc' := 0) (ks' := 0) 0 0 3 (fun q hq hM hS => crN C (as := [aI x1, aI 1, aI 9]) dX9_fits_65.1 (by decide) cal_X11_within st_X11_within (hRm ⟨Nat.le_of_ble_eq_true rfl, Nat.le_of_ble_eq_true rfl⟩) rfl (Nat.le_of_ble_eq_true rfl) (c_X11_within (xl X) (xG X) hX hM ⟨hS.2.2.1, hS.2.1, hS.1, trivial⟩ hq)) (Nat.le_of_ble_eq_true rfl) (Nat.le_of_ble_eq_true rfl) rfl rfl rfl (fun v12 M11 => ?_)
    exact i_zretQ C hq dX9_fits_68
  refine i_tswOut (tgt := 69) C dX9_fits_1 (by omega) (by decide) ?_
  refine i_iload_n C dX9_fits_69 rfl (q := 1) rfl ?_
  refine i_if_ne (tgt := 77) C dX9_fits_70 (by decide) ?_ ?_
  · refine i_iconst C dX9_fits_77 kI_0 ?_
    exact i_zret C hq dX9_fits_78 (Or.inl rfl)
  · refine i_iconst C dX9_fits_73 kI_1 ?_
    refine i_goto (tgt := 78) C dX9_fits_74 (by decide) ?_
    exact i_zret C hq dX9_fits_78 (Or.inr rfl)
set_option maxRecDepth 100000 in
set_option maxHeartbeats 4000000 in
theorem w_X9_isUnder_4 {X : Xc} (C : Cx X RX9 cX9_isUnder (some .boolean)) (hX : xK X = kP) (hN : xn X = 4) (hR : xR X = rmX9_isUnder) {res : Int × Mem} (hq : Rq X (some (aI res.1)) res.2) (y1 : Int) : ∀ (n : Nat) (u2 : Int) (u3 : Int) (M : Mem), Im X 0 0 4 [(1, aI y1), (2, aI u2), (3, aI u3)] [] M res (lpX9_isUnder_4 y1 n u2 u3 M) := by
  have hl2 : 2 < xn X := by rw [hN]; decide
  have hl3 : 3 < xn X := by rw [hN]; decide
  intro n
  induction n with
  | zero => intro _ _ _; exact i_none
  | succ n ih =>
    intro u2 u3 M
    unfold lpX9_isUnder_4
    refine i_iload_n C dX9_isUnder_4 rfl (q := 2) rfl ?_
    refine i_gstN C 0 dX9_isUnder_5 rfl (by decide +kernel) ?_
    refine i_alenT C 0 dX9_isUnder_8 rfl rfl kI_8 ?_
    refine i_icmp_ge (tgt := 35) C dX9_isUnder_9 (by decide) ?_ ?_
    · refine i_iconst C dX9_isUnder_35 kI_0 ?_
      exact i_zret C hq dX9_isUnder_36 (Or.inl rfl)
    · refine i_iload_n C dX9_isUnder_12 rfl (q := 1) rfl ?_
      refine i_if_lt (tgt := 35) C dX9_isUnder_13 (by decide) ?_ ?_
      · refine i_iconst C dX9_isUnder_35 kI_0 ?_
        exact i_zret C hq dX9_isUnder_36 (Or.inl rfl)
      · refine i_iload_n C dX9_isUnder_16 rfl (q := 1) rfl ?_
        refine i_iload_n C dX9_isUnder_17 rfl (q := 0) rfl ?_
        refine i_icmp_ne (tgt := 23) C dX9_isUnder_18 (by decide) ?_ ?_
        · refine i_gstN C 0 dX9_isUnder_23 rfl (by decide +kernel) ?_
          refine i_iload_n C dX9_isUnder_26 rfl (q := 1) rfl ?_
          refine i_aldT C 0 dX9_isUnder_27 rfl (fun v1 => ?_)
          refine i_istore_n C dX9_isUnder_28 rfl hl2 (L' := [(1, aI y1), (2, aI v1), (3, aI u3)]) rfl ?_
          refine i_iincN (L' := fun v2 => [(1, aI y1), (2, aI v1), (3, aI v2)]) C dX9_isUnder_29 (q := 2) rfl hl3 (fun _ => rfl) (fun v2 => ?_)
          refine i_goto (tgt := 4) C dX9_isUnder_32 (by decide) ?_
          exact (ih v1 v2 M)
        · refine i_iconst C dX9_isUnder_21 kI_1 ?_
          exact i_zret C hq dX9_isUnder_22 (Or.inr rfl)
set_option maxRecDepth 100000 in
set_option maxHeartbeats 4000000 in
theorem c_X9_isUnder (l : Launch) (G : Gx) {K : Kx} (hK : K = kP) {x0 : Int} {x1 : Int} {M : Mem} {res : Int × Mem} (hM : OkM M) (ha : okS [aI x0, aI x1]) (hF : pTies_isUnder x0 x1 M = some res) : Ct l G K yX9_isUnder (wsM yX9_isUnder cX9_isUnder 4 (some .boolean)) rmX9_isUnder [aI x0, aI x1] M (some (aI res.1)) res.2 := by
  refine ct_of RX9 (by decide +kernel) rfl (hK ▸ kP_ok) hM ha (Nat.le_of_ble_eq_true rfl) hF ?_
  intro X C hl hG hX0 hN hR hq
  have hX : xK X = kP := hX0.trans hK
  show Im X 0 0 0 [(0, aI x0), (1, aI x1)] [] M res (pTies_isUnder x0 x1 M)
  unfold pTies_isUnder
  have hl2 : 2 < xn X := by rw [hN]; decide
  have hl3 : 3 < xn X := by rw [hN]; decide
  refine i_iload_n C dX9_isUnder_0 rfl (q := 0) rfl ?_
  refine i_istore_n C dX9_isUnder_1 rfl hl2 (L' := [(0, aI x0), (1, aI x1), (2, aI x0)]) rfl ?_
  refine i_iconst C dX9_isUnder_2 kI_0 ?_
  refine i_istore_n C dX9_isUnder_3 rfl hl3 (L' := [(0, aI x0), (1, aI x1), (2, aI x0), (3, aI 0)]) rfl ?_
  exact i_sub [1, 2, 3] rfl (w_X9_isUnder_4 C hX hN hR hq x1 FU x0 0 M)
set_option maxRecDepth 100000 in
set_option maxHeartbeats 4000000 in
theorem c_X9_addTie (l : Launch) (G : Gx) {K : Kx} (hK : K = kP) {b : Nat} {x1 : Int} {x2 : Int} {x3 : Int} {x4 : Int} (hb : isC b) {M : Mem} {res : Int × Mem} (hM : OkM M) (ha : okS [aR (b + 15), aI x1, aI x2, aI x3, aI x4]) (hF : pTies_addTie b x1 x2 x3 x4 M = some res) : Ct l G K yX9_addTie (wsM yX9_addTie cX9_addTie 5 (some .int)) rmX9_addTie [aR (b + 15), aI x1, aI x2, aI x3, aI x4] M (some (aI res.1)) res.2 := by
  refine ct_of RX9 (by decide +kernel) rfl (hK ▸ kP_ok) hM ha (Nat.le_of_ble_eq_true rfl) hF ?_
  intro X C hl hG hX0 hN hR hq
  have hX : xK X = kP := hX0.trans hK
  show Im X 0 0 0 [(0, aR (b + 15)), (1, aI x1), (2, aI x2), (3, aI x3), (4, aI x4)] [] M res (pTies_addTie b x1 x2 x3 x4 M)
  unfold pTies_addTie
  refine i_aload_n C dX9_addTie_0 rfl (q := 0) rfl ?_
  refine i_getR C (k := 1) kX9 dX9_addTie_1 (shP_15 hX hb) rfl (by decide) fl_X9_15 ?_
  refine i_aload_n C dX9_addTie_4 rfl (q := 0) rfl ?_
  refine i_getI C (k := 0) kX9 dX9_addTie_5 (shP_15 hX hb) rfl (by decide) fl_X9_9 rfl ?_
  refine i_iload_n C dX9_addTie_8 rfl (q := 1) rfl ?_
  refine i_ast C dX9_addTie_9 (shP_16 hX hb) (fun M1 => ?_)
  refine i_aload_n C dX9_addTie_10 rfl (q := 0) rfl ?_
  refine i_getR C (k := 2) kX9 dX9_addTie_11 (shP_15 hX hb) rfl (by decide) fl_X9_19 ?_
  refine i_aload_n C dX9_addTie_14 rfl (q := 0) rfl ?_
  refine i_getI C (k := 0) kX9 dX9_addTie_15 (shP_15 hX hb) rfl (by decide) fl_X9_9 rfl ?_
  refine i_iload_n C dX9_addTie_18 rfl (q := 2) rfl ?_
  refine i_ast C dX9_addTie_19 (shP_17 hX hb) (fun M2 => ?_)
  refine i_aload_n C dX9_addTie_20 rfl (q := 0) rfl ?_
  refine i_getR C (k := 3) kX9 dX9_addTie_21 (shP_15 hX hb) rfl (by decide) fl_X9_22 ?_
  refine i_aload_n C dX9_addTie_24 rfl (q := 0) rfl ?_
  refine i_getI C (k := 0) kX9 dX9_addTie_25 (shP_15 hX hb) rfl (by decide) fl_X9_9 rfl ?_
  refine i_iload_n C dX9_addTie_28 rfl (q := 3) rfl ?_
  refine i_ast C dX9_addTie_29 (shP_18 hX hb) (fun M3 => ?_)
  refine i_aload_n C dX9_addTie_30 rfl (q := 0) rfl ?_
  refine i_getR C (k := 4) kX9 dX9_addTie_31 (shP_15 hX hb) rfl (by decide) fl_X9_25 ?_
  refine i_aload_n C dX9_addTie_34 rfl (q := 0) rfl ?_
  refine i_getI C (k := 0) kX9 dX9_addTie_35 (shP_15 hX hb) rfl (by decide) fl_X9_9 rfl ?_
  refine i_iload C dX9_addTie_38 (q := 4) rfl ?_
  refine i_ast C dX9_addTie_40 (shP_19 hX hb) (fun M4 => ?_)
  refine i_aload_n C dX9_addTie_41 rfl (q := 0) rfl ?_
  refine i_getR C (k := 5) kX9 dX9_addTie_42 (shP_15 hX hb) rfl (by decide) fl_X9_28 ?_
  refine i_aload_n C dX9_addTie_45 rfl (q := 0) rfl ?_
  refine i_getI C (k := 0) kX9 dX9_addTie_46 (shP_15 hX hb) rfl (by decide) fl_X9_9 rfl ?_
  refine i_iconst C dX9_addTie_49 kI_0 ?_
  refine i_ast C dX9_addTie_50 (shP_20 hX hb) (fun M5 => ?_)
  refine i_aload_n C dX9_addTie_51 rfl (q := 0) rfl ?_
  refine i_getR C (k := 6) kX9 dX9_addTie_52 (shP_15 hX hb) rfl (by decide) fl_X9_31 ?_
  refine i_aload_n C dX9_addTie_55 rfl (q := 0) rfl ?_
  refine i_getI C (k := 0) kX9 dX9_addTie_56 (shP_15 hX hb) rfl (by decide) fl_X9_9 rfl ?_
  refine i_iload_n C dX9_addTie_59 rfl (q := 1) rfl ?_
  refine i_iconst C dX9_addTie_60 kI_1 ?_
  refine i_jn (fun j => ∀ (p6 : Int) (M8 : Mem), Im X 0 0 70 [(0, aR (b + 15))] [aI p6, aI (M5 (b + 15) 0), aR (b + 21)] M8 res (j p6 M8)) ?_ (fun j7 hj7 => ?_)
  · intro p6 M8
    refine i_ast C dX9_addTie_70 (shP_21 hX hb) (fun M9 => ?_)
    refine i_aload_n C dX9_addTie_71 rfl (q := 0) rfl ?_
    refine i_getR C (k := 7) kX9 dX9_addTie_72 (shP_15 hX hb) rfl (by decide) fl_X9_34 ?_
    refine i_aload_n C dX9_addTie_75 rfl (q := 0) rfl ?_
    refine i_getI C (k := 0) kX9 dX9_addTie_76 (shP_15 hX hb) rfl (by decide) fl_X9_9 rfl ?_
    refine i_iconst C dX9_addTie_79 kI_0 ?_
    refine i_ast C dX9_addTie_80 (shP_22 hX hb) (fun M10 => ?_)
    refine i_aload_n C dX9_addTie_81 rfl (q := 0) rfl ?_
    refine i_getR C (k := 8) kX9 dX9_addTie_82 (shP_15 hX hb) rfl (by decide) fl_X9_37 ?_
    refine i_aload_n C dX9_addTie_85 rfl (q := 0) rfl ?_
    refine i_getI C (k := 0) kX9 dX9_addTie_86 (shP_15 hX hb) rfl (by decide) fl_X9_9 rfl ?_
    refine i_iconst C dX9_addTie_89 kI_0 ?_
    refine i_ast C dX9_addTie_90 (shP_23 hX hb) (fun M11 => ?_)
    refine i_aload_n C dX9_addTie_91 rfl (q := 0) rfl ?_
    refine i_getR C (k := 9) kX9 dX9_addTie_92 (shP_15 hX hb) rfl (by decide) fl_X9_40 ?_
    refine i_aload_n C dX9_addTie_95 rfl (q := 0) rfl ?_
    refine i_getI C (k := 0) kX9 dX9_addTie_96 (shP_15 hX hb) rfl (by decide) fl_X9_9 rfl ?_
    refine i_iconst C dX9_addTie_99 kI_0 ?_
    refine i_ast C dX9_addTie_100 (shP_24 hX hb) (fun M12 => ?_)
    refine i_aload_n C dX9_addTie_101 rfl (q := 0) rfl ?_
    refine i_getR C (k := 10) kX9 dX9_addTie_102 (shP_15 hX hb) rfl (by decide) fl_X9_43 ?_
    refine i_aload_n C dX9_addTie_105 rfl (q := 0) rfl ?_
    refine i_getI C (k := 0) kX9 dX9_addTie_106 (shP_15 hX hb) rfl (by decide) fl_X9_9 rfl ?_
    refine i_ldc C dX9_addTie_109 kc_X9_73 kI_m1000000005 ?_
    refine i_ast C dX9_addTie_111 (shP_25 hX hb) (fun M13 => ?_)
    refine i_aload_n C dX9_addTie_112 rfl (q := 0) rfl ?_
    refine i_getR C (k := 11) kX9 dX9_addTie_113 (shP_15 hX hb) rfl (by decide) fl_X9_46 ?_
    refine i_aload_n C dX9_addTie_116 rfl (q := 0) rfl ?_
    refine i_getI C (k := 0) kX9 dX9_addTie_117 (shP_15 hX hb) rfl (by decide) fl_X9_9 rfl ?_
    refine i_iconst C dX9_addTie_120 kI_0 ?_
    refine i_ast C dX9_addTie_121 (shP_26 hX hb) (fun M14 => ?_)
    refine i_aload_n C dX9_addTie_122 rfl (q := 0) rfl ?_
    refine i_dup C dX9_addTie_123 rfl ?_
    refine i_getI C (k := 0) kX9 dX9_addTie_124 (shP_15 hX hb) rfl (by decide) fl_X9_9 rfl ?_
    refine i_dup_x1 C dX9_addTie_127 rfl rfl ?_
    refine i_iconst C dX9_addTie_128 kI_1 ?_
    refine i_iadd C dX9_addTie_129 ?_
    refine i_putI C (k := 0) kX9 dX9_addTie_130 (shP_15 hX hb) rfl (by decide) fl_X9_9 rfl rfl rfl rfl (fun M15 => ?_)
    exact i_iret C hq dX9_addTie_133
  refine i_icmp_ne (tgt := 69) C dX9_addTie_61 (by decide) ?_ ?_
  · refine i_iconst C dX9_addTie_69 kI_0 ?_
    exact i_sub [0] rfl (hj7 0 M5)
  · refine i_bipush C dX9_addTie_64 kB_23 ?_
    refine i_goto (tgt := 70) C dX9_addTie_66 (by decide) ?_
    exact i_sub [0] rfl (hj7 23 M5)
set_option maxRecDepth 100000 in
set_option maxHeartbeats 4000000 in
theorem c_X9_addStop (l : Launch) (G : Gx) {K : Kx} (hK : K = kP) {b : Nat} {x1 : Int} {x2 : Int} {x3 : Int} (hb : isC b) {M : Mem} {res : Int × Mem} (hM : OkM M) (ha : okS [aR (b + 15), aI x1, aI x2, aI x3]) (hF : pTies_addStop b x1 x2 x3 M = some res) : Ct l G K yX9_addStop (wsM yX9_addStop cX9_addStop 5 (some .int)) rmX9_addStop [aR (b + 15), aI x1, aI x2, aI x3] M (some (aI res.1)) res.2 := by
  refine ct_of RX9 (by decide +kernel) rfl (hK ▸ kP_ok) hM ha (Nat.le_of_ble_eq_true rfl) hF ?_
  intro X C hl hG hX0 hN hR hq
  have hX : xK X = kP := hX0.trans hK
  show Im X 0 0 0 [(0, aR (b + 15)), (1, aI x1), (2, aI x2), (3, aI x3)] [] M res (pTies_addStop b x1 x2 x3 M)
  unfold pTies_addStop
  have hl4 : 4 < xn X := by rw [hN]; decide
  refine i_iload_n C dX9_addStop_0 rfl (q := 1) rfl ?_
  refine i_bipush C dX9_addStop_1 kB_8 ?_
  refine i_imul C dX9_addStop_3 ?_
  refine i_aload_n C dX9_addStop_4 rfl (q := 0) rfl ?_
  refine i_getR C (k := 11) kX9 dX9_addStop_5 (shP_15 hX hb) rfl (by decide) fl_X9_46 ?_
  refine i_iload_n C dX9_addStop_8 rfl (q := 1) rfl ?_
  refine i_ald C dX9_addStop_9 (shP_26 hX hb) (fun v1 => ?_)
  refine i_iadd C dX9_addStop_10 ?_
  refine i_nm (fun v2 => ?_)
  refine i_istore C dX9_addStop_11 hl4 (L' := [(0, aR (b + 15)), (1, aI x1), (2, aI x2), (3, aI x3), (4, aI v2)]) rfl ?_
  refine i_aload_n C dX9_addStop_13 rfl (q := 0) rfl ?_
  refine i_getR C (k := 12) kX9 dX9_addStop_14 (shP_15 hX hb) rfl (by decide) fl_X9_49 ?_
  refine i_iload C dX9_addStop_17 (q := 4) rfl ?_
  refine i_iload_n C dX9_addStop_19 rfl (q := 2) rfl ?_
  refine i_ast C dX9_addStop_20 (shP_27 hX hb) (fun M3 => ?_)
  refine i_aload_n C dX9_addStop_21 rfl (q := 0) rfl ?_
  refine i_getR C (k := 13) kX9 dX9_addStop_22 (shP_15 hX hb) rfl (by decide) fl_X9_52 ?_
  refine i_iload C dX9_addStop_25 (q := 4) rfl ?_
  refine i_iload_n C dX9_addStop_27 rfl (q := 3) rfl ?_
  refine i_ast C dX9_addStop_28 (shP_28 hX hb) (fun M4 => ?_)
  refine i_aload_n C dX9_addStop_29 rfl (q := 0) rfl ?_
  refine i_getR C (k := 11) kX9 dX9_addStop_30 (shP_15 hX hb) rfl (by decide) fl_X9_46 ?_
  refine i_iload_n C dX9_addStop_33 rfl (q := 1) rfl ?_
  refine i_dup2 C dX9_addStop_34 rfl rfl ?_
  refine i_ald C dX9_addStop_35 (shP_26 hX hb) (fun v5 => ?_)
  refine i_iconst C dX9_addStop_36 kI_1 ?_
  refine i_iadd C dX9_addStop_37 ?_
  refine i_dup_x2 C dX9_addStop_38 rfl rfl rfl ?_
  refine i_ast C dX9_addStop_39 (shP_26 hX hb) (fun M6 => ?_)
  exact i_iret C hq dX9_addStop_40
set_option maxRecDepth 100000 in
set_option maxHeartbeats 4000000 in
theorem w_X9_openPasses_4 {X : Xc} (C : Cx X RX9 cX9_openPasses (some .int)) (hX : xK X = kP) (hN : xn X = 3) (hR : xR X = rmX9_openPasses) {b : Nat} (hb : isC b) {res : Int × Mem} (hq : Rq X (some (aI res.1)) res.2) : ∀ (n : Nat) (u1 : Int) (u2 : Int) (M : Mem), Im X 0 0 4 [(0, aR (b + 15)), (1, aI u1), (2, aI u2)] [] M res (lpX9_openPasses_4 b n u1 u2 M) := by
  have hl1 : 1 < xn X := by rw [hN]; decide
  have hl2 : 2 < xn X := by rw [hN]; decide
  intro n
  induction n with
  | zero => intro _ _ _; exact i_none
  | succ n ih =>
    intro u1 u2 M
    unfold lpX9_openPasses_4
    refine i_iload_n C dX9_openPasses_4 rfl (q := 2) rfl ?_
    refine i_aload_n C dX9_openPasses_5 rfl (q := 0) rfl ?_
    refine i_getI C (k := 0) kX9 dX9_openPasses_6 (shP_15 hX hb) rfl (by decide) fl_X9_9 rfl ?_
    refine i_icmp_ge (tgt := 41) C dX9_openPasses_9 (by decide) ?_ ?_
    · refine i_iload_n C dX9_openPasses_41 rfl (q := 1) rfl ?_
      exact i_iret C hq dX9_openPasses_42
    · refine i_aload_n C dX9_openPasses_12 rfl (q := 0) rfl ?_
      refine i_getR C (k := 1) kX9 dX9_openPasses_13 (shP_15 hX hb) rfl (by decide) fl_X9_15 ?_
      refine i_iload_n C dX9_openPasses_16 rfl (q := 2) rfl ?_
      refine i_ald C dX9_openPasses_17 (shP_16 hX hb) (fun v1 => ?_)
      refine i_bipush C dX9_openPasses_18 kB_6 ?_
      refine i_jn (fun j => ∀ (p2 : Int) (M4 : Mem), Im X 0 0 35 [(0, aR (b + 15)), (1, aI p2), (2, aI u2)] [] M4 res (j p2 M4)) ?_ (fun j3 hj3 => ?_)
      · intro p2 M4
        refine i_iincN (L' := fun v5 => [(0, aR (b + 15)), (1, aI p2), (2, aI v5)]) C dX9_openPasses_35 (q := 2) rfl hl2 (fun _ => rfl) (fun v5 => ?_)
        refine i_goto (tgt := 4) C dX9_openPasses_38 (by decide) ?_
        exact (ih p2 v5 M4)
      refine i_icmp_ne (tgt := 35) C dX9_openPasses_20 (by decide) ?_ ?_
      · exact (hj3 u1 M)
      · refine i_aload_n C dX9_openPasses_23 rfl (q := 0) rfl ?_
        refine i_getR C (k := 7) kX9 dX9_openPasses_24 (shP_15 hX hb) rfl (by decide) fl_X9_34 ?_
        refine i_iload_n C dX9_openPasses_27 rfl (q := 2) rfl ?_
        refine i_ald C dX9_openPasses_28 (shP_22 hX hb) (fun v6 => ?_)
        refine i_if_ne (tgt := 35) C dX9_openPasses_29 (by decide) ?_ ?_
        · exact (hj3 u1 M)
        · refine i_iincN (L' := fun v7 => [(0, aR (b + 15)), (1, aI v7), (2, aI u2)]) C dX9_openPasses_32 (q := 1) rfl hl1 (fun _ => rfl) (fun v7 => ?_)
          exact (hj3 v7 M)
set_option maxRecDepth 100000 in
set_option maxHeartbeats 4000000 in
theorem c_X9_openPasses (l : Launch) (G : Gx) {K : Kx} (hK : K = kP) {b : Nat} (hb : isC b) {M : Mem} {res : Int × Mem} (hM : OkM M) (ha : okS [aR (b + 15)]) (hF : pTies_openPasses b M = some res) : Ct l G K yX9_openPasses (wsM yX9_openPasses cX9_openPasses 3 (some .int)) rmX9_openPasses [aR (b + 15)] M (some (aI res.1)) res.2 := by
  refine ct_of RX9 (by decide +kernel) rfl (hK ▸ kP_ok) hM ha (Nat.le_of_ble_eq_true rfl) hF ?_
  intro X C hl hG hX0 hN hR hq
  have hX : xK X = kP := hX0.trans hK
  show Im X 0 0 0 [(0, aR (b + 15))] [] M res (pTies_openPasses b M)
  unfold pTies_openPasses
  have hl1 : 1 < xn X := by rw [hN]; decide
  have hl2 : 2 < xn X := by rw [hN]; decide
  refine i_iconst C dX9_openPasses_0 kI_0 ?_
  refine i_istore_n C dX9_openPasses_1 rfl hl1 (L' := [(0, aR (b + 15)), (1, aI 0)]) rfl ?_
  refine i_iconst C dX9_openPasses_2 kI_0 ?_
  refine i_istore_n C dX9_openPasses_3 rfl hl2 (L' := [(0, aR (b + 15)), (1, aI 0), (2, aI 0)]) rfl ?_
  exact (w_X9_openPasses_4 C hX hN hR hb hq FU 0 0 M)
set_option maxRecDepth 100000 in
set_option maxHeartbeats 4000000 in
theorem w_X10_lay_11 {X : Xc} (C : Cx X RX10 cX10_lay none) (hX : xK X = kP) (hN : xn X = 6) (hR : xR X = rmX10_lay) {b : Nat} (hb : isC b) {res : Mem} (hq : Rq X none res) (y2 : Int) (y3 : Int) {k79 : Mem → Option (Mem)} (hk79 : ∀ (M : Mem), Im X 0 0 79 [(0, aR 9), (1, aR b), (3, aI y3)] [] M res (k79 M)) : ∀ (n : Nat) (u4 : Int) (M : Mem), Im X 0 0 11 [(0, aR 9), (1, aR b), (2, aI y2), (3, aI y3), (4, aI u4)] [] M res (lpX10_lay_11 b y2 y3 k79 n u4 M) := by
  have hl4 : 4 < xn X := by rw [hN]; decide
  have hRm : ∀ {rm : Room} {ny : Nat}, RmOk rmX10_lay rm ny → RmOk (xR X) rm ny := fun h => by rw [hR]; exact h
  intro n
  induction n with
  | zero => intro _ _; exact i_none
  | succ n ih =>
    intro u4 M
    unfold lpX10_lay_11
    refine i_iload C dX10_lay_11 (q := 4) rfl ?_
    refine i_aload_n C dX10_lay_13 rfl (q := 1) rfl ?_
    refine i_getI C (k := 1) kX0 dX10_lay_14 (shP_0 hX hb) rfl (by decide) fl_X10_39 rfl ?_
    refine i_icmp_ge (tgt := 79) C dX10_lay_17 (by decide) ?_ ?_
    · exact i_sub [0, 1, 3] rfl (hk79  M)
    · refine i_aload_n C dX10_lay_20 rfl (q := 0) rfl ?_
      refine i_getR C (k := 0) kX10 dX10_lay_21 (shT_9 hX) rfl (by decide) fl_X10_11 ?_
      refine i_sipush C dX10_lay_24 kS_288 ?_
      refine i_iload C dX10_lay_27 (q := 4) rfl ?_
      refine i_iadd C dX10_lay_29 ?_
      refine i_aload_n C dX10_lay_30 rfl (q := 1) rfl ?_
      refine i_getR C (k := 4) kX0 dX10_lay_31 (shP_0 hX hb) rfl (by decide) fl_X10_45 ?_
      refine i_iload C dX10_lay_34 (q := 4) rfl ?_
      refine i_ald C dX10_lay_36 (shP_3 hX hb) (fun v2 => ?_)
      refine i_ast C dX10_lay_37 (shT_10 hX) (fun M3 => ?_)
      refine i_iload_n C dX10_lay_38 rfl (q := 2) rfl ?_
      refine i_aload_n C dX10_lay_39 rfl (q := 1) rfl ?_
      refine i_getR C (k := 2) kX0 dX10_lay_40 (shP_0 hX hb) rfl (by decide) fl_X10_48 ?_
      refine i_iload C dX10_lay_43 (q := 4) rfl ?_
      refine i_ald C dX10_lay_45 (shP_1 hX hb) (fun v4 => ?_)
      refine i_ishr C dX10_lay_46 ?_
      refine i_iconst C dX10_lay_47 kI_1 ?_
      refine i_iand C dX10_lay_48 ?_
      refine i_iconst C dX10_lay_49 kI_1 ?_
      refine i_jn (fun j => ∀  (M6 : Mem), Im X 0 0 73 [(0, aR 9), (1, aR b), (2, aI y2), (3, aI y3), (4, aI u4)] [] M6 res (j  M6)) ?_ (fun j5 hj5 => ?_)
      · intro  M6
        refine i_iincN (L' := fun v7 => [(0, aR 9), (1, aR b), (2, aI y2), (3, aI y3), (4, aI v7)]) C dX10_lay_73 (q := 4) rfl hl4 (fun _ => rfl) (fun v7 => ?_)
        refine i_goto (tgt := 11) C dX10_lay_76 (by decide) ?_
        exact (ih v7 M6)
      refine i_icmp_ne (tgt := 73) C dX10_lay_50 (by decide) ?_ ?_
      · exact (hj5  M3)
      · refine i_aload_n C dX10_lay_53 rfl (q := 0) rfl ?_
        refine i_getR C (k := 0) kX10 dX10_lay_54 (shT_9 hX) rfl (by decide) fl_X10_11 ?_
        refine i_iload C dX10_lay_57 (q := 4) rfl ?_
        refine i_bipush C dX10_lay_59 kB_18 ?_
        refine i_imul C dX10_lay_61 ?_
        refine i_bipush C dX10_lay_62 kB_17 ?_
        refine i_iadd C dX10_lay_64 ?_
        refine i_aload_n C dX10_lay_65 rfl (q := 1) rfl ?_
        refine i_getR C (k := 3) kX0 dX10_lay_66 (shP_0 hX hb) rfl (by decide) fl_X10_51 ?_
        refine i_iload C dX10_lay_69 (q := 4) rfl ?_
        refine i_ald C dX10_lay_71 (shP_2 hX hb) (fun v8 => ?_)
        refine i_ast C dX10_lay_72 (shT_10 hX) (fun M9 => ?_)
        exact (hj5  M9)
set_option maxRecDepth 100000 in
set_option maxHeartbeats 4000000 in
theorem w_X10_lay_88 {X : Xc} (C : Cx X RX10 cX10_lay none) (hX : xK X = kP) (hN : xn X = 6) (hR : xR X = rmX10_lay) {b : Nat} (hb : isC b) {res : Mem} (hq : Rq X none res) (y3 : Int) : ∀ (n : Nat) (u5 : Int) (M : Mem), Im X 0 0 88 [(0, aR 9), (3, aI y3), (4, aR (b + 15)), (5, aI u5)] [] M res (lpX10_lay_88 b y3 n u5 M) := by
  have hl4 : 4 < xn X := by rw [hN]; decide
  have hl5 : 5 < xn X := by rw [hN]; decide
  have hRm : ∀ {rm : Room} {ny : Nat}, RmOk rmX10_lay rm ny → RmOk (xR X) rm ny := fun h => by rw [hR]; exact h
  intro n
  induction n with
  | zero => intro _ _; exact i_none
  | succ n ih =>
    intro u5 M
    unfold lpX10_lay_88
    refine i_iload C dX10_lay_88 (q := 3) rfl ?_
    refine i_aload C dX10_lay_90 (q := 2) rfl ?_
    refine i_getI C (k := 0) kX9 dX10_lay_92 (shP_15 hX hb) rfl (by decide) fl_X10_58 rfl ?_
    refine i_icmp_ge (tgt := 197) C dX10_lay_95 (by decide) ?_ ?_
    · exact i_vret C hq dX10_lay_197
    · refine i_aload C dX10_lay_98 (q := 2) rfl ?_
      refine i_getR C (k := 1) kX9 dX10_lay_100 (shP_15 hX hb) rfl (by decide) fl_X10_63 ?_
      refine i_iload C dX10_lay_103 (q := 3) rfl ?_
      refine i_ald C dX10_lay_105 (shP_16 hX hb) (fun v11 => ?_)
      refine i_iconst C dX10_lay_106 kI_3 ?_
      refine i_jn (fun j => ∀  (M13 : Mem), Im X 0 0 191 [(0, aR 9), (3, aI y3), (4, aR (b + 15)), (5, aI u5)] [] M13 res (j  M13)) ?_ (fun j12 hj12 => ?_)
      · intro  M13
        refine i_iincN (L' := fun v14 => [(0, aR 9), (3, aI y3), (4, aR (b + 15)), (5, aI v14)]) C dX10_lay_191 (q := 3) rfl hl5 (fun _ => rfl) (fun v14 => ?_)
        refine i_goto (tgt := 88) C dX10_lay_194 (by decide) ?_
        exact (ih v14 M13)
      refine i_icmp_ne (tgt := 191) C dX10_lay_107 (by decide) ?_ ?_
      · exact (hj12  M)
      · refine i_iload C dX10_lay_110 (q := 3) rfl ?_
        refine i_iload_n C dX10_lay_112 rfl (q := 1) rfl ?_
        refine i_icmp_ne (tgt := 119) C dX10_lay_113 (by decide) ?_ ?_
        · refine i_aload_n C dX10_lay_119 rfl (q := 0) rfl ?_
          refine i_getR C (k := 0) kX10 dX10_lay_120 (shT_9 hX) rfl (by decide) fl_X10_11 ?_
          refine i_aload C dX10_lay_123 (q := 2) rfl ?_
          refine i_getR C (k := 2) kX9 dX10_lay_125 (shP_15 hX hb) rfl (by decide) fl_X10_66 ?_
          refine i_iload C dX10_lay_128 (q := 3) rfl ?_
          refine i_ald C dX10_lay_130 (shP_17 hX hb) (fun v15 => ?_)
          refine i_bipush C dX10_lay_131 kB_18 ?_
          refine i_imul C dX10_lay_133 ?_
          refine i_aload C dX10_lay_134 (q := 2) rfl ?_
          refine i_getR C (k := 3) kX9 dX10_lay_136 (shP_15 hX hb) rfl (by decide) fl_X10_69 ?_
          refine i_iload C dX10_lay_139 (q := 3) rfl ?_
          refine i_ald C dX10_lay_141 (shP_18 hX hb) (fun v16 => ?_)
          refine i_iadd C dX10_lay_142 ?_
          refine i_dup2 C dX10_lay_143 rfl rfl ?_
          refine i_ald C dX10_lay_144 (shT_10 hX) (fun v17 => ?_)
          refine i_aload C dX10_lay_145 (q := 2) rfl ?_
          refine i_getR C (k := 4) kX9 dX10_lay_147 (shP_15 hX hb) rfl (by decide) fl_X10_72 ?_
          refine i_iload C dX10_lay_150 (q := 3) rfl ?_
          refine i_ald C dX10_lay_152 (shP_19 hX hb) (fun v18 => ?_)
          refine i_iadd C dX10_lay_153 ?_
          refine i_ast C dX10_lay_154 (shT_10 hX) (fun M19 => ?_)
          refine i_aload_n C dX10_lay_155 rfl (q := 0) rfl ?_
          refine i_getR C (k := 0) kX10 dX10_lay_156 (shT_9 hX) rfl (by decide) fl_X10_11 ?_
          refine i_aload C dX10_lay_159 (q := 2) rfl ?_
          refine i_getR C (k := 3) kX9 dX10_lay_161 (shP_15 hX hb) rfl (by decide) fl_X10_69 ?_
          refine i_iload C dX10_lay_164 (q := 3) rfl ?_
          refine i_ald C dX10_lay_166 (shP_18 hX hb) (fun v20 => ?_)
          refine i_bipush C dX10_lay_167 kB_18 ?_
          refine i_imul C dX10_lay_169 ?_
          refine i_aload C dX10_lay_170 (q := 2) rfl ?_
          refine i_getR C (k := 2) kX9 dX10_lay_172 (shP_15 hX hb) rfl (by decide) fl_X10_66 ?_
          refine i_iload C dX10_lay_175 (q := 3) rfl ?_
          refine i_ald C dX10_lay_177 (shP_17 hX hb) (fun v21 => ?_)
          refine i_iadd C dX10_lay_178 ?_
          refine i_dup2 C dX10_lay_179 rfl rfl ?_
          refine i_ald C dX10_lay_180 (shT_10 hX) (fun v22 => ?_)
          refine i_aload C dX10_lay_181 (q := 2) rfl ?_
          refine i_getR C (k := 4) kX9 dX10_lay_183 (shP_15 hX hb) rfl (by decide) fl_X10_72 ?_
          refine i_iload C dX10_lay_186 (q := 3) rfl ?_
          refine i_ald C dX10_lay_188 (shP_19 hX hb) (fun v23 => ?_)
          refine i_iadd C dX10_lay_189 ?_
          refine i_ast C dX10_lay_190 (shT_10 hX) (fun M24 => ?_)
          exact (hj12  M24)
        · refine i_goto (tgt := 191) C dX10_lay_116 (by decide) ?_
          exact (hj12  M)
set_option maxRecDepth 100000 in
set_option maxHeartbeats 4000000 in
theorem c_X10_lay (l : Launch) (G : Gx) {K : Kx} (hK : K = kP) {b : Nat} {x2 : Int} {x3 : Int} (hb : isC b) {M : Mem} {res : Mem} (hM : OkM M) (ha : okS [aR 9, aR b, aI x2, aI x3]) (hF : pWater_lay b x2 x3 M = some res) : Ct l G K yX10_lay (wsM yX10_lay cX10_lay 6 none) rmX10_lay [aR 9, aR b, aI x2, aI x3] M none res := by
  refine ct_of RX10 (by decide +kernel) rfl (hK ▸ kP_ok) hM ha (Nat.le_of_ble_eq_true rfl) hF ?_
  intro X C hl hG hX0 hN hR hq
  have hX : xK X = kP := hX0.trans hK
  show Im X 0 0 0 [(0, aR 9), (1, aR b), (2, aI x2), (3, aI x3)] [] M res (pWater_lay b x2 x3 M)
  unfold pWater_lay
  have hl4 : 4 < xn X := by rw [hN]; decide
  have hl5 : 5 < xn X := by rw [hN]; decide
  have hRm : ∀ {rm : Room} {ny : Nat}, RmOk rmX10_lay rm ny → RmOk (xR X) rm ny := fun h => by rw [hR]; exact h
  refine i_aload_n C dX10_lay_0 rfl (q := 0) rfl ?_
  refine i_getR C (k := 0) kX10 dX10_lay_1 (shT_9 hX) rfl (by decide) fl_X10_11 ?_
  refine i_iconst C dX10_lay_4 kI_0 ?_
  refine i_cV (kc' := 0) (ks' := 0) 0 0 2 (fun q hq hM hS => crS C (as := [aR 10, aI 0]) dX10_lay_5.1 ml_X10_33 cal_J7_fill_53178 st_J7_fill_53178 (hRm ⟨Nat.le_of_ble_eq_true rfl, Nat.le_of_ble_eq_true rfl⟩) rfl (Nat.le_of_ble_eq_true rfl) (c_J7_fill_53178 (xl X) (xG X) hX (shT_10 hX) hM ⟨hS.2.1, hS.1, trivial⟩ hq)) (Nat.le_of_ble_eq_true rfl) (Nat.le_of_ble_eq_true rfl) rfl rfl rfl (fun M1 => ?_)
  refine i_iconst C dX10_lay_8 kI_0 ?_
  refine i_istore C dX10_lay_9 hl4 (L' := [(0, aR 9), (1, aR b), (2, aI x2), (3, aI x3), (4, aI 0)]) rfl ?_
  refine (w_X10_lay_11 C hX hN hR hb hq x2 x3 (fun M10 => ?_) FU 0 M1)
  refine i_aload_n C dX10_lay_79 rfl (q := 1) rfl ?_
  refine i_getR C (k := 8) kX0 dX10_lay_80 (shP_0 hX hb) rfl (by decide) fl_X10_54 ?_
  refine i_astore C dX10_lay_83 hl4 (L' := [(0, aR 9), (1, aR b), (3, aI x3), (4, aR (b + 15))]) rfl ?_
  refine i_iconst C dX10_lay_85 kI_0 ?_
  refine i_istore C dX10_lay_86 hl5 (L' := [(0, aR 9), (1, aR b), (3, aI x3), (4, aR (b + 15)), (5, aI 0)]) rfl ?_
  exact i_sub [0, 2, 3, 4] rfl (w_X10_lay_88 C hX hN hR hb hq x3 FU 0 M10)
set_option maxRecDepth 100000 in
set_option maxHeartbeats 4000000 in
theorem w_X10_reachDrain_51 {X : Xc} (C : Cx X RX10 cX10_reachDrain (some .boolean)) (hX : xK X = kP) (hN : xn X = 5) (hR : xR X = rmX10_reachDrain) {res : Int × Mem} (hq : Rq X (some (aI res.1)) res.2) (y2 : Int) (y3 : Int) {k113 : Int → Mem → Option (Int × Mem)} (hk113 : ∀ (q1 : Int) (M : Mem), Im X 0 0 113 [(0, aR 9), (1, aI q1), (2, aI y2)] [] M res (k113 q1 M)) : ∀ (n : Nat) (u1 : Int) (u4 : Int) (M : Mem), Im X 0 0 51 [(0, aR 9), (1, aI u1), (2, aI y2), (3, aI y3), (4, aI u4)] [] M res (lpX10_reachDrain_51 y2 y3 k113 n u1 u4 M) := by
  have hl1 : 1 < xn X := by rw [hN]; decide
  have hl2 : 2 < xn X := by rw [hN]; decide
  have hl3 : 3 < xn X := by rw [hN]; decide
  have hl4 : 4 < xn X := by rw [hN]; decide
  have hRm : ∀ {rm : Room} {ny : Nat}, RmOk rmX10_reachDrain rm ny → RmOk (xR X) rm ny := fun h => by rw [hR]; exact h
  intro n
  induction n with
  | zero => intro _ _ _; exact i_none
  | succ n ih =>
    intro u1 u4 M
    unfold lpX10_reachDrain_51
    refine i_iload C dX10_reachDrain_51 (q := 4) rfl ?_
    refine i_bipush C dX10_reachDrain_53 kB_18 ?_
    refine i_icmp_ge (tgt := 113) C dX10_reachDrain_55 (by decide) ?_ ?_
    · exact i_sub [0, 1, 2] rfl (hk113 u1 M)
    · refine i_aload_n C dX10_reachDrain_58 rfl (q := 0) rfl ?_
      refine i_getR C (k := 1) kX10 dX10_reachDrain_59 (shT_9 hX) rfl (by decide) fl_X10_15 ?_
      refine i_iload C dX10_reachDrain_62 (q := 4) rfl ?_
      refine i_ald C dX10_reachDrain_64 (shT_11 hX) (fun v5 => ?_)
      refine i_ldc C dX10_reachDrain_65 kc_X10_75 kI_m1000000005 ?_
      refine i_jn (fun j => ∀ (p6 : Int) (M8 : Mem), Im X 0 0 107 [(0, aR 9), (1, aI p6), (2, aI y2), (3, aI y3), (4, aI u4)] [] M8 res (j p6 M8)) ?_ (fun j7 hj7 => ?_)
      · intro p6 M8
        refine i_iincN (L' := fun v9 => [(0, aR 9), (1, aI p6), (2, aI y2), (3, aI y3), (4, aI v9)]) C dX10_reachDrain_107 (q := 4) rfl hl4 (fun _ => rfl) (fun v9 => ?_)
        refine i_goto (tgt := 51) C dX10_reachDrain_110 (by decide) ?_
        exact (ih p6 v9 M8)
      refine i_icmp_ne (tgt := 107) C dX10_reachDrain_67 (by decide) ?_ ?_
      · exact (hj7 u1 M)
      · refine i_aload_n C dX10_reachDrain_70 rfl (q := 0) rfl ?_
        refine i_getR C (k := 0) kX10 dX10_reachDrain_71 (shT_9 hX) rfl (by decide) fl_X10_11 ?_
        refine i_iload_n C dX10_reachDrain_74 rfl (q := 3) rfl ?_
        refine i_bipush C dX10_reachDrain_75 kB_18 ?_
        refine i_imul C dX10_reachDrain_77 ?_
        refine i_iload C dX10_reachDrain_78 (q := 4) rfl ?_
        refine i_iadd C dX10_reachDrain_80 ?_
        refine i_ald C dX10_reachDrain_81 (shT_10 hX) (fun v10 => ?_)
        refine i_if_ne (tgt := 88) C dX10_reachDrain_82 (by decide) ?_ ?_
        · refine i_aload_n C dX10_reachDrain_88 rfl (q := 0) rfl ?_
          refine i_getR C (k := 1) kX10 dX10_reachDrain_89 (shT_9 hX) rfl (by decide) fl_X10_15 ?_
          refine i_iload C dX10_reachDrain_92 (q := 4) rfl ?_
          refine i_iload_n C dX10_reachDrain_94 rfl (q := 3) rfl ?_
          refine i_ast C dX10_reachDrain_95 (shT_11 hX) (fun M11 => ?_)
          refine i_aload_n C dX10_reachDrain_96 rfl (q := 0) rfl ?_
          refine i_getR C (k := 2) kX10 dX10_reachDrain_97 (shT_9 hX) rfl (by decide) fl_X10_18 ?_
          refine i_iload_n C dX10_reachDrain_100 rfl (q := 1) rfl ?_
          refine i_iincN (L' := fun v12 => [(0, aR 9), (1, aI v12), (2, aI y2), (3, aI y3), (4, aI u4)]) C dX10_reachDrain_101 (q := 1) rfl hl1 (fun _ => rfl) (fun v12 => ?_)
          refine i_iload C dX10_reachDrain_104 (q := 4) rfl ?_
          refine i_ast C dX10_reachDrain_106 (shT_12 hX) (fun M13 => ?_)
          exact (hj7 v12 M13)
        · refine i_goto (tgt := 107) C dX10_reachDrain_85 (by decide) ?_
          exact (hj7 u1 M)
set_option maxRecDepth 100000 in
set_option maxHeartbeats 4000000 in
theorem w_X10_reachDrain_30 {X : Xc} (C : Cx X RX10 cX10_reachDrain (some .boolean)) (hX : xK X = kP) (hN : xn X = 5) (hR : xR X = rmX10_reachDrain) {res : Int × Mem} (hq : Rq X (some (aI res.1)) res.2) {k119 : Mem → Option (Int × Mem)} (hk119 : ∀ (M : Mem), Im X 0 0 119 [(0, aR 9)] [] M res (k119 M)) : ∀ (n : Nat) (u1 : Int) (u2 : Int) (M : Mem), Im X 0 0 30 [(0, aR 9), (1, aI u1), (2, aI u2)] [] M res (lpX10_reachDrain_30 k119 n u1 u2 M) := by
  have hl1 : 1 < xn X := by rw [hN]; decide
  have hl2 : 2 < xn X := by rw [hN]; decide
  have hl3 : 3 < xn X := by rw [hN]; decide
  have hl4 : 4 < xn X := by rw [hN]; decide
  have hRm : ∀ {rm : Room} {ny : Nat}, RmOk rmX10_reachDrain rm ny → RmOk (xR X) rm ny := fun h => by rw [hR]; exact h
  intro n
  induction n with
  | zero => intro _ _ _; exact i_none
  | succ n ih =>
    intro u1 u2 M
    unfold lpX10_reachDrain_30
    refine i_iload_n C dX10_reachDrain_30 rfl (q := 2) rfl ?_
    refine i_iload_n C dX10_reachDrain_31 rfl (q := 1) rfl ?_
    refine i_icmp_ge (tgt := 119) C dX10_reachDrain_32 (by decide) ?_ ?_
    · exact i_sub [0] rfl (hk119  M)
    · refine i_iload_n C dX10_reachDrain_35 rfl (q := 2) rfl ?_
      refine i_bipush C dX10_reachDrain_36 kB_18 ?_
      refine i_icmp_ge (tgt := 119) C dX10_reachDrain_38 (by decide) ?_ ?_
      · exact i_sub [0] rfl (hk119  M)
      · refine i_aload_n C dX10_reachDrain_41 rfl (q := 0) rfl ?_
        refine i_getR C (k := 2) kX10 dX10_reachDrain_42 (shT_9 hX) rfl (by decide) fl_X10_18 ?_
        refine i_iload_n C dX10_reachDrain_45 rfl (q := 2) rfl ?_
        refine i_ald C dX10_reachDrain_46 (shT_12 hX) (fun v4 => ?_)
        refine i_istore_n C dX10_reachDrain_47 rfl hl3 (L' := [(0, aR 9), (1, aI u1), (2, aI u2), (3, aI v4)]) rfl ?_
        refine i_iconst C dX10_reachDrain_48 kI_0 ?_
        refine i_istore C dX10_reachDrain_49 hl4 (L' := [(0, aR 9), (1, aI u1), (2, aI u2), (3, aI v4), (4, aI 0)]) rfl ?_
        refine (w_X10_reachDrain_51 C hX hN hR hq u2 v4 (fun v14 M15 => ?_) FU u1 0 M)
        refine i_iincN (L' := fun v16 => [(0, aR 9), (1, aI v14), (2, aI v16)]) C dX10_reachDrain_113 (q := 2) rfl hl2 (fun _ => rfl) (fun v16 => ?_)
        refine i_goto (tgt := 30) C dX10_reachDrain_116 (by decide) ?_
        exact (ih v14 v16 M15)
set_option maxRecDepth 100000 in
set_option maxHeartbeats 4000000 in
theorem c_X10_reachDrain (l : Launch) (G : Gx) {K : Kx} (hK : K = kP) {M : Mem} {res : Int × Mem} (hM : OkM M) (ha : okS [aR 9]) (hF : pWater_reachDrain M = some res) : Ct l G K yX10_reachDrain (wsM yX10_reachDrain cX10_reachDrain 5 (some .boolean)) rmX10_reachDrain [aR 9] M (some (aI res.1)) res.2 := by
  refine ct_of RX10 (by decide +kernel) rfl (hK ▸ kP_ok) hM ha (Nat.le_of_ble_eq_true rfl) hF ?_
  intro X C hl hG hX0 hN hR hq
  have hX : xK X = kP := hX0.trans hK
  show Im X 0 0 0 [(0, aR 9)] [] M res (pWater_reachDrain  M)
  unfold pWater_reachDrain
  have hl1 : 1 < xn X := by rw [hN]; decide
  have hl2 : 2 < xn X := by rw [hN]; decide
  have hl3 : 3 < xn X := by rw [hN]; decide
  have hl4 : 4 < xn X := by rw [hN]; decide
  have hRm : ∀ {rm : Room} {ny : Nat}, RmOk rmX10_reachDrain rm ny → RmOk (xR X) rm ny := fun h => by rw [hR]; exact h
  refine i_aload_n C dX10_reachDrain_0 rfl (q := 0) rfl ?_
  refine i_getR C (k := 1) kX10 dX10_reachDrain_1 (shT_9 hX) rfl (by decide) fl_X10_15 ?_
  refine i_ldc C dX10_reachDrain_4 kc_X10_75 kI_m1000000005 ?_
  refine i_cV (kc' := 0) (ks' := 0) 0 0 2 (fun q hq hM hS => crS C (as := [aR 11, aI (-1000000005)]) dX10_reachDrain_6.1 ml_X10_33 cal_J7_fill_53178 st_J7_fill_53178 (hRm ⟨Nat.le_of_ble_eq_true rfl, Nat.le_of_ble_eq_true rfl⟩) rfl (Nat.le_of_ble_eq_true rfl) (c_J7_fill_53178 (xl X) (xG X) hX (shT_11 hX) hM ⟨hS.2.1, hS.1, trivial⟩ hq)) (Nat.le_of_ble_eq_true rfl) (Nat.le_of_ble_eq_true rfl) rfl rfl rfl (fun M1 => ?_)
  refine i_aload_n C dX10_reachDrain_9 rfl (q := 0) rfl ?_
  refine i_getR C (k := 1) kX10 dX10_reachDrain_10 (shT_9 hX) rfl (by decide) fl_X10_15 ?_
  refine i_bipush C dX10_reachDrain_13 kB_16 ?_
  refine i_bipush C dX10_reachDrain_15 kB_16 ?_
  refine i_ast C dX10_reachDrain_17 (shT_11 hX) (fun M2 => ?_)
  refine i_aload_n C dX10_reachDrain_18 rfl (q := 0) rfl ?_
  refine i_getR C (k := 2) kX10 dX10_reachDrain_19 (shT_9 hX) rfl (by decide) fl_X10_18 ?_
  refine i_iconst C dX10_reachDrain_22 kI_0 ?_
  refine i_bipush C dX10_reachDrain_23 kB_16 ?_
  refine i_ast C dX10_reachDrain_25 (shT_12 hX) (fun M3 => ?_)
  refine i_iconst C dX10_reachDrain_26 kI_1 ?_
  refine i_istore_n C dX10_reachDrain_27 rfl hl1 (L' := [(0, aR 9), (1, aI 1)]) rfl ?_
  refine i_iconst C dX10_reachDrain_28 kI_0 ?_
  refine i_istore_n C dX10_reachDrain_29 rfl hl2 (L' := [(0, aR 9), (1, aI 1), (2, aI 0)]) rfl ?_
  refine (w_X10_reachDrain_30 C hX hN hR hq (fun M17 => ?_) FU 1 0 M3)
  refine i_aload_n C dX10_reachDrain_119 rfl (q := 0) rfl ?_
  refine i_getR C (k := 1) kX10 dX10_reachDrain_120 (shT_9 hX) rfl (by decide) fl_X10_15 ?_
  refine i_bipush C dX10_reachDrain_123 kB_17 ?_
  refine i_ald C dX10_reachDrain_125 (shT_11 hX) (fun v18 => ?_)
  refine i_ldc C dX10_reachDrain_126 kc_X10_75 kI_m1000000005 ?_
  refine i_icmp_eq (tgt := 135) C dX10_reachDrain_128 (by decide) ?_ ?_
  · refine i_iconst C dX10_reachDrain_135 kI_0 ?_
    exact i_zret C hq dX10_reachDrain_136 (Or.inl rfl)
  · refine i_iconst C dX10_reachDrain_131 kI_1 ?_
    refine i_goto (tgt := 136) C dX10_reachDrain_132 (by decide) ?_
    exact i_zret C hq dX10_reachDrain_136 (Or.inr rfl)
set_option maxRecDepth 100000 in
set_option maxHeartbeats 4000000 in
theorem w_X10_push_9 {X : Xc} (C : Cx X RX10 cX10_push (some .int)) (hX : xK X = kP) (hN : xn X = 4) (hR : xR X = rmX10_push) {res : Int × Mem} (hq : Rq X (some (aI res.1)) res.2) {k55 : Int → Mem → Option (Int × Mem)} (hk55 : ∀ (q1 : Int) (M : Mem), Im X 0 0 55 [(0, aR 9), (1, aI q1)] [] M res (k55 q1 M)) : ∀ (n : Nat) (u1 : Int) (u2 : Int) (u3 : Int) (M : Mem), Im X 0 0 9 [(0, aR 9), (1, aI u1), (2, aI u2), (3, aI u3)] [] M res (lpX10_push_9 k55 n u1 u2 u3 M) := by
  have hl1 : 1 < xn X := by rw [hN]; decide
  have hl2 : 2 < xn X := by rw [hN]; decide
  have hl3 : 3 < xn X := by rw [hN]; decide
  have hRj : 1 ≤ (xR X).frames ∧ 60 ≤ (xR X).locals := by rw [hR]; exact ⟨Nat.le_of_ble_eq_true rfl, Nat.le_of_ble_eq_true rfl⟩
  intro n
  induction n with
  | zero => intro _ _ _ _; exact i_none
  | succ n ih =>
    intro u1 u2 u3 M
    unfold lpX10_push_9
    refine i_iload_n C dX10_push_9 rfl (q := 3) rfl ?_
    refine i_bipush C dX10_push_10 kB_18 ?_
    refine i_icmp_ge (tgt := 55) C dX10_push_12 (by decide) ?_ ?_
    · exact i_sub [0, 1] rfl (hk55 u1 M)
    · refine i_iload_n C dX10_push_15 rfl (q := 2) rfl ?_
      refine i_bipush C dX10_push_16 kB_16 ?_
      refine i_icmp_eq (tgt := 55) C dX10_push_18 (by decide) ?_ ?_
      · exact i_sub [0, 1] rfl (hk55 u1 M)
      · refine i_iload_n C dX10_push_21 rfl (q := 1) rfl ?_
        refine i_aload_n C dX10_push_22 rfl (q := 0) rfl ?_
        refine i_getR C (k := 0) kX10 dX10_push_23 (shT_9 hX) rfl (by decide) fl_X10_11 ?_
        refine i_aload_n C dX10_push_26 rfl (q := 0) rfl ?_
        refine i_getR C (k := 1) kX10 dX10_push_27 (shT_9 hX) rfl (by decide) fl_X10_15 ?_
        refine i_iload_n C dX10_push_30 rfl (q := 2) rfl ?_
        refine i_ald C dX10_push_31 (shT_11 hX) (fun v1 => ?_)
        refine i_bipush C dX10_push_32 kB_18 ?_
        refine i_imul C dX10_push_34 ?_
        refine i_iload_n C dX10_push_35 rfl (q := 2) rfl ?_
        refine i_iadd C dX10_push_36 ?_
        refine i_ald C dX10_push_37 (shT_10 hX) (fun v2 => ?_)
        refine i_mmin C hRj ml_X10_76 dX10_push_38 (Nat.le_of_ble_eq_true rfl) ?_
        refine i_nm (fun v3 => ?_)
        refine i_istore_n C dX10_push_41 rfl hl1 (L' := [(0, aR 9), (1, aI v3), (2, aI u2), (3, aI u3)]) rfl ?_
        refine i_aload_n C dX10_push_42 rfl (q := 0) rfl ?_
        refine i_getR C (k := 1) kX10 dX10_push_43 (shT_9 hX) rfl (by decide) fl_X10_15 ?_
        refine i_iload_n C dX10_push_46 rfl (q := 2) rfl ?_
        refine i_ald C dX10_push_47 (shT_11 hX) (fun v4 => ?_)
        refine i_istore_n C dX10_push_48 rfl hl2 (L' := [(0, aR 9), (1, aI v3), (2, aI v4), (3, aI u3)]) rfl ?_
        refine i_iincN (L' := fun v5 => [(0, aR 9), (1, aI v3), (2, aI v4), (3, aI v5)]) C dX10_push_49 (q := 3) rfl hl3 (fun _ => rfl) (fun v5 => ?_)
        refine i_goto (tgt := 9) C dX10_push_52 (by decide) ?_
        exact (ih v3 v4 v5 M)
set_option maxRecDepth 100000 in
set_option maxHeartbeats 4000000 in
theorem w_X10_push_60 {X : Xc} (C : Cx X RX10 cX10_push (some .int)) (hX : xK X = kP) (hN : xn X = 4) (hR : xR X = rmX10_push) {res : Int × Mem} (hq : Rq X (some (aI res.1)) res.2) (y1 : Int) : ∀ (n : Nat) (u2 : Int) (u3 : Int) (M : Mem), Im X 0 0 60 [(0, aR 9), (1, aI y1), (2, aI u2), (3, aI u3)] [] M res (lpX10_push_60 y1 n u2 u3 M) := by
  have hl1 : 1 < xn X := by rw [hN]; decide
  have hl2 : 2 < xn X := by rw [hN]; decide
  have hl3 : 3 < xn X := by rw [hN]; decide
  have hRj : 1 ≤ (xR X).frames ∧ 60 ≤ (xR X).locals := by rw [hR]; exact ⟨Nat.le_of_ble_eq_true rfl, Nat.le_of_ble_eq_true rfl⟩
  intro n
  induction n with
  | zero => intro _ _ _; exact i_none
  | succ n ih =>
    intro u2 u3 M
    unfold lpX10_push_60
    refine i_iload_n C dX10_push_60 rfl (q := 3) rfl ?_
    refine i_bipush C dX10_push_61 kB_18 ?_
    refine i_icmp_ge (tgt := 125) C dX10_push_63 (by decide) ?_ ?_
    · refine i_iload_n C dX10_push_125 rfl (q := 1) rfl ?_
      exact i_iret C hq dX10_push_126
    · refine i_iload_n C dX10_push_66 rfl (q := 2) rfl ?_
      refine i_bipush C dX10_push_67 kB_16 ?_
      refine i_icmp_eq (tgt := 125) C dX10_push_69 (by decide) ?_ ?_
      · refine i_iload_n C dX10_push_125 rfl (q := 1) rfl ?_
        exact i_iret C hq dX10_push_126
      · refine i_aload_n C dX10_push_72 rfl (q := 0) rfl ?_
        refine i_getR C (k := 0) kX10 dX10_push_73 (shT_9 hX) rfl (by decide) fl_X10_11 ?_
        refine i_aload_n C dX10_push_76 rfl (q := 0) rfl ?_
        refine i_getR C (k := 1) kX10 dX10_push_77 (shT_9 hX) rfl (by decide) fl_X10_15 ?_
        refine i_iload_n C dX10_push_80 rfl (q := 2) rfl ?_
        refine i_ald C dX10_push_81 (shT_11 hX) (fun v8 => ?_)
        refine i_bipush C dX10_push_82 kB_18 ?_
        refine i_imul C dX10_push_84 ?_
        refine i_iload_n C dX10_push_85 rfl (q := 2) rfl ?_
        refine i_iadd C dX10_push_86 ?_
        refine i_dup2 C dX10_push_87 rfl rfl ?_
        refine i_ald C dX10_push_88 (shT_10 hX) (fun v9 => ?_)
        refine i_iload_n C dX10_push_89 rfl (q := 1) rfl ?_
        refine i_isub C dX10_push_90 ?_
        refine i_ast C dX10_push_91 (shT_10 hX) (fun M10 => ?_)
        refine i_aload_n C dX10_push_92 rfl (q := 0) rfl ?_
        refine i_getR C (k := 0) kX10 dX10_push_93 (shT_9 hX) rfl (by decide) fl_X10_11 ?_
        refine i_iload_n C dX10_push_96 rfl (q := 2) rfl ?_
        refine i_bipush C dX10_push_97 kB_18 ?_
        refine i_imul C dX10_push_99 ?_
        refine i_aload_n C dX10_push_100 rfl (q := 0) rfl ?_
        refine i_getR C (k := 1) kX10 dX10_push_101 (shT_9 hX) rfl (by decide) fl_X10_15 ?_
        refine i_iload_n C dX10_push_104 rfl (q := 2) rfl ?_
        refine i_ald C dX10_push_105 (shT_11 hX) (fun v11 => ?_)
        refine i_iadd C dX10_push_106 ?_
        refine i_dup2 C dX10_push_107 rfl rfl ?_
        refine i_ald C dX10_push_108 (shT_10 hX) (fun v12 => ?_)
        refine i_iload_n C dX10_push_109 rfl (q := 1) rfl ?_
        refine i_iadd C dX10_push_110 ?_
        refine i_ast C dX10_push_111 (shT_10 hX) (fun M13 => ?_)
        refine i_aload_n C dX10_push_112 rfl (q := 0) rfl ?_
        refine i_getR C (k := 1) kX10 dX10_push_113 (shT_9 hX) rfl (by decide) fl_X10_15 ?_
        refine i_iload_n C dX10_push_116 rfl (q := 2) rfl ?_
        refine i_ald C dX10_push_117 (shT_11 hX) (fun v14 => ?_)
        refine i_istore_n C dX10_push_118 rfl hl2 (L' := [(0, aR 9), (1, aI y1), (2, aI v14), (3, aI u3)]) rfl ?_
        refine i_iincN (L' := fun v15 => [(0, aR 9), (1, aI y1), (2, aI v14), (3, aI v15)]) C dX10_push_119 (q := 3) rfl hl3 (fun _ => rfl) (fun v15 => ?_)
        refine i_goto (tgt := 60) C dX10_push_122 (by decide) ?_
        exact (ih v14 v15 M13)
set_option maxRecDepth 100000 in
set_option maxHeartbeats 4000000 in
theorem c_X10_push (l : Launch) (G : Gx) {K : Kx} (hK : K = kP) {M : Mem} {res : Int × Mem} (hM : OkM M) (ha : okS [aR 9]) (hF : pWater_push M = some res) : Ct l G K yX10_push (wsM yX10_push cX10_push 4 (some .int)) rmX10_push [aR 9] M (some (aI res.1)) res.2 := by
  refine ct_of RX10 (by decide +kernel) rfl (hK ▸ kP_ok) hM ha (Nat.le_of_ble_eq_true rfl) hF ?_
  intro X C hl hG hX0 hN hR hq
  have hX : xK X = kP := hX0.trans hK
  show Im X 0 0 0 [(0, aR 9)] [] M res (pWater_push  M)
  unfold pWater_push
  have hl1 : 1 < xn X := by rw [hN]; decide
  have hl2 : 2 < xn X := by rw [hN]; decide
  have hl3 : 3 < xn X := by rw [hN]; decide
  have hRj : 1 ≤ (xR X).frames ∧ 60 ≤ (xR X).locals := by rw [hR]; exact ⟨Nat.le_of_ble_eq_true rfl, Nat.le_of_ble_eq_true rfl⟩
  refine i_sipush C dX10_push_0 kS_16000 ?_
  refine i_istore_n C dX10_push_3 rfl hl1 (L' := [(0, aR 9), (1, aI 16000)]) rfl ?_
  refine i_bipush C dX10_push_4 kB_17 ?_
  refine i_istore_n C dX10_push_6 rfl hl2 (L' := [(0, aR 9), (1, aI 16000), (2, aI 17)]) rfl ?_
  refine i_iconst C dX10_push_7 kI_0 ?_
  refine i_istore_n C dX10_push_8 rfl hl3 (L' := [(0, aR 9), (1, aI 16000), (2, aI 17), (3, aI 0)]) rfl ?_
  refine (w_X10_push_9 C hX hN hR hq (fun v6 M7 => ?_) FU 16000 17 0 M)
  refine i_bipush C dX10_push_55 kB_17 ?_
  refine i_istore_n C dX10_push_57 rfl hl2 (L' := [(0, aR 9), (1, aI v6), (2, aI 17)]) rfl ?_
  refine i_iconst C dX10_push_58 kI_0 ?_
  refine i_istore_n C dX10_push_59 rfl hl3 (L' := [(0, aR 9), (1, aI v6), (2, aI 17), (3, aI 0)]) rfl ?_
  exact (w_X10_push_60 C hX hN hR hq v6 FU 17 0 M7)
set_option maxRecDepth 100000 in
set_option maxHeartbeats 4000000 in
theorem w_X10_greatest_13 {X : Xc} (C : Cx X RX10 cX10_greatest (some .int)) (hX : xK X = kP) (hN : xn X = 7) (hR : xR X = rmX10_greatest) {b : Nat} (hb : isC b) {res : Int × Mem} (hq : Rq X (some (aI res.1)) res.2) : ∀ (n : Nat) (u4 : Int) (u5 : Int) (M : Mem), Im X 0 0 13 [(0, aR 9), (4, aI u4), (5, aI u5)] [] M res (lpX10_greatest_13 b n u4 u5 M) := by
  have hl4 : 4 < xn X := by rw [hN]; decide
  have hl5 : 5 < xn X := by rw [hN]; decide
  have hl6 : 6 < xn X := by rw [hN]; decide
  have hRm : ∀ {rm : Room} {ny : Nat}, RmOk rmX10_greatest rm ny → RmOk (xR X) rm ny := fun h => by rw [hR]; exact h
  intro n
  induction n with
  | zero => intro _ _ _; exact i_none
  | succ n ih =>
    intro u4 u5 M
    unfold lpX10_greatest_13
    refine i_iload C dX10_greatest_13 (q := 2) rfl ?_
    refine i_sipush C dX10_greatest_15 kS_16000 ?_
    refine i_icmp_ge (tgt := 59) C dX10_greatest_18 (by decide) ?_ ?_
    · refine i_iload C dX10_greatest_59 (q := 1) rfl ?_
      exact i_iret C hq dX10_greatest_61
    · refine i_aload_n C dX10_greatest_21 rfl (q := 0) rfl ?_
      refine i_cI (kc' := 0) (ks' := 0) 0 0 1 (fun q hq hM hS => crV C (as := []) dX10_greatest_22.1 kX10 (shT_9 hX) ml_X10_25 cal_X10_reachDrain cv_X10_reachDrain (hRm ⟨Nat.le_of_ble_eq_true rfl, Nat.le_of_ble_eq_true rfl⟩) rfl (Nat.le_of_ble_eq_true rfl) (c_X10_reachDrain (xl X) (xG X) hX hM ⟨hS.1, trivial⟩ hq)) (Nat.le_of_ble_eq_true rfl) (Nat.le_of_ble_eq_true rfl) rfl rfl rfl (fun v3 M2 => ?_)
      refine i_jn (fun j => ∀ (p4 : Int) (M6 : Mem), Im X 0 0 36 [(0, aR 9), (4, aI u4), (5, aI u5)] [aI p4] M6 res (j p4 M6)) ?_ (fun j5 hj5 => ?_)
      · intro p4 M6
        refine i_istore C dX10_greatest_36 hl6 (L' := [(0, aR 9), (4, aI u4), (5, aI u5), (6, aI p4)]) rfl ?_
        refine i_iload C dX10_greatest_38 (q := 3) rfl ?_
        refine i_if_ne (tgt := 46) C dX10_greatest_40 (by decide) ?_ ?_
        · refine i_iload C dX10_greatest_46 (q := 1) rfl ?_
          refine i_iload C dX10_greatest_48 (q := 3) rfl ?_
          refine i_iadd C dX10_greatest_50 ?_
          refine i_nm (fun v7 => ?_)
          refine i_istore C dX10_greatest_51 hl4 (L' := [(0, aR 9), (4, aI v7), (5, aI u5), (6, aI p4)]) rfl ?_
          refine i_iincN (L' := fun v8 => [(0, aR 9), (4, aI v7), (5, aI v8), (6, aI p4)]) C dX10_greatest_53 (q := 2) rfl hl5 (fun _ => rfl) (fun v8 => ?_)
          refine i_goto (tgt := 13) C dX10_greatest_56 (by decide) ?_
          exact i_sub [0, 1, 2] rfl (ih v7 v8 M6)
        · refine i_iload C dX10_greatest_43 (q := 1) rfl ?_
          exact i_iret C hq dX10_greatest_45
      refine i_if_eq (tgt := 35) C dX10_greatest_25 (by decide) ?_ ?_
      · refine i_iconst C dX10_greatest_35 kI_0 ?_
        exact (hj5 0 M2)
      · refine i_aload_n C dX10_greatest_28 rfl (q := 0) rfl ?_
        refine i_cI (kc' := 0) (ks' := 0) 0 0 1 (fun q hq hM hS => crV C (as := []) dX10_greatest_29.1 kX10 (shT_9 hX) ml_X10_29 cal_X10_push cv_X10_push (hRm ⟨Nat.le_of_ble_eq_true rfl, Nat.le_of_ble_eq_true rfl⟩) rfl (Nat.le_of_ble_eq_true rfl) (c_X10_push (xl X) (xG X) hX hM ⟨hS.1, trivial⟩ hq)) (Nat.le_of_ble_eq_true rfl) (Nat.le_of_ble_eq_true rfl) rfl rfl rfl (fun v10 M9 => ?_)
        refine i_goto (tgt := 36) C dX10_greatest_32 (by decide) ?_
        exact (hj5 v10 M9)
set_option maxRecDepth 100000 in
set_option maxHeartbeats 4000000 in
theorem c_X10_greatest (l : Launch) (G : Gx) {K : Kx} (hK : K = kP) {b : Nat} {x2 : Int} {x3 : Int} (hb : isC b) {M : Mem} {res : Int × Mem} (hM : OkM M) (ha : okS [aR 9, aR b, aI x2, aI x3]) (hF : pWater_greatest b x2 x3 M = some res) : Ct l G K yX10_greatest (wsM yX10_greatest cX10_greatest 7 (some .int)) rmX10_greatest [aR 9, aR b, aI x2, aI x3] M (some (aI res.1)) res.2 := by
  refine ct_of RX10 (by decide +kernel) rfl (hK ▸ kP_ok) hM ha (Nat.le_of_ble_eq_true rfl) hF ?_
  intro X C hl hG hX0 hN hR hq
  have hX : xK X = kP := hX0.trans hK
  show Im X 0 0 0 [(0, aR 9), (1, aR b), (2, aI x2), (3, aI x3)] [] M res (pWater_greatest b x2 x3 M)
  unfold pWater_greatest
  have hl4 : 4 < xn X := by rw [hN]; decide
  have hl5 : 5 < xn X := by rw [hN]; decide
  have hl6 : 6 < xn X := by rw [hN]; decide
  have hRm : ∀ {rm : Room} {ny : Nat}, RmOk rmX10_greatest rm ny → RmOk (xR X) rm ny := fun h => by rw [hR]; exact h
  refine i_aload_n C dX10_greatest_0 rfl (q := 0) rfl ?_
  refine i_aload_n C dX10_greatest_1 rfl (q := 1) rfl ?_
  refine i_iload_n C dX10_greatest_2 rfl (q := 2) rfl ?_
  refine i_iload_n C dX10_greatest_3 rfl (q := 3) rfl ?_
  refine i_cV (kc' := 0) (ks' := 0) 0 0 4 (fun q hq hM hS => crV C (as := [aR b, aI x2, aI x3]) dX10_greatest_4.1 kX10 (shT_9 hX) ml_X10_21 cal_X10_lay cv_X10_lay (hRm ⟨Nat.le_of_ble_eq_true rfl, Nat.le_of_ble_eq_true rfl⟩) rfl (Nat.le_of_ble_eq_true rfl) (c_X10_lay (xl X) (xG X) hX hb hM ⟨hS.2.2.2.1, hS.2.2.1, hS.2.1, hS.1, trivial⟩ hq)) (Nat.le_of_ble_eq_true rfl) (Nat.le_of_ble_eq_true rfl) rfl rfl rfl (fun M1 => ?_)
  refine i_iconst C dX10_greatest_7 kI_0 ?_
  refine i_istore C dX10_greatest_8 hl4 (L' := [(0, aR 9), (1, aR b), (2, aI x2), (3, aI x3), (4, aI 0)]) rfl ?_
  refine i_iconst C dX10_greatest_10 kI_0 ?_
  refine i_istore C dX10_greatest_11 hl5 (L' := [(0, aR 9), (1, aR b), (2, aI x2), (3, aI x3), (4, aI 0), (5, aI 0)]) rfl ?_
  exact i_sub [0, 4, 5] rfl (w_X10_greatest_13 C hX hN hR hb hq FU 0 0 M1)
set_option maxRecDepth 100000 in
set_option maxHeartbeats 4000000 in
theorem c_X11_isSide (l : Launch) (G : Gx) {K : Kx} (hK : K = kP) {x0 : Int} {M : Mem} {res : Int × Mem} (hM : OkM M) (ha : okS [aI x0]) (hF : pTop_isSide x0 M = some res) : Ct l G K yX11_isSide (wsM yX11_isSide cX11_isSide 1 (some .boolean)) rmX11_isSide [aI x0] M (some (aI res.1)) res.2 := by
  refine ct_of RX11 (by decide +kernel) rfl (hK ▸ kP_ok) hM ha (Nat.le_of_ble_eq_true rfl) hF ?_
  intro X C hl hG hX0 hN hR hq
  have hX : xK X = kP := hX0.trans hK
  show Im X 0 0 0 [(0, aI x0)] [] M res (pTop_isSide x0 M)
  unfold pTop_isSide
  refine i_iload_n C dX11_isSide_0 rfl (q := 0) rfl ?_
  refine i_if_eq (tgt := 9) C dX11_isSide_1 (by decide) ?_ ?_
  · refine i_iconst C dX11_isSide_9 kI_1 ?_
    refine i_goto (tgt := 14) C dX11_isSide_10 (by decide) ?_
    exact i_zret C hq dX11_isSide_14 (Or.inr rfl)
  · refine i_iload_n C dX11_isSide_4 rfl (q := 0) rfl ?_
    refine i_iconst C dX11_isSide_5 kI_1 ?_
    refine i_icmp_ne (tgt := 13) C dX11_isSide_6 (by decide) ?_ ?_
    · refine i_iconst C dX11_isSide_13 kI_0 ?_
      exact i_zret C hq dX11_isSide_14 (Or.inl rfl)
    · refine i_iconst C dX11_isSide_9 kI_1 ?_
      refine i_goto (tgt := 14) C dX11_isSide_10 (by decide) ?_
      exact i_zret C hq dX11_isSide_14 (Or.inr rfl)
set_option maxRecDepth 100000 in
set_option maxHeartbeats 4000000 in
theorem c_X11_cell (l : Launch) (G : Gx) {K : Kx} (hK : K = kP) {x1 : Int} {M : Mem} {res : Int × Mem} (hM : OkM M) (ha : okS [aR 0, aI x1]) (hF : pTop_cell x1 M = some res) : Ct l G K yX11_cell (wsM yX11_cell cX11_cell 2 (some .int)) rmX11_cell [aR 0, aI x1] M (some (aI res.1)) res.2 := by
  refine ct_of RX11 (by decide +kernel) rfl (hK ▸ kP_ok) hM ha (Nat.le_of_ble_eq_true rfl) hF ?_
  intro X C hl hG hX0 hN hR hq
  have hX : xK X = kP := hX0.trans hK
  show Im X 0 0 0 [(0, aR 0), (1, aI x1)] [] M res (pTop_cell x1 M)
  unfold pTop_cell
  have hRm : ∀ {rm : Room} {ny : Nat}, RmOk rmX11_cell rm ny → RmOk (xR X) rm ny := fun h => by rw [hR]; exact h
  refine i_iload_n C dX11_cell_0 rfl (q := 1) rfl ?_
  refine i_cI (kc' := 0) (ks' := 0) 0 0 1 (fun q hq hM hS => crS C (as := [aI x1]) dX11_cell_1.1 ml_X11_70 cal_X11_isSide st_X11_isSide (hRm ⟨Nat.le_of_ble_eq_true rfl, Nat.le_of_ble_eq_true rfl⟩) rfl (Nat.le_of_ble_eq_true rfl) (c_X11_isSide (xl X) (xG X) hX hM ⟨hS.1, trivial⟩ hq)) (Nat.le_of_ble_eq_true rfl) (Nat.le_of_ble_eq_true rfl) rfl rfl rfl (fun v2 M1 => ?_)
  refine i_if_ne (tgt := 10) C dX11_cell_4 (by decide) ?_ ?_
  · refine i_aload_n C dX11_cell_10 rfl (q := 0) rfl ?_
    refine i_getR C (k := 0) kX11 dX11_cell_11 (shT_0 hX) rfl (by decide) fl_X11_12 ?_
    refine i_getI C (k := 1) kX0 dX11_cell_14 (shP_0 hX isC_100) rfl (by decide) fl_X11_75 rfl ?_
    refine i_bipush C dX11_cell_17 kB_16 ?_
    refine i_icmp_ne (tgt := 25) C dX11_cell_19 (by decide) ?_ ?_
    · refine i_aload_n C dX11_cell_25 rfl (q := 0) rfl ?_
      refine i_getR C (k := 0) kX11 dX11_cell_26 (shT_0 hX) rfl (by decide) fl_X11_12 ?_
      refine i_iload_n C dX11_cell_29 rfl (q := 1) rfl ?_
      refine i_cI (kc' := 0) (ks' := 0) 0 0 2 (fun q hq hM hS => crV C (as := [aI x1]) dX11_cell_30.1 kX0 (shP_0 hX isC_100) ml_X11_79 cal_X0_addCell cv_X0_addCell (hRm ⟨Nat.le_of_ble_eq_true rfl, Nat.le_of_ble_eq_true rfl⟩) rfl (Nat.le_of_ble_eq_true rfl) (c_X0_addCell (xl X) (xG X) hX isC_100 hM ⟨hS.2.1, hS.1, trivial⟩ hq)) (Nat.le_of_ble_eq_true rfl) (Nat.le_of_ble_eq_true rfl) rfl rfl rfl (fun v4 M3 => ?_)
      exact i_iret C hq dX11_cell_33
    · refine i_ldc C dX11_cell_22 kc_X11_78 kI_m1000000003 ?_
      exact i_iret C hq dX11_cell_24
  · refine i_ldc C dX11_cell_7 kc_X11_74 kI_m1000000001 ?_
    exact i_iret C hq dX11_cell_9
set_option maxRecDepth 100000 in
set_option maxHeartbeats 4000000 in
theorem c_X11_exchange (l : Launch) (G : Gx) {K : Kx} (hK : K = kP) {f0 : Nat} {n0 : Nat} {x1 : Int} {x2 : Int} (hf0 : f0 ∈ K.1 ∧ K.2.2 f0 = .inl n0) {M : Mem} {res : Int × Mem} (hM : OkM M) (ha : okS [aR f0, aI x1, aI x2]) (hF : pTop_exchange f0 n0 x1 x2 M = some res) : Ct l G K yX11_exchange (wsM yX11_exchange cX11_exchange 4 (some .int)) rmX11_exchange [aR f0, aI x1, aI x2] M (some (aI res.1)) res.2 := by
  refine ct_of RX11 (by decide +kernel) rfl (hK ▸ kP_ok) hM ha (Nat.le_of_ble_eq_true rfl) hF ?_
  intro X C hl hG hX0 hN hR hq
  have hX : xK X = kP := hX0.trans hK
  have sf0 : Sh X f0 (.inl n0) := by unfold Sh; rw [hX0]; exact hf0
  show Im X 0 0 0 [(0, aR f0), (1, aI x1), (2, aI x2)] [] M res (pTop_exchange f0 n0 x1 x2 M)
  unfold pTop_exchange
  have hl3 : 3 < xn X := by rw [hN]; decide
  refine i_aload_n C dX11_exchange_0 rfl (q := 0) rfl ?_
  refine i_iload_n C dX11_exchange_1 rfl (q := 1) rfl ?_
  refine i_ald C dX11_exchange_2 sf0 (fun v1 => ?_)
  refine i_istore_n C dX11_exchange_3 rfl hl3 (L' := [(0, aR f0), (1, aI x1), (2, aI x2), (3, aI v1)]) rfl ?_
  refine i_aload_n C dX11_exchange_4 rfl (q := 0) rfl ?_
  refine i_iload_n C dX11_exchange_5 rfl (q := 1) rfl ?_
  refine i_iload_n C dX11_exchange_6 rfl (q := 2) rfl ?_
  refine i_ast C dX11_exchange_7 sf0 (fun M2 => ?_)
  refine i_iload_n C dX11_exchange_8 rfl (q := 3) rfl ?_
  exact i_iret C hq dX11_exchange_9
set_option maxRecDepth 100000 in
set_option maxHeartbeats 4000000 in
theorem c_X11_water (l : Launch) (G : Gx) {K : Kx} (hK : K = kP) {x1 : Int} {x2 : Int} {x3 : Int} {M : Mem} {res : Int × Mem} (hM : OkM M) (ha : okS [aR 0, aI x1, aI x2, aI x3]) (hF : pTop_water x1 x2 x3 M = some res) : Ct l G K yX11_water (wsM yX11_water cX11_water 4 (some .int)) rmX11_water [aR 0, aI x1, aI x2, aI x3] M (some (aI res.1)) res.2 := by
  refine ct_of RX11 (by decide +kernel) rfl (hK ▸ kP_ok) hM ha (Nat.le_of_ble_eq_true rfl) hF ?_
  intro X C hl hG hX0 hN hR hq
  have hX : xK X = kP := hX0.trans hK
  show Im X 0 0 0 [(0, aR 0), (1, aI x1), (2, aI x2), (3, aI x3)] [] M res (pTop_water x1 x2 x3 M)
  unfold pTop_water
  have hRm : ∀ {rm : Room} {ny : Nat}, RmOk rmX11_water rm ny → RmOk (xR X) rm ny := fun h => by rw [hR]; exact h
  refine i_aload_n C dX11_water_0 rfl (q := 0) rfl ?_
  refine i_getR C (k := 0) kX11 dX11_water_1 (shT_0 hX) rfl (by decide) fl_X11_12 ?_
  refine i_iload_n C dX11_water_4 rfl (q := 1) rfl ?_
  refine i_cI (kc' := 0) (ks' := 0) 0 0 2 (fun q hq hM hS => crV C (as := [aI x1]) dX11_water_5.1 kX0 (shP_0 hX isC_100) ml_X11_83 cal_X0_hasCell cv_X0_hasCell (hRm ⟨Nat.le_of_ble_eq_true rfl, Nat.le_of_ble_eq_true rfl⟩) rfl (Nat.le_of_ble_eq_true rfl) (c_X0_hasCell (xl X) (xG X) hX isC_100 hM ⟨hS.2.1, hS.1, trivial⟩ hq)) (Nat.le_of_ble_eq_true rfl) (Nat.le_of_ble_eq_true rfl) rfl rfl rfl (fun v2 M1 => ?_)
  refine i_if_eq (tgt := 20) C dX11_water_8 (by decide) ?_ ?_
  · refine i_ldc C dX11_water_20 kc_X11_74 kI_m1000000001 ?_
    exact i_iret C hq dX11_water_22
  · refine i_iload_n C dX11_water_11 rfl (q := 2) rfl ?_
    refine i_iconst C dX11_water_12 kI_0 ?_
    refine i_iconst C dX11_water_13 kI_1 ?_
    refine i_cI (kc' := 0) (ks' := 0) 0 0 3 (fun q hq hM hS => crS C (as := [aI x2, aI 0, aI 1]) dX11_water_14.1 ml_X11_86 cal_X11_within st_X11_within (hRm ⟨Nat.le_of_ble_eq_true rfl, Nat.le_of_ble_eq_true rfl⟩) rfl (Nat.le_of_ble_eq_true rfl) (c_X11_within (xl X) (xG X) hX hM ⟨hS.2.2.1, hS.2.1, hS.1, trivial⟩ hq)) (Nat.le_of_ble_eq_true rfl) (Nat.le_of_ble_eq_true rfl) rfl rfl rfl (fun v4 M3 => ?_)
    refine i_if_ne (tgt := 23) C dX11_water_17 (by decide) ?_ ?_
    · refine i_iload_n C dX11_water_23 rfl (q := 3) rfl ?_
      refine i_iconst C dX11_water_24 kI_0 ?_
      refine i_iload_n C dX11_water_25 rfl (q := 2) rfl ?_
      refine i_jn (fun j => ∀ (p5 : Int) (M7 : Mem), Im X 0 0 38 [(0, aR 0), (1, aI x1), (2, aI x2), (3, aI x3)] [aI p5, aI 0, aI x3] M7 res (j p5 M7)) ?_ (fun j6 hj6 => ?_)
      · intro p5 M7
        refine i_cI (kc' := 0) (ks' := 0) 0 0 3 (fun q hq hM hS => crS C (as := [aI x3, aI 0, aI p5]) dX11_water_38.1 ml_X11_86 cal_X11_within st_X11_within (hRm ⟨Nat.le_of_ble_eq_true rfl, Nat.le_of_ble_eq_true rfl⟩) rfl (Nat.le_of_ble_eq_true rfl) (c_X11_within (xl X) (xG X) hX hM ⟨hS.2.2.1, hS.2.1, hS.1, trivial⟩ hq)) (Nat.le_of_ble_eq_true rfl) (Nat.le_of_ble_eq_true rfl) rfl rfl rfl (fun v9 M8 => ?_)
        refine i_if_ne (tgt := 47) C dX11_water_41 (by decide) ?_ ?_
        · refine i_iload_n C dX11_water_47 rfl (q := 2) rfl ?_
          refine i_if_ne (tgt := 61) C dX11_water_48 (by decide) ?_ ?_
          · refine i_aload_n C dX11_water_61 rfl (q := 0) rfl ?_
            refine i_getR C (k := 0) kX11 dX11_water_62 (shT_0 hX) rfl (by decide) fl_X11_12 ?_
            refine i_getR C (k := 4) kX0 dX11_water_65 (shP_0 hX isC_100) rfl (by decide) fl_X11_93 ?_
            refine i_iload_n C dX11_water_68 rfl (q := 1) rfl ?_
            refine i_iload_n C dX11_water_69 rfl (q := 3) rfl ?_
            refine i_cI (kc' := 0) (ks' := 0) 0 0 3 (fun q hq hM hS => crS C (as := [aR (100 + 3), aI x1, aI x3]) dX11_water_70.1 ml_X11_96 cal_X11_exchange st_X11_exchange (hRm ⟨Nat.le_of_ble_eq_true rfl, Nat.le_of_ble_eq_true rfl⟩) rfl (Nat.le_of_ble_eq_true rfl) (c_X11_exchange (xl X) (xG X) hX (shP_3 hX isC_100) hM ⟨hS.2.2.1, hS.2.1, hS.1, trivial⟩ hq)) (Nat.le_of_ble_eq_true rfl) (Nat.le_of_ble_eq_true rfl) rfl rfl rfl (fun v11 M10 => ?_)
            exact i_iret C hq dX11_water_73
          · refine i_aload_n C dX11_water_51 rfl (q := 0) rfl ?_
            refine i_getR C (k := 0) kX11 dX11_water_52 (shT_0 hX) rfl (by decide) fl_X11_12 ?_
            refine i_getR C (k := 3) kX0 dX11_water_55 (shP_0 hX isC_100) rfl (by decide) fl_X11_90 ?_
            refine i_goto (tgt := 68) C dX11_water_58 (by decide) ?_
            refine i_iload_n C dX11_water_68 rfl (q := 1) rfl ?_
            refine i_iload_n C dX11_water_69 rfl (q := 3) rfl ?_
            refine i_cI (kc' := 0) (ks' := 0) 0 0 3 (fun q hq hM hS => crS C (as := [aR (100 + 2), aI x1, aI x3]) dX11_water_70.1 ml_X11_96 cal_X11_exchange st_X11_exchange (hRm ⟨Nat.le_of_ble_eq_true rfl, Nat.le_of_ble_eq_true rfl⟩) rfl (Nat.le_of_ble_eq_true rfl) (c_X11_exchange (xl X) (xG X) hX (shP_2 hX isC_100) hM ⟨hS.2.2.1, hS.2.1, hS.1, trivial⟩ hq)) (Nat.le_of_ble_eq_true rfl) (Nat.le_of_ble_eq_true rfl) rfl rfl rfl (fun v13 M12 => ?_)
            exact i_iret C hq dX11_water_73
        · refine i_ldc C dX11_water_44 kc_X11_74 kI_m1000000001 ?_
          exact i_iret C hq dX11_water_46
      refine i_if_ne (tgt := 35) C dX11_water_26 (by decide) ?_ ?_
      · refine i_sipush C dX11_water_35 kS_9999 ?_
        exact (hj6 9999 M3)
      · refine i_sipush C dX11_water_29 kS_999 ?_
        refine i_goto (tgt := 38) C dX11_water_32 (by decide) ?_
        exact (hj6 999 M3)
    · refine i_ldc C dX11_water_20 kc_X11_74 kI_m1000000001 ?_
      exact i_iret C hq dX11_water_22
set_option maxRecDepth 100000 in
set_option maxHeartbeats 4000000 in
theorem c_X11_person (l : Launch) (G : Gx) {K : Kx} (hK : K = kP) {x1 : Int} {x2 : Int} {x3 : Int} {M : Mem} {res : Int × Mem} (hM : OkM M) (ha : okS [aR 0, aI x1, aI x2, aI x3]) (hF : pTop_person x1 x2 x3 M = some res) : Ct l G K yX11_person (wsM yX11_person cX11_person 4 (some .int)) rmX11_person [aR 0, aI x1, aI x2, aI x3] M (some (aI res.1)) res.2 := by
  refine ct_of RX11 (by decide +kernel) rfl (hK ▸ kP_ok) hM ha (Nat.le_of_ble_eq_true rfl) hF ?_
  intro X C hl hG hX0 hN hR hq
  have hX : xK X = kP := hX0.trans hK
  show Im X 0 0 0 [(0, aR 0), (1, aI x1), (2, aI x2), (3, aI x3)] [] M res (pTop_person x1 x2 x3 M)
  unfold pTop_person
  have hRm : ∀ {rm : Room} {ny : Nat}, RmOk rmX11_person rm ny → RmOk (xR X) rm ny := fun h => by rw [hR]; exact h
  refine i_aload_n C dX11_person_0 rfl (q := 0) rfl ?_
  refine i_getR C (k := 0) kX11 dX11_person_1 (shT_0 hX) rfl (by decide) fl_X11_12 ?_
  refine i_iload_n C dX11_person_4 rfl (q := 1) rfl ?_
  refine i_cI (kc' := 0) (ks' := 0) 0 0 2 (fun q hq hM hS => crV C (as := [aI x1]) dX11_person_5.1 kX0 (shP_0 hX isC_100) ml_X11_83 cal_X0_hasCell cv_X0_hasCell (hRm ⟨Nat.le_of_ble_eq_true rfl, Nat.le_of_ble_eq_true rfl⟩) rfl (Nat.le_of_ble_eq_true rfl) (c_X0_hasCell (xl X) (xG X) hX isC_100 hM ⟨hS.2.1, hS.1, trivial⟩ hq)) (Nat.le_of_ble_eq_true rfl) (Nat.le_of_ble_eq_true rfl) rfl rfl rfl (fun v2 M1 => ?_)
  refine i_if_eq (tgt := 30) C dX11_person_8 (by decide) ?_ ?_
  · refine i_ldc C dX11_person_30 kc_X11_74 kI_m1000000001 ?_
    exact i_iret C hq dX11_person_32
  · refine i_iload_n C dX11_person_11 rfl (q := 2) rfl ?_
    refine i_iconst C dX11_person_12 kI_0 ?_
    refine i_bipush C dX11_person_13 kB_99 ?_
    refine i_cI (kc' := 0) (ks' := 0) 0 0 3 (fun q hq hM hS => crS C (as := [aI x2, aI 0, aI 99]) dX11_person_15.1 ml_X11_86 cal_X11_within st_X11_within (hRm ⟨Nat.le_of_ble_eq_true rfl, Nat.le_of_ble_eq_true rfl⟩) rfl (Nat.le_of_ble_eq_true rfl) (c_X11_within (xl X) (xG X) hX hM ⟨hS.2.2.1, hS.2.1, hS.1, trivial⟩ hq)) (Nat.le_of_ble_eq_true rfl) (Nat.le_of_ble_eq_true rfl) rfl rfl rfl (fun v4 M3 => ?_)
    refine i_if_eq (tgt := 30) C dX11_person_18 (by decide) ?_ ?_
    · refine i_ldc C dX11_person_30 kc_X11_74 kI_m1000000001 ?_
      exact i_iret C hq dX11_person_32
    · refine i_iload_n C dX11_person_21 rfl (q := 3) rfl ?_
      refine i_iconst C dX11_person_22 kI_0 ?_
      refine i_iconst C dX11_person_23 kI_3 ?_
      refine i_cI (kc' := 0) (ks' := 0) 0 0 3 (fun q hq hM hS => crS C (as := [aI x3, aI 0, aI 3]) dX11_person_24.1 ml_X11_86 cal_X11_within st_X11_within (hRm ⟨Nat.le_of_ble_eq_true rfl, Nat.le_of_ble_eq_true rfl⟩) rfl (Nat.le_of_ble_eq_true rfl) (c_X11_within (xl X) (xG X) hX hM ⟨hS.2.2.1, hS.2.1, hS.1, trivial⟩ hq)) (Nat.le_of_ble_eq_true rfl) (Nat.le_of_ble_eq_true rfl) rfl rfl rfl (fun v6 M5 => ?_)
      refine i_if_ne (tgt := 33) C dX11_person_27 (by decide) ?_ ?_
      · refine i_aload_n C dX11_person_33 rfl (q := 0) rfl ?_
        refine i_getR C (k := 0) kX11 dX11_person_34 (shT_0 hX) rfl (by decide) fl_X11_12 ?_
        refine i_getR C (k := 7) kX0 dX11_person_37 (shP_0 hX isC_100) rfl (by decide) fl_X11_100 ?_
        refine i_getI C (k := 0) kX6 dX11_person_40 (shP_6 hX isC_100) rfl (by decide) fl_X11_104 rfl ?_
        refine i_bipush C dX11_person_43 kB_20 ?_
        refine i_icmp_ne (tgt := 51) C dX11_person_45 (by decide) ?_ ?_
        · refine i_aload_n C dX11_person_51 rfl (q := 0) rfl ?_
          refine i_getR C (k := 0) kX11 dX11_person_52 (shT_0 hX) rfl (by decide) fl_X11_12 ?_
          refine i_getR C (k := 7) kX0 dX11_person_55 (shP_0 hX isC_100) rfl (by decide) fl_X11_100 ?_
          refine i_iload_n C dX11_person_58 rfl (q := 1) rfl ?_
          refine i_iload_n C dX11_person_59 rfl (q := 2) rfl ?_
          refine i_iload_n C dX11_person_60 rfl (q := 3) rfl ?_
          refine i_cI (kc' := 0) (ks' := 0) 0 0 4 (fun q hq hM hS => crV C (as := [aI x1, aI x2, aI x3]) dX11_person_61.1 kX6 (shP_6 hX isC_100) ml_X11_109 cal_X6_addPerson cv_X6_addPerson (hRm ⟨Nat.le_of_ble_eq_true rfl, Nat.le_of_ble_eq_true rfl⟩) rfl (Nat.le_of_ble_eq_true rfl) (c_X6_addPerson (xl X) (xG X) hX isC_100 hM ⟨hS.2.2.2.1, hS.2.2.1, hS.2.1, hS.1, trivial⟩ hq)) (Nat.le_of_ble_eq_true rfl) (Nat.le_of_ble_eq_true rfl) rfl rfl rfl (fun v8 M7 => ?_)
          exact i_iret C hq dX11_person_64
        · refine i_ldc C dX11_person_48 kc_X11_78 kI_m1000000003 ?_
          exact i_iret C hq dX11_person_50
      · refine i_ldc C dX11_person_30 kc_X11_74 kI_m1000000001 ?_
        exact i_iret C hq dX11_person_32
set_option maxRecDepth 100000 in
set_option maxHeartbeats 4000000 in
theorem c_X11_is (l : Launch) (G : Gx) {K : Kx} (hK : K = kP) {x1 : Int} {x2 : Int} {M : Mem} {res : Int × Mem} (hM : OkM M) (ha : okS [aR 0, aI x1, aI x2]) (hF : pTop_is x1 x2 M = some res) : Ct l G K yX11_is (wsM yX11_is cX11_is 4 (some .int)) rmX11_is [aR 0, aI x1, aI x2] M (some (aI res.1)) res.2 := by
  refine ct_of RX11 (by decide +kernel) rfl (hK ▸ kP_ok) hM ha (Nat.le_of_ble_eq_true rfl) hF ?_
  intro X C hl hG hX0 hN hR hq
  have hX : xK X = kP := hX0.trans hK
  show Im X 0 0 0 [(0, aR 0), (1, aI x1), (2, aI x2)] [] M res (pTop_is x1 x2 M)
  unfold pTop_is
  have hl3 : 3 < xn X := by rw [hN]; decide
  have hRm : ∀ {rm : Room} {ny : Nat}, RmOk rmX11_is rm ny → RmOk (xR X) rm ny := fun h => by rw [hR]; exact h
  refine i_aload_n C dX11_is_0 rfl (q := 0) rfl ?_
  refine i_getR C (k := 0) kX11 dX11_is_1 (shT_0 hX) rfl (by decide) fl_X11_12 ?_
  refine i_getR C (k := 7) kX0 dX11_is_4 (shP_0 hX isC_100) rfl (by decide) fl_X11_100 ?_
  refine i_astore_n C dX11_is_7 rfl hl3 (L' := [(0, aR 0), (1, aI x1), (2, aI x2), (3, aR (100 + 6))]) rfl ?_
  refine i_aload_n C dX11_is_8 rfl (q := 3) rfl ?_
  refine i_iload_n C dX11_is_9 rfl (q := 1) rfl ?_
  refine i_cI (kc' := 0) (ks' := 0) 0 0 2 (fun q hq hM hS => crV C (as := [aI x1]) dX11_is_10.1 kX6 (shP_6 hX isC_100) ml_X11_113 cal_X6_has cv_X6_has (hRm ⟨Nat.le_of_ble_eq_true rfl, Nat.le_of_ble_eq_true rfl⟩) rfl (Nat.le_of_ble_eq_true rfl) (c_X6_has (xl X) (xG X) hX isC_100 hM ⟨hS.2.1, hS.1, trivial⟩ hq)) (Nat.le_of_ble_eq_true rfl) (Nat.le_of_ble_eq_true rfl) rfl rfl rfl (fun v2 M1 => ?_)
  refine i_if_ne (tgt := 19) C dX11_is_13 (by decide) ?_ ?_
  · refine i_iload_n C dX11_is_19 rfl (q := 2) rfl ?_
    refine i_split (fun e4 => ?_) (fun e4 => ?_)
    · refine i_tswIn (tgt := 68) C dX11_is_20 e4 (by decide) (by decide) rfl (by decide) ?_
      refine i_aload_n C dX11_is_68 rfl (q := 3) rfl ?_
      refine i_getR C (k := 1) kX6 dX11_is_69 (shP_6 hX isC_100) rfl (by decide) fl_X11_116 ?_
      refine i_iload_n C dX11_is_72 rfl (q := 1) rfl ?_
      refine i_ald C dX11_is_73 (shP_7 hX isC_100) (fun v3 => ?_)
      exact i_iret C hq dX11_is_74
    refine i_split (fun e6 => ?_) (fun e6 => ?_)
    · refine i_tswIn (tgt := 75) C dX11_is_20 e6 (by decide) (by decide) rfl (by decide) ?_
      refine i_aload_n C dX11_is_75 rfl (q := 3) rfl ?_
      refine i_getR C (k := 2) kX6 dX11_is_76 (shP_6 hX isC_100) rfl (by decide) fl_X11_119 ?_
      refine i_iload_n C dX11_is_79 rfl (q := 1) rfl ?_
      refine i_ald C dX11_is_80 (shP_8 hX isC_100) (fun v5 => ?_)
      exact i_iret C hq dX11_is_81
    refine i_split (fun e8 => ?_) (fun e8 => ?_)
    · refine i_tswIn (tgt := 82) C dX11_is_20 e8 (by decide) (by decide) rfl (by decide) ?_
      refine i_aload_n C dX11_is_82 rfl (q := 3) rfl ?_
      refine i_getR C (k := 3) kX6 dX11_is_83 (shP_6 hX isC_100) rfl (by decide) fl_X11_122 ?_
      refine i_iload_n C dX11_is_86 rfl (q := 1) rfl ?_
      refine i_ald C dX11_is_87 (shP_9 hX isC_100) (fun v7 => ?_)
      exact i_iret C hq dX11_is_88
    refine i_split (fun e10 => ?_) (fun e10 => ?_)
    · refine i_tswIn (tgt := 89) C dX11_is_20 e10 (by decide) (by decide) rfl (by decide) ?_
      refine i_aload_n C dX11_is_89 rfl (q := 3) rfl ?_
      refine i_getR C (k := 4) kX6 dX11_is_90 (shP_6 hX isC_100) rfl (by decide) fl_X11_125 ?_
      refine i_iload_n C dX11_is_93 rfl (q := 1) rfl ?_
      refine i_ald C dX11_is_94 (shP_10 hX isC_100) (fun v9 => ?_)
      exact i_iret C hq dX11_is_95
    refine i_split (fun e12 => ?_) (fun e12 => ?_)
    · refine i_tswIn (tgt := 96) C dX11_is_20 e12 (by decide) (by decide) rfl (by decide) ?_
      refine i_aload_n C dX11_is_96 rfl (q := 3) rfl ?_
      refine i_getR C (k := 5) kX6 dX11_is_97 (shP_6 hX isC_100) rfl (by decide) fl_X11_128 ?_
      refine i_iload_n C dX11_is_100 rfl (q := 1) rfl ?_
      refine i_ald C dX11_is_101 (shP_11 hX isC_100) (fun v11 => ?_)
      exact i_iret C hq dX11_is_102
    refine i_split (fun e13 => ?_) (fun e13 => ?_)
    · refine i_tswIn (tgt := 103) C dX11_is_20 e13 (by decide) (by decide) rfl (by decide) ?_
      refine i_aload_n C dX11_is_103 rfl (q := 3) rfl ?_
      refine i_getI C (k := 9) kX6 dX11_is_104 (shP_6 hX isC_100) rfl (by decide) fl_X11_131 rfl ?_
      refine i_iload_n C dX11_is_107 rfl (q := 1) rfl ?_
      refine i_ishr C dX11_is_108 ?_
      refine i_iconst C dX11_is_109 kI_1 ?_
      refine i_iand C dX11_is_110 ?_
      exact i_iret C hq dX11_is_111
    refine i_split (fun e15 => ?_) (fun e15 => ?_)
    · refine i_tswIn (tgt := 112) C dX11_is_20 e15 (by decide) (by decide) rfl (by decide) ?_
      refine i_aload_n C dX11_is_112 rfl (q := 3) rfl ?_
      refine i_getR C (k := 10) kX6 dX11_is_113 (shP_6 hX isC_100) rfl (by decide) fl_X11_134 ?_
      refine i_iconst C dX11_is_116 kI_0 ?_
      refine i_ald C dX11_is_117 (shP_14 hX isC_100) (fun v14 => ?_)
      refine i_iload_n C dX11_is_118 rfl (q := 1) rfl ?_
      refine i_ishr C dX11_is_119 ?_
      refine i_iconst C dX11_is_120 kI_1 ?_
      refine i_iand C dX11_is_121 ?_
      exact i_iret C hq dX11_is_122
    refine i_split (fun e17 => ?_) (fun e17 => ?_)
    · refine i_tswIn (tgt := 123) C dX11_is_20 e17 (by decide) (by decide) rfl (by decide) ?_
      refine i_aload_n C dX11_is_123 rfl (q := 3) rfl ?_
      refine i_getR C (k := 10) kX6 dX11_is_124 (shP_6 hX isC_100) rfl (by decide) fl_X11_134 ?_
      refine i_iconst C dX11_is_127 kI_1 ?_
      refine i_ald C dX11_is_128 (shP_14 hX isC_100) (fun v16 => ?_)
      refine i_iload_n C dX11_is_129 rfl (q := 1) rfl ?_
      refine i_ishr C dX11_is_130 ?_
      refine i_iconst C dX11_is_131 kI_1 ?_
      refine i_iand C dX11_is_132 ?_
      exact i_iret C hq dX11_is_133
    refine i_tswOut (tgt := 134) C dX11_is_20 (by omega) (by decide) ?_
    refine i_ldc C dX11_is_134 kc_X11_74 kI_m1000000001 ?_
    exact i_iret C hq dX11_is_136
  · refine i_ldc C dX11_is_16 kc_X11_74 kI_m1000000001 ?_
    exact i_iret C hq dX11_is_18
set_option maxRecDepth 100000 in
set_option maxHeartbeats 4000000 in
theorem c_X11_be (l : Launch) (G : Gx) {K : Kx} (hK : K = kP) {x1 : Int} {x2 : Int} {x3 : Int} {M : Mem} {res : Int × Mem} (hM : OkM M) (ha : okS [aR 0, aI x1, aI x2, aI x3]) (hF : pTop_be x1 x2 x3 M = some res) : Ct l G K yX11_be (wsM yX11_be cX11_be 4 (some .int)) rmX11_be [aR 0, aI x1, aI x2, aI x3] M (some (aI res.1)) res.2 := by
  refine ct_of RX11 (by decide +kernel) rfl (hK ▸ kP_ok) hM ha (Nat.le_of_ble_eq_true rfl) hF ?_
  intro X C hl hG hX0 hN hR hq
  have hX : xK X = kP := hX0.trans hK
  show Im X 0 0 0 [(0, aR 0), (1, aI x1), (2, aI x2), (3, aI x3)] [] M res (pTop_be x1 x2 x3 M)
  unfold pTop_be
  have hRm : ∀ {rm : Room} {ny : Nat}, RmOk rmX11_be rm ny → RmOk (xR X) rm ny := fun h => by rw [hR]; exact h
  refine i_aload_n C dX11_be_0 rfl (q := 0) rfl ?_
  refine i_getR C (k := 0) kX11 dX11_be_1 (shT_0 hX) rfl (by decide) fl_X11_12 ?_
  refine i_getR C (k := 7) kX0 dX11_be_4 (shP_0 hX isC_100) rfl (by decide) fl_X11_100 ?_
  refine i_iload_n C dX11_be_7 rfl (q := 1) rfl ?_
  refine i_cI (kc' := 0) (ks' := 0) 0 0 2 (fun q hq hM hS => crV C (as := [aI x1]) dX11_be_8.1 kX6 (shP_6 hX isC_100) ml_X11_113 cal_X6_has cv_X6_has (hRm ⟨Nat.le_of_ble_eq_true rfl, Nat.le_of_ble_eq_true rfl⟩) rfl (Nat.le_of_ble_eq_true rfl) (c_X6_has (xl X) (xG X) hX isC_100 hM ⟨hS.2.1, hS.1, trivial⟩ hq)) (Nat.le_of_ble_eq_true rfl) (Nat.le_of_ble_eq_true rfl) rfl rfl rfl (fun v2 M1 => ?_)
  refine i_if_eq (tgt := 23) C dX11_be_11 (by decide) ?_ ?_
  · refine i_ldc C dX11_be_23 kc_X11_74 kI_m1000000001 ?_
    exact i_iret C hq dX11_be_25
  · refine i_iload_n C dX11_be_14 rfl (q := 2) rfl ?_
    refine i_iconst C dX11_be_15 kI_1 ?_
    refine i_iconst C dX11_be_16 kI_2 ?_
    refine i_cI (kc' := 0) (ks' := 0) 0 0 3 (fun q hq hM hS => crS C (as := [aI x2, aI 1, aI 2]) dX11_be_17.1 ml_X11_86 cal_X11_within st_X11_within (hRm ⟨Nat.le_of_ble_eq_true rfl, Nat.le_of_ble_eq_true rfl⟩) rfl (Nat.le_of_ble_eq_true rfl) (c_X11_within (xl X) (xG X) hX hM ⟨hS.2.2.1, hS.2.1, hS.1, trivial⟩ hq)) (Nat.le_of_ble_eq_true rfl) (Nat.le_of_ble_eq_true rfl) rfl rfl rfl (fun v4 M3 => ?_)
    refine i_if_ne (tgt := 26) C dX11_be_20 (by decide) ?_ ?_
    · refine i_iload_n C dX11_be_26 rfl (q := 3) rfl ?_
      refine i_iconst C dX11_be_27 kI_0 ?_
      refine i_iload_n C dX11_be_28 rfl (q := 2) rfl ?_
      refine i_iconst C dX11_be_29 kI_1 ?_
      refine i_jn (fun j => ∀ (p5 : Int) (M7 : Mem), Im X 0 0 39 [(0, aR 0), (1, aI x1), (2, aI x2), (3, aI x3)] [aI p5, aI 0, aI x3] M7 res (j p5 M7)) ?_ (fun j6 hj6 => ?_)
      · intro p5 M7
        refine i_cI (kc' := 0) (ks' := 0) 0 0 3 (fun q hq hM hS => crS C (as := [aI x3, aI 0, aI p5]) dX11_be_39.1 ml_X11_86 cal_X11_within st_X11_within (hRm ⟨Nat.le_of_ble_eq_true rfl, Nat.le_of_ble_eq_true rfl⟩) rfl (Nat.le_of_ble_eq_true rfl) (c_X11_within (xl X) (xG X) hX hM ⟨hS.2.2.1, hS.2.1, hS.1, trivial⟩ hq)) (Nat.le_of_ble_eq_true rfl) (Nat.le_of_ble_eq_true rfl) rfl rfl rfl (fun v9 M8 => ?_)
        refine i_if_ne (tgt := 48) C dX11_be_42 (by decide) ?_ ?_
        · refine i_iload_n C dX11_be_48 rfl (q := 2) rfl ?_
          refine i_iconst C dX11_be_49 kI_1 ?_
          refine i_icmp_ne (tgt := 66) C dX11_be_50 (by decide) ?_ ?_
          · refine i_aload_n C dX11_be_66 rfl (q := 0) rfl ?_
            refine i_getR C (k := 0) kX11 dX11_be_67 (shT_0 hX) rfl (by decide) fl_X11_12 ?_
            refine i_getR C (k := 7) kX0 dX11_be_70 (shP_0 hX isC_100) rfl (by decide) fl_X11_100 ?_
            refine i_getR C (k := 3) kX6 dX11_be_73 (shP_6 hX isC_100) rfl (by decide) fl_X11_122 ?_
            refine i_iload_n C dX11_be_76 rfl (q := 1) rfl ?_
            refine i_iload_n C dX11_be_77 rfl (q := 3) rfl ?_
            refine i_cI (kc' := 0) (ks' := 0) 0 0 3 (fun q hq hM hS => crS C (as := [aR (100 + 9), aI x1, aI x3]) dX11_be_78.1 ml_X11_96 cal_X11_exchange st_X11_exchange (hRm ⟨Nat.le_of_ble_eq_true rfl, Nat.le_of_ble_eq_true rfl⟩) rfl (Nat.le_of_ble_eq_true rfl) (c_X11_exchange (xl X) (xG X) hX (shP_9 hX isC_100) hM ⟨hS.2.2.1, hS.2.1, hS.1, trivial⟩ hq)) (Nat.le_of_ble_eq_true rfl) (Nat.le_of_ble_eq_true rfl) rfl rfl rfl (fun v11 M10 => ?_)
            exact i_iret C hq dX11_be_81
          · refine i_aload_n C dX11_be_53 rfl (q := 0) rfl ?_
            refine i_getR C (k := 0) kX11 dX11_be_54 (shT_0 hX) rfl (by decide) fl_X11_12 ?_
            refine i_getR C (k := 7) kX0 dX11_be_57 (shP_0 hX isC_100) rfl (by decide) fl_X11_100 ?_
            refine i_getR C (k := 2) kX6 dX11_be_60 (shP_6 hX isC_100) rfl (by decide) fl_X11_119 ?_
            refine i_goto (tgt := 76) C dX11_be_63 (by decide) ?_
            refine i_iload_n C dX11_be_76 rfl (q := 1) rfl ?_
            refine i_iload_n C dX11_be_77 rfl (q := 3) rfl ?_
            refine i_cI (kc' := 0) (ks' := 0) 0 0 3 (fun q hq hM hS => crS C (as := [aR (100 + 8), aI x1, aI x3]) dX11_be_78.1 ml_X11_96 cal_X11_exchange st_X11_exchange (hRm ⟨Nat.le_of_ble_eq_true rfl, Nat.le_of_ble_eq_true rfl⟩) rfl (Nat.le_of_ble_eq_true rfl) (c_X11_exchange (xl X) (xG X) hX (shP_8 hX isC_100) hM ⟨hS.2.2.1, hS.2.1, hS.1, trivial⟩ hq)) (Nat.le_of_ble_eq_true rfl) (Nat.le_of_ble_eq_true rfl) rfl rfl rfl (fun v13 M12 => ?_)
            exact i_iret C hq dX11_be_81
        · refine i_ldc C dX11_be_45 kc_X11_74 kI_m1000000001 ?_
          exact i_iret C hq dX11_be_47
      refine i_icmp_ne (tgt := 38) C dX11_be_30 (by decide) ?_ ?_
      · refine i_iconst C dX11_be_38 kI_3 ?_
        exact (hj6 3 M3)
      · refine i_bipush C dX11_be_33 kB_99 ?_
        refine i_goto (tgt := 39) C dX11_be_35 (by decide) ?_
        exact (hj6 99 M3)
    · refine i_ldc C dX11_be_23 kc_X11_74 kI_m1000000001 ?_
      exact i_iret C hq dX11_be_25
set_option maxRecDepth 100000 in
set_option maxHeartbeats 4000000 in
theorem c_X11_die (l : Launch) (G : Gx) {K : Kx} (hK : K = kP) {x1 : Int} {M : Mem} {res : Int × Mem} (hM : OkM M) (ha : okS [aR 0, aI x1]) (hF : pTop_die x1 M = some res) : Ct l G K yX11_die (wsM yX11_die cX11_die 2 (some .int)) rmX11_die [aR 0, aI x1] M (some (aI res.1)) res.2 := by
  refine ct_of RX11 (by decide +kernel) rfl (hK ▸ kP_ok) hM ha (Nat.le_of_ble_eq_true rfl) hF ?_
  intro X C hl hG hX0 hN hR hq
  have hX : xK X = kP := hX0.trans hK
  show Im X 0 0 0 [(0, aR 0), (1, aI x1)] [] M res (pTop_die x1 M)
  unfold pTop_die
  have hRm : ∀ {rm : Room} {ny : Nat}, RmOk rmX11_die rm ny → RmOk (xR X) rm ny := fun h => by rw [hR]; exact h
  refine i_aload_n C dX11_die_0 rfl (q := 0) rfl ?_
  refine i_getR C (k := 0) kX11 dX11_die_1 (shT_0 hX) rfl (by decide) fl_X11_12 ?_
  refine i_getR C (k := 7) kX0 dX11_die_4 (shP_0 hX isC_100) rfl (by decide) fl_X11_100 ?_
  refine i_iload_n C dX11_die_7 rfl (q := 1) rfl ?_
  refine i_cI (kc' := 0) (ks' := 0) 0 0 2 (fun q hq hM hS => crV C (as := [aI x1]) dX11_die_8.1 kX6 (shP_6 hX isC_100) ml_X11_113 cal_X6_has cv_X6_has (hRm ⟨Nat.le_of_ble_eq_true rfl, Nat.le_of_ble_eq_true rfl⟩) rfl (Nat.le_of_ble_eq_true rfl) (c_X6_has (xl X) (xG X) hX isC_100 hM ⟨hS.2.1, hS.1, trivial⟩ hq)) (Nat.le_of_ble_eq_true rfl) (Nat.le_of_ble_eq_true rfl) rfl rfl rfl (fun v2 M1 => ?_)
  refine i_if_ne (tgt := 17) C dX11_die_11 (by decide) ?_ ?_
  · refine i_aload_n C dX11_die_17 rfl (q := 0) rfl ?_
    refine i_getR C (k := 0) kX11 dX11_die_18 (shT_0 hX) rfl (by decide) fl_X11_12 ?_
    refine i_getR C (k := 7) kX0 dX11_die_21 (shP_0 hX isC_100) rfl (by decide) fl_X11_100 ?_
    refine i_iload_n C dX11_die_24 rfl (q := 1) rfl ?_
    refine i_cI (kc' := 0) (ks' := 0) 0 0 2 (fun q hq hM hS => crV C (as := [aI x1]) dX11_die_25.1 kX6 (shP_6 hX isC_100) ml_X11_137 cal_X6_isDead cv_X6_isDead (hRm ⟨Nat.le_of_ble_eq_true rfl, Nat.le_of_ble_eq_true rfl⟩) rfl (Nat.le_of_ble_eq_true rfl) (c_X6_isDead (xl X) (xG X) hX isC_100 hM ⟨hS.2.1, hS.1, trivial⟩ hq)) (Nat.le_of_ble_eq_true rfl) (Nat.le_of_ble_eq_true rfl) rfl rfl rfl (fun v4 M3 => ?_)
    refine i_if_eq (tgt := 34) C dX11_die_28 (by decide) ?_ ?_
    · refine i_aload_n C dX11_die_34 rfl (q := 0) rfl ?_
      refine i_getR C (k := 0) kX11 dX11_die_35 (shT_0 hX) rfl (by decide) fl_X11_12 ?_
      refine i_iload_n C dX11_die_38 rfl (q := 1) rfl ?_
      refine i_cV (kc' := 0) (ks' := 0) 0 0 2 (fun q hq hM hS => crV C (as := [aI x1]) dX11_die_39.1 kX0 (shP_0 hX isC_100) ml_X11_141 cal_X0_loses cv_X0_loses (hRm ⟨Nat.le_of_ble_eq_true rfl, Nat.le_of_ble_eq_true rfl⟩) rfl (Nat.le_of_ble_eq_true rfl) (c_X0_loses (xl X) (xG X) hX isC_100 hM ⟨hS.2.1, hS.1, trivial⟩ hq)) (Nat.le_of_ble_eq_true rfl) (Nat.le_of_ble_eq_true rfl) rfl rfl rfl (fun M5 => ?_)
      refine i_iconst C dX11_die_42 kI_1 ?_
      exact i_iret C hq dX11_die_43
    · refine i_ldc C dX11_die_31 kc_X11_140 kI_m1000000002 ?_
      exact i_iret C hq dX11_die_33
  · refine i_ldc C dX11_die_14 kc_X11_74 kI_m1000000001 ?_
    exact i_iret C hq dX11_die_16
set_option maxRecDepth 100000 in
set_option maxHeartbeats 4000000 in
theorem c_X11_tie (l : Launch) (G : Gx) {K : Kx} (hK : K = kP) {x1 : Int} {x2 : Int} {x3 : Int} {x4 : Int} {M : Mem} {res : Int × Mem} (hM : OkM M) (ha : okS [aR 0, aI x1, aI x2, aI x3, aI x4]) (hF : pTop_tie x1 x2 x3 x4 M = some res) : Ct l G K yX11_tie (wsM yX11_tie cX11_tie 6 (some .int)) rmX11_tie [aR 0, aI x1, aI x2, aI x3, aI x4] M (some (aI res.1)) res.2 := by
  refine ct_of RX11 (by decide +kernel) rfl (hK ▸ kP_ok) hM ha (Nat.le_of_ble_eq_true rfl) hF ?_
  intro X C hl hG hX0 hN hR hq
  have hX : xK X = kP := hX0.trans hK
  show Im X 0 0 0 [(0, aR 0), (1, aI x1), (2, aI x2), (3, aI x3), (4, aI x4)] [] M res (pTop_tie x1 x2 x3 x4 M)
  unfold pTop_tie
  have hl5 : 5 < xn X := by rw [hN]; decide
  have hRm : ∀ {rm : Room} {ny : Nat}, RmOk rmX11_tie rm ny → RmOk (xR X) rm ny := fun h => by rw [hR]; exact h
  refine i_iload_n C dX11_tie_0 rfl (q := 1) rfl ?_
  refine i_iconst C dX11_tie_1 kI_0 ?_
  refine i_iconst C dX11_tie_2 kI_5 ?_
  refine i_cI (kc' := 0) (ks' := 0) 0 0 3 (fun q hq hM hS => crS C (as := [aI x1, aI 0, aI 5]) dX11_tie_3.1 ml_X11_86 cal_X11_within st_X11_within (hRm ⟨Nat.le_of_ble_eq_true rfl, Nat.le_of_ble_eq_true rfl⟩) rfl (Nat.le_of_ble_eq_true rfl) (c_X11_within (xl X) (xG X) hX hM ⟨hS.2.2.1, hS.2.1, hS.1, trivial⟩ hq)) (Nat.le_of_ble_eq_true rfl) (Nat.le_of_ble_eq_true rfl) rfl rfl rfl (fun v2 M1 => ?_)
  refine i_if_eq (tgt := 23) C dX11_tie_6 (by decide) ?_ ?_
  · refine i_ldc C dX11_tie_23 kc_X11_74 kI_m1000000001 ?_
    exact i_iret C hq dX11_tie_25
  · refine i_iload_n C dX11_tie_9 rfl (q := 2) rfl ?_
    refine i_iload_n C dX11_tie_10 rfl (q := 3) rfl ?_
    refine i_icmp_eq (tgt := 23) C dX11_tie_11 (by decide) ?_ ?_
    · refine i_ldc C dX11_tie_23 kc_X11_74 kI_m1000000001 ?_
      exact i_iret C hq dX11_tie_25
    · refine i_iload_n C dX11_tie_14 rfl (q := 1) rfl ?_
      refine i_iload C dX11_tie_15 (q := 4) rfl ?_
      refine i_cI (kc' := 0) (ks' := 0) 0 0 2 (fun q hq hM hS => crS C (as := [aI x1, aI x4]) dX11_tie_17.1 ml_X11_145 cal_X9_fits st_X9_fits (hRm ⟨Nat.le_of_ble_eq_true rfl, Nat.le_of_ble_eq_true rfl⟩) rfl (Nat.le_of_ble_eq_true rfl) (c_X9_fits (xl X) (xG X) hX hM ⟨hS.2.1, hS.1, trivial⟩ hq)) (Nat.le_of_ble_eq_true rfl) (Nat.le_of_ble_eq_true rfl) rfl rfl rfl (fun v4 M3 => ?_)
      refine i_if_ne (tgt := 26) C dX11_tie_20 (by decide) ?_ ?_
      · refine i_iload_n C dX11_tie_26 rfl (q := 1) rfl ?_
        refine i_iconst C dX11_tie_27 kI_5 ?_
        refine i_jn (fun j => ∀ (p5 : Int) (M7 : Mem), Im X 0 0 94 [(0, aR 0), (1, aI x1), (2, aI x2), (3, aI x3), (4, aI x4)] [aI p5] M7 res (j p5 M7)) ?_ (fun j6 hj6 => ?_)
        · intro p5 M7
          refine i_istore C dX11_tie_94 hl5 (L' := [(0, aR 0), (1, aI x1), (2, aI x2), (3, aI x3), (4, aI x4), (5, aI p5)]) rfl ?_
          refine i_iload C dX11_tie_96 (q := 5) rfl ?_
          refine i_if_ne (tgt := 104) C dX11_tie_98 (by decide) ?_ ?_
          · refine i_aload_n C dX11_tie_104 rfl (q := 0) rfl ?_
            refine i_getR C (k := 0) kX11 dX11_tie_105 (shT_0 hX) rfl (by decide) fl_X11_12 ?_
            refine i_getR C (k := 8) kX0 dX11_tie_108 (shP_0 hX isC_100) rfl (by decide) fl_X11_151 ?_
            refine i_getI C (k := 0) kX9 dX11_tie_111 (shP_15 hX isC_100) rfl (by decide) fl_X11_155 rfl ?_
            refine i_bipush C dX11_tie_114 kB_40 ?_
            refine i_icmp_ne (tgt := 122) C dX11_tie_116 (by decide) ?_ ?_
            · refine i_aload_n C dX11_tie_122 rfl (q := 0) rfl ?_
              refine i_getR C (k := 0) kX11 dX11_tie_123 (shT_0 hX) rfl (by decide) fl_X11_12 ?_
              refine i_getR C (k := 8) kX0 dX11_tie_126 (shP_0 hX isC_100) rfl (by decide) fl_X11_151 ?_
              refine i_iload_n C dX11_tie_129 rfl (q := 1) rfl ?_
              refine i_iload_n C dX11_tie_130 rfl (q := 2) rfl ?_
              refine i_iload_n C dX11_tie_131 rfl (q := 3) rfl ?_
              refine i_iload C dX11_tie_132 (q := 4) rfl ?_
              refine i_cI (kc' := 0) (ks' := 0) 0 0 5 (fun q hq hM hS => crV C (as := [aI x1, aI x2, aI x3, aI x4]) dX11_tie_134.1 kX9 (shP_15 hX isC_100) ml_X11_156 cal_X9_addTie cv_X9_addTie (hRm ⟨Nat.le_of_ble_eq_true rfl, Nat.le_of_ble_eq_true rfl⟩) rfl (Nat.le_of_ble_eq_true rfl) (c_X9_addTie (xl X) (xG X) hX isC_100 hM ⟨hS.2.2.2.2.1, hS.2.2.2.1, hS.2.2.1, hS.2.1, hS.1, trivial⟩ hq)) (Nat.le_of_ble_eq_true rfl) (Nat.le_of_ble_eq_true rfl) rfl rfl rfl (fun v9 M8 => ?_)
              exact i_iret C hq dX11_tie_137
            · refine i_ldc C dX11_tie_119 kc_X11_78 kI_m1000000003 ?_
              exact i_iret C hq dX11_tie_121
          · refine i_ldc C dX11_tie_101 kc_X11_74 kI_m1000000001 ?_
            exact i_iret C hq dX11_tie_103
        refine i_icmp_ne (tgt := 67) C dX11_tie_28 (by decide) ?_ ?_
        · refine i_aload_n C dX11_tie_67 rfl (q := 0) rfl ?_
          refine i_getR C (k := 0) kX11 dX11_tie_68 (shT_0 hX) rfl (by decide) fl_X11_12 ?_
          refine i_iload_n C dX11_tie_71 rfl (q := 2) rfl ?_
          refine i_cI (kc' := 0) (ks' := 0) 0 0 2 (fun q hq hM hS => crV C (as := [aI x2]) dX11_tie_72.1 kX0 (shP_0 hX isC_100) ml_X11_83 cal_X0_hasCell cv_X0_hasCell (hRm ⟨Nat.le_of_ble_eq_true rfl, Nat.le_of_ble_eq_true rfl⟩) rfl (Nat.le_of_ble_eq_true rfl) (c_X0_hasCell (xl X) (xG X) hX isC_100 hM ⟨hS.2.1, hS.1, trivial⟩ hq)) (Nat.le_of_ble_eq_true rfl) (Nat.le_of_ble_eq_true rfl) rfl rfl rfl (fun v11 M10 => ?_)
          refine i_jn (fun j => ∀  (M13 : Mem), Im X 0 0 93 [(0, aR 0), (1, aI x1), (2, aI x2), (3, aI x3), (4, aI x4)] [] M13 res (j  M13)) ?_ (fun j12 hj12 => ?_)
          · intro  M13
            refine i_iconst C dX11_tie_93 kI_0 ?_
            exact (hj6 0 M13)
          refine i_if_eq (tgt := 93) C dX11_tie_75 (by decide) ?_ ?_
          · exact (hj12  M10)
          · refine i_aload_n C dX11_tie_78 rfl (q := 0) rfl ?_
            refine i_getR C (k := 0) kX11 dX11_tie_79 (shT_0 hX) rfl (by decide) fl_X11_12 ?_
            refine i_iload_n C dX11_tie_82 rfl (q := 3) rfl ?_
            refine i_cI (kc' := 0) (ks' := 0) 0 0 2 (fun q hq hM hS => crV C (as := [aI x3]) dX11_tie_83.1 kX0 (shP_0 hX isC_100) ml_X11_83 cal_X0_hasCell cv_X0_hasCell (hRm ⟨Nat.le_of_ble_eq_true rfl, Nat.le_of_ble_eq_true rfl⟩) rfl (Nat.le_of_ble_eq_true rfl) (c_X0_hasCell (xl X) (xG X) hX isC_100 hM ⟨hS.2.1, hS.1, trivial⟩ hq)) (Nat.le_of_ble_eq_true rfl) (Nat.le_of_ble_eq_true rfl) rfl rfl rfl (fun v15 M14 => ?_)
            refine i_if_eq (tgt := 93) C dX11_tie_86 (by decide) ?_ ?_
            · exact (hj12  M14)
            · refine i_iconst C dX11_tie_89 kI_1 ?_
              refine i_goto (tgt := 94) C dX11_tie_90 (by decide) ?_
              exact (hj6 1 M14)
        · refine i_aload_n C dX11_tie_31 rfl (q := 0) rfl ?_
          refine i_getR C (k := 0) kX11 dX11_tie_32 (shT_0 hX) rfl (by decide) fl_X11_12 ?_
          refine i_getR C (k := 7) kX0 dX11_tie_35 (shP_0 hX isC_100) rfl (by decide) fl_X11_100 ?_
          refine i_iload_n C dX11_tie_38 rfl (q := 2) rfl ?_
          refine i_cI (kc' := 0) (ks' := 0) 0 0 2 (fun q hq hM hS => crV C (as := [aI x2]) dX11_tie_39.1 kX6 (shP_6 hX isC_100) ml_X11_113 cal_X6_has cv_X6_has (hRm ⟨Nat.le_of_ble_eq_true rfl, Nat.le_of_ble_eq_true rfl⟩) rfl (Nat.le_of_ble_eq_true rfl) (c_X6_has (xl X) (xG X) hX isC_100 hM ⟨hS.2.1, hS.1, trivial⟩ hq)) (Nat.le_of_ble_eq_true rfl) (Nat.le_of_ble_eq_true rfl) rfl rfl rfl (fun v17 M16 => ?_)
          refine i_jn (fun j => ∀  (M19 : Mem), Im X 0 0 63 [(0, aR 0), (1, aI x1), (2, aI x2), (3, aI x3), (4, aI x4)] [] M19 res (j  M19)) ?_ (fun j18 hj18 => ?_)
          · intro  M19
            refine i_iconst C dX11_tie_63 kI_0 ?_
            refine i_goto (tgt := 94) C dX11_tie_64 (by decide) ?_
            exact (hj6 0 M19)
          refine i_if_eq (tgt := 63) C dX11_tie_42 (by decide) ?_ ?_
          · exact (hj18  M16)
          · refine i_aload_n C dX11_tie_45 rfl (q := 0) rfl ?_
            refine i_getR C (k := 0) kX11 dX11_tie_46 (shT_0 hX) rfl (by decide) fl_X11_12 ?_
            refine i_getR C (k := 7) kX0 dX11_tie_49 (shP_0 hX isC_100) rfl (by decide) fl_X11_100 ?_
            refine i_iload_n C dX11_tie_52 rfl (q := 3) rfl ?_
            refine i_cI (kc' := 0) (ks' := 0) 0 0 2 (fun q hq hM hS => crV C (as := [aI x3]) dX11_tie_53.1 kX6 (shP_6 hX isC_100) ml_X11_113 cal_X6_has cv_X6_has (hRm ⟨Nat.le_of_ble_eq_true rfl, Nat.le_of_ble_eq_true rfl⟩) rfl (Nat.le_of_ble_eq_true rfl) (c_X6_has (xl X) (xG X) hX isC_100 hM ⟨hS.2.1, hS.1, trivial⟩ hq)) (Nat.le_of_ble_eq_true rfl) (Nat.le_of_ble_eq_true rfl) rfl rfl rfl (fun v21 M20 => ?_)
            refine i_if_eq (tgt := 63) C dX11_tie_56 (by decide) ?_ ?_
            · exact (hj18  M20)
            · refine i_iconst C dX11_tie_59 kI_1 ?_
              refine i_goto (tgt := 94) C dX11_tie_60 (by decide) ?_
              exact (hj6 1 M20)
      · refine i_ldc C dX11_tie_23 kc_X11_74 kI_m1000000001 ?_
        exact i_iret C hq dX11_tie_25
set_option maxRecDepth 100000 in
set_option maxHeartbeats 4000000 in
theorem c_X11_pass (l : Launch) (G : Gx) {K : Kx} (hK : K = kP) {x1 : Int} {x2 : Int} {x3 : Int} {x4 : Int} {M : Mem} {res : Int × Mem} (hM : OkM M) (ha : okS [aR 0, aI x1, aI x2, aI x3, aI x4]) (hF : pTop_pass x1 x2 x3 x4 M = some res) : Ct l G K yX11_pass (wsM yX11_pass cX11_pass 8 (some .int)) rmX11_pass [aR 0, aI x1, aI x2, aI x3, aI x4] M (some (aI res.1)) res.2 := by
  refine ct_of RX11 (by decide +kernel) rfl (hK ▸ kP_ok) hM ha (Nat.le_of_ble_eq_true rfl) hF ?_
  intro X C hl hG hX0 hN hR hq
  have hX : xK X = kP := hX0.trans hK
  show Im X 0 0 0 [(0, aR 0), (1, aI x1), (2, aI x2), (3, aI x3), (4, aI x4)] [] M res (pTop_pass x1 x2 x3 x4 M)
  unfold pTop_pass
  have hl5 : 5 < xn X := by rw [hN]; decide
  have hl6 : 6 < xn X := by rw [hN]; decide
  have hl7 : 7 < xn X := by rw [hN]; decide
  have hRm : ∀ {rm : Room} {ny : Nat}, RmOk rmX11_pass rm ny → RmOk (xR X) rm ny := fun h => by rw [hR]; exact h
  refine i_aload_n C dX11_pass_0 rfl (q := 0) rfl ?_
  refine i_getR C (k := 0) kX11 dX11_pass_1 (shT_0 hX) rfl (by decide) fl_X11_12 ?_
  refine i_getR C (k := 7) kX0 dX11_pass_4 (shP_0 hX isC_100) rfl (by decide) fl_X11_100 ?_
  refine i_iload_n C dX11_pass_7 rfl (q := 1) rfl ?_
  refine i_cI (kc' := 0) (ks' := 0) 0 0 2 (fun q hq hM hS => crV C (as := [aI x1]) dX11_pass_8.1 kX6 (shP_6 hX isC_100) ml_X11_113 cal_X6_has cv_X6_has (hRm ⟨Nat.le_of_ble_eq_true rfl, Nat.le_of_ble_eq_true rfl⟩) rfl (Nat.le_of_ble_eq_true rfl) (c_X6_has (xl X) (xG X) hX isC_100 hM ⟨hS.2.1, hS.1, trivial⟩ hq)) (Nat.le_of_ble_eq_true rfl) (Nat.le_of_ble_eq_true rfl) rfl rfl rfl (fun v2 M1 => ?_)
  refine i_if_eq (tgt := 28) C dX11_pass_11 (by decide) ?_ ?_
  · refine i_ldc C dX11_pass_28 kc_X11_74 kI_m1000000001 ?_
    exact i_iret C hq dX11_pass_30
  · refine i_aload_n C dX11_pass_14 rfl (q := 0) rfl ?_
    refine i_getR C (k := 0) kX11 dX11_pass_15 (shT_0 hX) rfl (by decide) fl_X11_12 ?_
    refine i_getR C (k := 7) kX0 dX11_pass_18 (shP_0 hX isC_100) rfl (by decide) fl_X11_100 ?_
    refine i_iload_n C dX11_pass_21 rfl (q := 2) rfl ?_
    refine i_cI (kc' := 0) (ks' := 0) 0 0 2 (fun q hq hM hS => crV C (as := [aI x2]) dX11_pass_22.1 kX6 (shP_6 hX isC_100) ml_X11_113 cal_X6_has cv_X6_has (hRm ⟨Nat.le_of_ble_eq_true rfl, Nat.le_of_ble_eq_true rfl⟩) rfl (Nat.le_of_ble_eq_true rfl) (c_X6_has (xl X) (xG X) hX isC_100 hM ⟨hS.2.1, hS.1, trivial⟩ hq)) (Nat.le_of_ble_eq_true rfl) (Nat.le_of_ble_eq_true rfl) rfl rfl rfl (fun v4 M3 => ?_)
    refine i_if_ne (tgt := 31) C dX11_pass_25 (by decide) ?_ ?_
    · refine i_aload_n C dX11_pass_31 rfl (q := 0) rfl ?_
      refine i_getR C (k := 0) kX11 dX11_pass_32 (shT_0 hX) rfl (by decide) fl_X11_12 ?_
      refine i_iload_n C dX11_pass_35 rfl (q := 1) rfl ?_
      refine i_cI (kc' := 0) (ks' := 0) 0 0 2 (fun q hq hM hS => crV C (as := [aI x1]) dX11_pass_36.1 kX0 (shP_0 hX isC_100) ml_X11_160 cal_X0_sideOf cv_X0_sideOf (hRm ⟨Nat.le_of_ble_eq_true rfl, Nat.le_of_ble_eq_true rfl⟩) rfl (Nat.le_of_ble_eq_true rfl) (c_X0_sideOf (xl X) (xG X) hX isC_100 hM ⟨hS.2.1, hS.1, trivial⟩ hq)) (Nat.le_of_ble_eq_true rfl) (Nat.le_of_ble_eq_true rfl) rfl rfl rfl (fun v6 M5 => ?_)
      refine i_aload_n C dX11_pass_39 rfl (q := 0) rfl ?_
      refine i_getR C (k := 0) kX11 dX11_pass_40 (shT_0 hX) rfl (by decide) fl_X11_12 ?_
      refine i_iload_n C dX11_pass_43 rfl (q := 2) rfl ?_
      refine i_cI (kc' := 0) (ks' := 0) 0 0 2 (fun q hq hM hS => crV C (as := [aI x2]) dX11_pass_44.1 kX0 (shP_0 hX isC_100) ml_X11_160 cal_X0_sideOf cv_X0_sideOf (hRm ⟨Nat.le_of_ble_eq_true rfl, Nat.le_of_ble_eq_true rfl⟩) rfl (Nat.le_of_ble_eq_true rfl) (c_X0_sideOf (xl X) (xG X) hX isC_100 hM ⟨hS.2.1, hS.1, trivial⟩ hq)) (Nat.le_of_ble_eq_true rfl) (Nat.le_of_ble_eq_true rfl) rfl rfl rfl (fun v8 M7 => ?_)
      refine i_icmp_ne (tgt := 53) C dX11_pass_47 (by decide) ?_ ?_
      · refine i_iload_n C dX11_pass_53 rfl (q := 3) rfl ?_
        refine i_iconst C dX11_pass_54 kI_1 ?_
        refine i_bipush C dX11_pass_55 kB_99 ?_
        refine i_cI (kc' := 0) (ks' := 0) 0 0 3 (fun q hq hM hS => crS C (as := [aI x3, aI 1, aI 99]) dX11_pass_57.1 ml_X11_86 cal_X11_within st_X11_within (hRm ⟨Nat.le_of_ble_eq_true rfl, Nat.le_of_ble_eq_true rfl⟩) rfl (Nat.le_of_ble_eq_true rfl) (c_X11_within (xl X) (xG X) hX hM ⟨hS.2.2.1, hS.2.1, hS.1, trivial⟩ hq)) (Nat.le_of_ble_eq_true rfl) (Nat.le_of_ble_eq_true rfl) rfl rfl rfl (fun v10 M9 => ?_)
        refine i_if_eq (tgt := 68) C dX11_pass_60 (by decide) ?_ ?_
        · refine i_ldc C dX11_pass_68 kc_X11_74 kI_m1000000001 ?_
          exact i_iret C hq dX11_pass_70
        · refine i_iload C dX11_pass_63 (q := 4) rfl ?_
          refine i_if_ge (tgt := 71) C dX11_pass_65 (by decide) ?_ ?_
          · refine i_iload C dX11_pass_71 (q := 4) rfl ?_
            refine i_sipush C dX11_pass_73 kS_1000 ?_
            refine i_idiv C dX11_pass_76 (by decide) ?_
            refine i_nm (fun v11 => ?_)
            refine i_istore C dX11_pass_77 hl5 (L' := [(0, aR 0), (1, aI x1), (2, aI x2), (3, aI x3), (4, aI x4), (5, aI v11)]) rfl ?_
            refine i_iload C dX11_pass_79 (q := 4) rfl ?_
            refine i_sipush C dX11_pass_81 kS_1000 ?_
            refine i_irem C dX11_pass_84 (by decide) ?_
            refine i_nm (fun v12 => ?_)
            refine i_istore C dX11_pass_85 hl6 (L' := [(0, aR 0), (1, aI x1), (2, aI x2), (3, aI x3), (4, aI x4), (5, aI v11), (6, aI v12)]) rfl ?_
            refine i_iload C dX11_pass_87 (q := 5) rfl ?_
            refine i_sipush C dX11_pass_89 kS_416 ?_
            refine i_icmp_gt (tgt := 110) C dX11_pass_92 (by decide) ?_ ?_
            · refine i_ldc C dX11_pass_110 kc_X11_74 kI_m1000000001 ?_
              exact i_iret C hq dX11_pass_112
            · refine i_iload C dX11_pass_95 (q := 6) rfl ?_
              refine i_sipush C dX11_pass_97 kS_416 ?_
              refine i_icmp_gt (tgt := 110) C dX11_pass_100 (by decide) ?_ ?_
              · refine i_ldc C dX11_pass_110 kc_X11_74 kI_m1000000001 ?_
                exact i_iret C hq dX11_pass_112
              · refine i_iload C dX11_pass_103 (q := 6) rfl ?_
                refine i_iload C dX11_pass_105 (q := 5) rfl ?_
                refine i_icmp_ge (tgt := 113) C dX11_pass_107 (by decide) ?_ ?_
                · refine i_aload_n C dX11_pass_113 rfl (q := 0) rfl ?_
                  refine i_getR C (k := 0) kX11 dX11_pass_114 (shT_0 hX) rfl (by decide) fl_X11_12 ?_
                  refine i_getR C (k := 8) kX0 dX11_pass_117 (shP_0 hX isC_100) rfl (by decide) fl_X11_151 ?_
                  refine i_getI C (k := 0) kX9 dX11_pass_120 (shP_15 hX isC_100) rfl (by decide) fl_X11_155 rfl ?_
                  refine i_bipush C dX11_pass_123 kB_40 ?_
                  refine i_icmp_ne (tgt := 131) C dX11_pass_125 (by decide) ?_ ?_
                  · refine i_aload_n C dX11_pass_131 rfl (q := 0) rfl ?_
                    refine i_getR C (k := 0) kX11 dX11_pass_132 (shT_0 hX) rfl (by decide) fl_X11_12 ?_
                    refine i_getR C (k := 8) kX0 dX11_pass_135 (shP_0 hX isC_100) rfl (by decide) fl_X11_151 ?_
                    refine i_bipush C dX11_pass_138 kB_6 ?_
                    refine i_iload_n C dX11_pass_140 rfl (q := 1) rfl ?_
                    refine i_iload_n C dX11_pass_141 rfl (q := 2) rfl ?_
                    refine i_iload_n C dX11_pass_142 rfl (q := 3) rfl ?_
                    refine i_cI (kc' := 0) (ks' := 0) 0 0 5 (fun q hq hM hS => crV C (as := [aI 6, aI x1, aI x2, aI x3]) dX11_pass_143.1 kX9 (shP_15 hX isC_100) ml_X11_156 cal_X9_addTie cv_X9_addTie (hRm ⟨Nat.le_of_ble_eq_true rfl, Nat.le_of_ble_eq_true rfl⟩) rfl (Nat.le_of_ble_eq_true rfl) (c_X9_addTie (xl X) (xG X) hX isC_100 hM ⟨hS.2.2.2.2.1, hS.2.2.2.1, hS.2.2.1, hS.2.1, hS.1, trivial⟩ hq)) (Nat.le_of_ble_eq_true rfl) (Nat.le_of_ble_eq_true rfl) rfl rfl rfl (fun v14 M13 => ?_)
                    refine i_istore C dX11_pass_146 hl7 (L' := [(0, aR 0), (1, aI x1), (2, aI x2), (3, aI x3), (4, aI x4), (5, aI v11), (6, aI v12), (7, aI v14)]) rfl ?_
                    refine i_aload_n C dX11_pass_148 rfl (q := 0) rfl ?_
                    refine i_getR C (k := 0) kX11 dX11_pass_149 (shT_0 hX) rfl (by decide) fl_X11_12 ?_
                    refine i_getR C (k := 8) kX0 dX11_pass_152 (shP_0 hX isC_100) rfl (by decide) fl_X11_151 ?_
                    refine i_getR C (k := 5) kX9 dX11_pass_155 (shP_15 hX isC_100) rfl (by decide) fl_X11_163 ?_
                    refine i_iload C dX11_pass_158 (q := 7) rfl ?_
                    refine i_iload C dX11_pass_160 (q := 5) rfl ?_
                    refine i_ast C dX11_pass_162 (shP_20 hX isC_100) (fun M15 => ?_)
                    refine i_aload_n C dX11_pass_163 rfl (q := 0) rfl ?_
                    refine i_getR C (k := 0) kX11 dX11_pass_164 (shT_0 hX) rfl (by decide) fl_X11_12 ?_
                    refine i_getR C (k := 8) kX0 dX11_pass_167 (shP_0 hX isC_100) rfl (by decide) fl_X11_151 ?_
                    refine i_getR C (k := 6) kX9 dX11_pass_170 (shP_15 hX isC_100) rfl (by decide) fl_X11_166 ?_
                    refine i_iload C dX11_pass_173 (q := 7) rfl ?_
                    refine i_iload C dX11_pass_175 (q := 6) rfl ?_
                    refine i_ast C dX11_pass_177 (shP_21 hX isC_100) (fun M16 => ?_)
                    refine i_iload C dX11_pass_178 (q := 7) rfl ?_
                    exact i_iret C hq dX11_pass_180
                  · refine i_ldc C dX11_pass_128 kc_X11_78 kI_m1000000003 ?_
                    exact i_iret C hq dX11_pass_130
                · refine i_ldc C dX11_pass_110 kc_X11_74 kI_m1000000001 ?_
                  exact i_iret C hq dX11_pass_112
          · refine i_ldc C dX11_pass_68 kc_X11_74 kI_m1000000001 ?_
            exact i_iret C hq dX11_pass_70
      · refine i_ldc C dX11_pass_50 kc_X11_74 kI_m1000000001 ?_
        exact i_iret C hq dX11_pass_52
    · refine i_ldc C dX11_pass_28 kc_X11_74 kI_m1000000001 ?_
      exact i_iret C hq dX11_pass_30
set_option maxRecDepth 100000 in
set_option maxHeartbeats 4000000 in
theorem c_X11_parcel (l : Launch) (G : Gx) {K : Kx} (hK : K = kP) {x1 : Int} {x2 : Int} {x3 : Int} {M : Mem} {res : Int × Mem} (hM : OkM M) (ha : okS [aR 0, aI x1, aI x2, aI x3]) (hF : pTop_parcel x1 x2 x3 M = some res) : Ct l G K yX11_parcel (wsM yX11_parcel cX11_parcel 6 (some .int)) rmX11_parcel [aR 0, aI x1, aI x2, aI x3] M (some (aI res.1)) res.2 := by
  refine ct_of RX11 (by decide +kernel) rfl (hK ▸ kP_ok) hM ha (Nat.le_of_ble_eq_true rfl) hF ?_
  intro X C hl hG hX0 hN hR hq
  have hX : xK X = kP := hX0.trans hK
  show Im X 0 0 0 [(0, aR 0), (1, aI x1), (2, aI x2), (3, aI x3)] [] M res (pTop_parcel x1 x2 x3 M)
  unfold pTop_parcel
  have hl4 : 4 < xn X := by rw [hN]; decide
  have hl5 : 5 < xn X := by rw [hN]; decide
  have hRm : ∀ {rm : Room} {ny : Nat}, RmOk rmX11_parcel rm ny → RmOk (xR X) rm ny := fun h => by rw [hR]; exact h
  refine i_aload_n C dX11_parcel_0 rfl (q := 0) rfl ?_
  refine i_getR C (k := 0) kX11 dX11_parcel_1 (shT_0 hX) rfl (by decide) fl_X11_12 ?_
  refine i_getR C (k := 8) kX0 dX11_parcel_4 (shP_0 hX isC_100) rfl (by decide) fl_X11_151 ?_
  refine i_astore C dX11_parcel_7 hl4 (L' := [(0, aR 0), (1, aI x1), (2, aI x2), (3, aI x3), (4, aR (100 + 15))]) rfl ?_
  refine i_aload C dX11_parcel_9 (q := 4) rfl ?_
  refine i_iload_n C dX11_parcel_11 rfl (q := 1) rfl ?_
  refine i_bipush C dX11_parcel_12 kB_6 ?_
  refine i_cI (kc' := 0) (ks' := 0) 0 0 3 (fun q hq hM hS => crV C (as := [aI x1, aI 6]) dX11_parcel_14.1 kX9 (shP_15 hX isC_100) ml_X11_169 cal_X9_isOf cv_X9_isOf (hRm ⟨Nat.le_of_ble_eq_true rfl, Nat.le_of_ble_eq_true rfl⟩) rfl (Nat.le_of_ble_eq_true rfl) (c_X9_isOf (xl X) (xG X) hX isC_100 hM ⟨hS.2.2.1, hS.2.1, hS.1, trivial⟩ hq)) (Nat.le_of_ble_eq_true rfl) (Nat.le_of_ble_eq_true rfl) rfl rfl rfl (fun v2 M1 => ?_)
  refine i_if_eq (tgt := 40) C dX11_parcel_17 (by decide) ?_ ?_
  · refine i_ldc C dX11_parcel_40 kc_X11_74 kI_m1000000001 ?_
    exact i_iret C hq dX11_parcel_42
  · refine i_iload_n C dX11_parcel_20 rfl (q := 2) rfl ?_
    refine i_iconst C dX11_parcel_21 kI_1 ?_
    refine i_bipush C dX11_parcel_22 kB_99 ?_
    refine i_cI (kc' := 0) (ks' := 0) 0 0 3 (fun q hq hM hS => crS C (as := [aI x2, aI 1, aI 99]) dX11_parcel_24.1 ml_X11_86 cal_X11_within st_X11_within (hRm ⟨Nat.le_of_ble_eq_true rfl, Nat.le_of_ble_eq_true rfl⟩) rfl (Nat.le_of_ble_eq_true rfl) (c_X11_within (xl X) (xG X) hX hM ⟨hS.2.2.1, hS.2.1, hS.1, trivial⟩ hq)) (Nat.le_of_ble_eq_true rfl) (Nat.le_of_ble_eq_true rfl) rfl rfl rfl (fun v4 M3 => ?_)
    refine i_if_eq (tgt := 40) C dX11_parcel_27 (by decide) ?_ ?_
    · refine i_ldc C dX11_parcel_40 kc_X11_74 kI_m1000000001 ?_
      exact i_iret C hq dX11_parcel_42
    · refine i_iload_n C dX11_parcel_30 rfl (q := 3) rfl ?_
      refine i_iconst C dX11_parcel_31 kI_0 ?_
      refine i_bipush C dX11_parcel_32 kB_7 ?_
      refine i_cI (kc' := 0) (ks' := 0) 0 0 3 (fun q hq hM hS => crS C (as := [aI x3, aI 0, aI 7]) dX11_parcel_34.1 ml_X11_86 cal_X11_within st_X11_within (hRm ⟨Nat.le_of_ble_eq_true rfl, Nat.le_of_ble_eq_true rfl⟩) rfl (Nat.le_of_ble_eq_true rfl) (c_X11_within (xl X) (xG X) hX hM ⟨hS.2.2.1, hS.2.1, hS.1, trivial⟩ hq)) (Nat.le_of_ble_eq_true rfl) (Nat.le_of_ble_eq_true rfl) rfl rfl rfl (fun v6 M5 => ?_)
      refine i_if_ne (tgt := 43) C dX11_parcel_37 (by decide) ?_ ?_
      · refine i_aload C dX11_parcel_43 (q := 4) rfl ?_
        refine i_getR C (k := 7) kX9 dX11_parcel_45 (shP_15 hX isC_100) rfl (by decide) fl_X11_172 ?_
        refine i_iload_n C dX11_parcel_48 rfl (q := 1) rfl ?_
        refine i_ald C dX11_parcel_49 (shP_22 hX isC_100) (fun v7 => ?_)
        refine i_if_eq (tgt := 56) C dX11_parcel_50 (by decide) ?_ ?_
        · refine i_aload C dX11_parcel_56 (q := 4) rfl ?_
          refine i_getI C (k := 0) kX9 dX11_parcel_58 (shP_15 hX isC_100) rfl (by decide) fl_X11_155 rfl ?_
          refine i_bipush C dX11_parcel_61 kB_40 ?_
          refine i_icmp_ne (tgt := 69) C dX11_parcel_63 (by decide) ?_ ?_
          · refine i_aload C dX11_parcel_69 (q := 4) rfl ?_
            refine i_bipush C dX11_parcel_71 kB_7 ?_
            refine i_aload C dX11_parcel_73 (q := 4) rfl ?_
            refine i_getR C (k := 2) kX9 dX11_parcel_75 (shP_15 hX isC_100) rfl (by decide) fl_X11_175 ?_
            refine i_iload_n C dX11_parcel_78 rfl (q := 1) rfl ?_
            refine i_ald C dX11_parcel_79 (shP_17 hX isC_100) (fun v8 => ?_)
            refine i_aload C dX11_parcel_80 (q := 4) rfl ?_
            refine i_getR C (k := 3) kX9 dX11_parcel_82 (shP_15 hX isC_100) rfl (by decide) fl_X11_178 ?_
            refine i_iload_n C dX11_parcel_85 rfl (q := 1) rfl ?_
            refine i_ald C dX11_parcel_86 (shP_18 hX isC_100) (fun v9 => ?_)
            refine i_iload_n C dX11_parcel_87 rfl (q := 2) rfl ?_
            refine i_cI (kc' := 0) (ks' := 0) 0 0 5 (fun q hq hM hS => crV C (as := [aI 7, aI v8, aI v9, aI x2]) dX11_parcel_88.1 kX9 (shP_15 hX isC_100) ml_X11_156 cal_X9_addTie cv_X9_addTie (hRm ⟨Nat.le_of_ble_eq_true rfl, Nat.le_of_ble_eq_true rfl⟩) rfl (Nat.le_of_ble_eq_true rfl) (c_X9_addTie (xl X) (xG X) hX isC_100 hM ⟨hS.2.2.2.2.1, hS.2.2.2.1, hS.2.2.1, hS.2.1, hS.1, trivial⟩ hq)) (Nat.le_of_ble_eq_true rfl) (Nat.le_of_ble_eq_true rfl) rfl rfl rfl (fun v11 M10 => ?_)
            refine i_istore C dX11_parcel_91 hl5 (L' := [(0, aR 0), (1, aI x1), (2, aI x2), (3, aI x3), (4, aR (100 + 15)), (5, aI v11)]) rfl ?_
            refine i_aload C dX11_parcel_93 (q := 4) rfl ?_
            refine i_getR C (k := 9) kX9 dX11_parcel_95 (shP_15 hX isC_100) rfl (by decide) fl_X11_181 ?_
            refine i_iload C dX11_parcel_98 (q := 5) rfl ?_
            refine i_iload_n C dX11_parcel_100 rfl (q := 3) rfl ?_
            refine i_ast C dX11_parcel_101 (shP_24 hX isC_100) (fun M12 => ?_)
            refine i_aload C dX11_parcel_102 (q := 4) rfl ?_
            refine i_getR C (k := 10) kX9 dX11_parcel_104 (shP_15 hX isC_100) rfl (by decide) fl_X11_184 ?_
            refine i_iload C dX11_parcel_107 (q := 5) rfl ?_
            refine i_iload_n C dX11_parcel_109 rfl (q := 1) rfl ?_
            refine i_ast C dX11_parcel_110 (shP_25 hX isC_100) (fun M13 => ?_)
            refine i_iload C dX11_parcel_111 (q := 5) rfl ?_
            exact i_iret C hq dX11_parcel_113
          · refine i_ldc C dX11_parcel_66 kc_X11_78 kI_m1000000003 ?_
            exact i_iret C hq dX11_parcel_68
        · refine i_ldc C dX11_parcel_53 kc_X11_140 kI_m1000000002 ?_
          exact i_iret C hq dX11_parcel_55
      · refine i_ldc C dX11_parcel_40 kc_X11_74 kI_m1000000001 ?_
        exact i_iret C hq dX11_parcel_42
set_option maxRecDepth 100000 in
set_option maxHeartbeats 4000000 in
theorem c_X11_told (l : Launch) (G : Gx) {K : Kx} (hK : K = kP) {x1 : Int} {x2 : Int} {M : Mem} {res : Int × Mem} (hM : OkM M) (ha : okS [aR 0, aI x1, aI x2]) (hF : pTop_told x1 x2 M = some res) : Ct l G K yX11_told (wsM yX11_told cX11_told 4 (some .int)) rmX11_told [aR 0, aI x1, aI x2] M (some (aI res.1)) res.2 := by
  refine ct_of RX11 (by decide +kernel) rfl (hK ▸ kP_ok) hM ha (Nat.le_of_ble_eq_true rfl) hF ?_
  intro X C hl hG hX0 hN hR hq
  have hX : xK X = kP := hX0.trans hK
  show Im X 0 0 0 [(0, aR 0), (1, aI x1), (2, aI x2)] [] M res (pTop_told x1 x2 M)
  unfold pTop_told
  have hl3 : 3 < xn X := by rw [hN]; decide
  have hRm : ∀ {rm : Room} {ny : Nat}, RmOk rmX11_told rm ny → RmOk (xR X) rm ny := fun h => by rw [hR]; exact h
  refine i_aload_n C dX11_told_0 rfl (q := 0) rfl ?_
  refine i_getR C (k := 0) kX11 dX11_told_1 (shT_0 hX) rfl (by decide) fl_X11_12 ?_
  refine i_getR C (k := 8) kX0 dX11_told_4 (shP_0 hX isC_100) rfl (by decide) fl_X11_151 ?_
  refine i_astore_n C dX11_told_7 rfl hl3 (L' := [(0, aR 0), (1, aI x1), (2, aI x2), (3, aR (100 + 15))]) rfl ?_
  refine i_aload_n C dX11_told_8 rfl (q := 3) rfl ?_
  refine i_iload_n C dX11_told_9 rfl (q := 1) rfl ?_
  refine i_cI (kc' := 0) (ks' := 0) 0 0 2 (fun q hq hM hS => crV C (as := [aI x1]) dX11_told_10.1 kX9 (shP_15 hX isC_100) ml_X11_187 cal_X9_has cv_X9_has (hRm ⟨Nat.le_of_ble_eq_true rfl, Nat.le_of_ble_eq_true rfl⟩) rfl (Nat.le_of_ble_eq_true rfl) (c_X9_has (xl X) (xG X) hX isC_100 hM ⟨hS.2.1, hS.1, trivial⟩ hq)) (Nat.le_of_ble_eq_true rfl) (Nat.le_of_ble_eq_true rfl) rfl rfl rfl (fun v2 M1 => ?_)
  refine i_if_ne (tgt := 19) C dX11_told_13 (by decide) ?_ ?_
  · refine i_iload_n C dX11_told_19 rfl (q := 2) rfl ?_
    refine i_split (fun e4 => ?_) (fun e4 => ?_)
    · refine i_tswIn (tgt := 76) C dX11_told_20 e4 (by decide) (by decide) rfl (by decide) ?_
      refine i_aload_n C dX11_told_76 rfl (q := 3) rfl ?_
      refine i_getR C (k := 1) kX9 dX11_told_77 (shP_15 hX isC_100) rfl (by decide) fl_X11_188 ?_
      refine i_iload_n C dX11_told_80 rfl (q := 1) rfl ?_
      refine i_ald C dX11_told_81 (shP_16 hX isC_100) (fun v3 => ?_)
      exact i_iret C hq dX11_told_82
    refine i_split (fun e6 => ?_) (fun e6 => ?_)
    · refine i_tswIn (tgt := 83) C dX11_told_20 e6 (by decide) (by decide) rfl (by decide) ?_
      refine i_aload_n C dX11_told_83 rfl (q := 3) rfl ?_
      refine i_getR C (k := 2) kX9 dX11_told_84 (shP_15 hX isC_100) rfl (by decide) fl_X11_175 ?_
      refine i_iload_n C dX11_told_87 rfl (q := 1) rfl ?_
      refine i_ald C dX11_told_88 (shP_17 hX isC_100) (fun v5 => ?_)
      exact i_iret C hq dX11_told_89
    refine i_split (fun e8 => ?_) (fun e8 => ?_)
    · refine i_tswIn (tgt := 90) C dX11_told_20 e8 (by decide) (by decide) rfl (by decide) ?_
      refine i_aload_n C dX11_told_90 rfl (q := 3) rfl ?_
      refine i_getR C (k := 3) kX9 dX11_told_91 (shP_15 hX isC_100) rfl (by decide) fl_X11_178 ?_
      refine i_iload_n C dX11_told_94 rfl (q := 1) rfl ?_
      refine i_ald C dX11_told_95 (shP_18 hX isC_100) (fun v7 => ?_)
      exact i_iret C hq dX11_told_96
    refine i_split (fun e10 => ?_) (fun e10 => ?_)
    · refine i_tswIn (tgt := 97) C dX11_told_20 e10 (by decide) (by decide) rfl (by decide) ?_
      refine i_aload_n C dX11_told_97 rfl (q := 3) rfl ?_
      refine i_getR C (k := 4) kX9 dX11_told_98 (shP_15 hX isC_100) rfl (by decide) fl_X11_191 ?_
      refine i_iload_n C dX11_told_101 rfl (q := 1) rfl ?_
      refine i_ald C dX11_told_102 (shP_19 hX isC_100) (fun v9 => ?_)
      exact i_iret C hq dX11_told_103
    refine i_split (fun e12 => ?_) (fun e12 => ?_)
    · refine i_tswIn (tgt := 104) C dX11_told_20 e12 (by decide) (by decide) rfl (by decide) ?_
      refine i_aload_n C dX11_told_104 rfl (q := 3) rfl ?_
      refine i_getR C (k := 5) kX9 dX11_told_105 (shP_15 hX isC_100) rfl (by decide) fl_X11_163 ?_
      refine i_iload_n C dX11_told_108 rfl (q := 1) rfl ?_
      refine i_ald C dX11_told_109 (shP_20 hX isC_100) (fun v11 => ?_)
      exact i_iret C hq dX11_told_110
    refine i_split (fun e14 => ?_) (fun e14 => ?_)
    · refine i_tswIn (tgt := 111) C dX11_told_20 e14 (by decide) (by decide) rfl (by decide) ?_
      refine i_aload_n C dX11_told_111 rfl (q := 3) rfl ?_
      refine i_getR C (k := 6) kX9 dX11_told_112 (shP_15 hX isC_100) rfl (by decide) fl_X11_166 ?_
      refine i_iload_n C dX11_told_115 rfl (q := 1) rfl ?_
      refine i_ald C dX11_told_116 (shP_21 hX isC_100) (fun v13 => ?_)
      exact i_iret C hq dX11_told_117
    refine i_split (fun e16 => ?_) (fun e16 => ?_)
    · refine i_tswIn (tgt := 118) C dX11_told_20 e16 (by decide) (by decide) rfl (by decide) ?_
      refine i_aload_n C dX11_told_118 rfl (q := 3) rfl ?_
      refine i_getR C (k := 7) kX9 dX11_told_119 (shP_15 hX isC_100) rfl (by decide) fl_X11_172 ?_
      refine i_iload_n C dX11_told_122 rfl (q := 1) rfl ?_
      refine i_ald C dX11_told_123 (shP_22 hX isC_100) (fun v15 => ?_)
      exact i_iret C hq dX11_told_124
    refine i_split (fun e18 => ?_) (fun e18 => ?_)
    · refine i_tswIn (tgt := 125) C dX11_told_20 e18 (by decide) (by decide) rfl (by decide) ?_
      refine i_aload_n C dX11_told_125 rfl (q := 3) rfl ?_
      refine i_getR C (k := 9) kX9 dX11_told_126 (shP_15 hX isC_100) rfl (by decide) fl_X11_181 ?_
      refine i_iload_n C dX11_told_129 rfl (q := 1) rfl ?_
      refine i_ald C dX11_told_130 (shP_24 hX isC_100) (fun v17 => ?_)
      exact i_iret C hq dX11_told_131
    refine i_split (fun e20 => ?_) (fun e20 => ?_)
    · refine i_tswIn (tgt := 132) C dX11_told_20 e20 (by decide) (by decide) rfl (by decide) ?_
      refine i_aload_n C dX11_told_132 rfl (q := 3) rfl ?_
      refine i_getR C (k := 10) kX9 dX11_told_133 (shP_15 hX isC_100) rfl (by decide) fl_X11_184 ?_
      refine i_iload_n C dX11_told_136 rfl (q := 1) rfl ?_
      refine i_ald C dX11_told_137 (shP_25 hX isC_100) (fun v19 => ?_)
      exact i_iret C hq dX11_told_138
    refine i_split (fun e23 => ?_) (fun e23 => ?_)
    · refine i_tswIn (tgt := 139) C dX11_told_20 e23 (by decide) (by decide) rfl (by decide) ?_
      refine i_aload_n C dX11_told_139 rfl (q := 0) rfl ?_
      refine i_getR C (k := 0) kX11 dX11_told_140 (shT_0 hX) rfl (by decide) fl_X11_12 ?_
      refine i_iload_n C dX11_told_143 rfl (q := 1) rfl ?_
      refine i_cI (kc' := 0) (ks' := 0) 0 0 2 (fun q hq hM hS => crV C (as := [aI x1]) dX11_told_144.1 kX0 (shP_0 hX isC_100) ml_X11_194 cal_X0_waitingFor cv_X0_waitingFor (hRm ⟨Nat.le_of_ble_eq_true rfl, Nat.le_of_ble_eq_true rfl⟩) rfl (Nat.le_of_ble_eq_true rfl) (c_X0_waitingFor (xl X) (xG X) hX isC_100 hM ⟨hS.2.1, hS.1, trivial⟩ hq)) (Nat.le_of_ble_eq_true rfl) (Nat.le_of_ble_eq_true rfl) rfl rfl rfl (fun v22 M21 => ?_)
      exact i_iret C hq dX11_told_147
    refine i_tswOut (tgt := 148) C dX11_told_20 (by omega) (by decide) ?_
    refine i_ldc C dX11_told_148 kc_X11_74 kI_m1000000001 ?_
    exact i_iret C hq dX11_told_150
  · refine i_ldc C dX11_told_16 kc_X11_74 kI_m1000000001 ?_
    exact i_iret C hq dX11_told_18
set_option maxRecDepth 100000 in
set_option maxHeartbeats 4000000 in
theorem c_X11_as (l : Launch) (G : Gx) {K : Kx} (hK : K = kP) {x1 : Int} {x2 : Int} {M : Mem} {res : Int × Mem} (hM : OkM M) (ha : okS [aR 0, aI x1, aI x2]) (hF : pTop_as x1 x2 M = some res) : Ct l G K yX11_as (wsM yX11_as cX11_as 3 (some .int)) rmX11_as [aR 0, aI x1, aI x2] M (some (aI res.1)) res.2 := by
  refine ct_of RX11 (by decide +kernel) rfl (hK ▸ kP_ok) hM ha (Nat.le_of_ble_eq_true rfl) hF ?_
  intro X C hl hG hX0 hN hR hq
  have hX : xK X = kP := hX0.trans hK
  show Im X 0 0 0 [(0, aR 0), (1, aI x1), (2, aI x2)] [] M res (pTop_as x1 x2 M)
  unfold pTop_as
  have hRm : ∀ {rm : Room} {ny : Nat}, RmOk rmX11_as rm ny → RmOk (xR X) rm ny := fun h => by rw [hR]; exact h
  refine i_aload_n C dX11_as_0 rfl (q := 0) rfl ?_
  refine i_getR C (k := 0) kX11 dX11_as_1 (shT_0 hX) rfl (by decide) fl_X11_12 ?_
  refine i_getR C (k := 8) kX0 dX11_as_4 (shP_0 hX isC_100) rfl (by decide) fl_X11_151 ?_
  refine i_iload_n C dX11_as_7 rfl (q := 1) rfl ?_
  refine i_cI (kc' := 0) (ks' := 0) 0 0 2 (fun q hq hM hS => crV C (as := [aI x1]) dX11_as_8.1 kX9 (shP_15 hX isC_100) ml_X11_187 cal_X9_has cv_X9_has (hRm ⟨Nat.le_of_ble_eq_true rfl, Nat.le_of_ble_eq_true rfl⟩) rfl (Nat.le_of_ble_eq_true rfl) (c_X9_has (xl X) (xG X) hX isC_100 hM ⟨hS.2.1, hS.1, trivial⟩ hq)) (Nat.le_of_ble_eq_true rfl) (Nat.le_of_ble_eq_true rfl) rfl rfl rfl (fun v2 M1 => ?_)
  refine i_if_eq (tgt := 24) C dX11_as_11 (by decide) ?_ ?_
  · refine i_ldc C dX11_as_24 kc_X11_74 kI_m1000000001 ?_
    exact i_iret C hq dX11_as_26
  · refine i_iload_n C dX11_as_14 rfl (q := 2) rfl ?_
    refine i_iconst C dX11_as_15 kI_0 ?_
    refine i_bipush C dX11_as_16 kB_7 ?_
    refine i_cI (kc' := 0) (ks' := 0) 0 0 3 (fun q hq hM hS => crS C (as := [aI x2, aI 0, aI 7]) dX11_as_18.1 ml_X11_86 cal_X11_within st_X11_within (hRm ⟨Nat.le_of_ble_eq_true rfl, Nat.le_of_ble_eq_true rfl⟩) rfl (Nat.le_of_ble_eq_true rfl) (c_X11_within (xl X) (xG X) hX hM ⟨hS.2.2.1, hS.2.1, hS.1, trivial⟩ hq)) (Nat.le_of_ble_eq_true rfl) (Nat.le_of_ble_eq_true rfl) rfl rfl rfl (fun v4 M3 => ?_)
    refine i_if_ne (tgt := 27) C dX11_as_21 (by decide) ?_ ?_
    · refine i_aload_n C dX11_as_27 rfl (q := 0) rfl ?_
      refine i_getR C (k := 0) kX11 dX11_as_28 (shT_0 hX) rfl (by decide) fl_X11_12 ?_
      refine i_getR C (k := 8) kX0 dX11_as_31 (shP_0 hX isC_100) rfl (by decide) fl_X11_151 ?_
      refine i_getR C (k := 1) kX9 dX11_as_34 (shP_15 hX isC_100) rfl (by decide) fl_X11_188 ?_
      refine i_iload_n C dX11_as_37 rfl (q := 1) rfl ?_
      refine i_ald C dX11_as_38 (shP_16 hX isC_100) (fun v5 => ?_)
      refine i_iload_n C dX11_as_39 rfl (q := 2) rfl ?_
      refine i_cI (kc' := 0) (ks' := 0) 0 0 2 (fun q hq hM hS => crS C (as := [aI v5, aI x2]) dX11_as_40.1 ml_X11_197 cal_X9_isUnder st_X9_isUnder (hRm ⟨Nat.le_of_ble_eq_true rfl, Nat.le_of_ble_eq_true rfl⟩) rfl (Nat.le_of_ble_eq_true rfl) (c_X9_isUnder (xl X) (xG X) hX hM ⟨hS.2.1, hS.1, trivial⟩ hq)) (Nat.le_of_ble_eq_true rfl) (Nat.le_of_ble_eq_true rfl) rfl rfl rfl (fun v7 M6 => ?_)
      refine i_if_eq (tgt := 61) C dX11_as_43 (by decide) ?_ ?_
      · refine i_ldc C dX11_as_61 kc_X11_200 kI_m1000000012 ?_
        exact i_iret C hq dX11_as_63
      · refine i_aload_n C dX11_as_46 rfl (q := 0) rfl ?_
        refine i_getR C (k := 0) kX11 dX11_as_47 (shT_0 hX) rfl (by decide) fl_X11_12 ?_
        refine i_getR C (k := 8) kX0 dX11_as_50 (shP_0 hX isC_100) rfl (by decide) fl_X11_151 ?_
        refine i_getR C (k := 4) kX9 dX11_as_53 (shP_15 hX isC_100) rfl (by decide) fl_X11_191 ?_
        refine i_iload_n C dX11_as_56 rfl (q := 1) rfl ?_
        refine i_ald C dX11_as_57 (shP_19 hX isC_100) (fun v8 => ?_)
        refine i_goto (tgt := 63) C dX11_as_58 (by decide) ?_
        exact i_iret C hq dX11_as_63
    · refine i_ldc C dX11_as_24 kc_X11_74 kI_m1000000001 ?_
      exact i_iret C hq dX11_as_26
set_option maxRecDepth 100000 in
set_option maxHeartbeats 4000000 in
theorem c_X11_change (l : Launch) (G : Gx) {K : Kx} (hK : K = kP) {x1 : Int} {x2 : Int} {M : Mem} {res : Int × Mem} (hM : OkM M) (ha : okS [aR 0, aI x1, aI x2]) (hF : pTop_change x1 x2 M = some res) : Ct l G K yX11_change (wsM yX11_change cX11_change 4 (some .int)) rmX11_change [aR 0, aI x1, aI x2] M (some (aI res.1)) res.2 := by
  refine ct_of RX11 (by decide +kernel) rfl (hK ▸ kP_ok) hM ha (Nat.le_of_ble_eq_true rfl) hF ?_
  intro X C hl hG hX0 hN hR hq
  have hX : xK X = kP := hX0.trans hK
  show Im X 0 0 0 [(0, aR 0), (1, aI x1), (2, aI x2)] [] M res (pTop_change x1 x2 M)
  unfold pTop_change
  have hl3 : 3 < xn X := by rw [hN]; decide
  have hRm : ∀ {rm : Room} {ny : Nat}, RmOk rmX11_change rm ny → RmOk (xR X) rm ny := fun h => by rw [hR]; exact h
  refine i_aload_n C dX11_change_0 rfl (q := 0) rfl ?_
  refine i_getR C (k := 0) kX11 dX11_change_1 (shT_0 hX) rfl (by decide) fl_X11_12 ?_
  refine i_getR C (k := 8) kX0 dX11_change_4 (shP_0 hX isC_100) rfl (by decide) fl_X11_151 ?_
  refine i_iload_n C dX11_change_7 rfl (q := 1) rfl ?_
  refine i_cI (kc' := 0) (ks' := 0) 0 0 2 (fun q hq hM hS => crV C (as := [aI x1]) dX11_change_8.1 kX9 (shP_15 hX isC_100) ml_X11_187 cal_X9_has cv_X9_has (hRm ⟨Nat.le_of_ble_eq_true rfl, Nat.le_of_ble_eq_true rfl⟩) rfl (Nat.le_of_ble_eq_true rfl) (c_X9_has (xl X) (xG X) hX isC_100 hM ⟨hS.2.1, hS.1, trivial⟩ hq)) (Nat.le_of_ble_eq_true rfl) (Nat.le_of_ble_eq_true rfl) rfl rfl rfl (fun v2 M1 => ?_)
  refine i_if_ne (tgt := 17) C dX11_change_11 (by decide) ?_ ?_
  · refine i_aload_n C dX11_change_17 rfl (q := 0) rfl ?_
    refine i_getR C (k := 0) kX11 dX11_change_18 (shT_0 hX) rfl (by decide) fl_X11_12 ?_
    refine i_getR C (k := 8) kX0 dX11_change_21 (shP_0 hX isC_100) rfl (by decide) fl_X11_151 ?_
    refine i_getR C (k := 1) kX9 dX11_change_24 (shP_15 hX isC_100) rfl (by decide) fl_X11_188 ?_
    refine i_iload_n C dX11_change_27 rfl (q := 1) rfl ?_
    refine i_ald C dX11_change_28 (shP_16 hX isC_100) (fun v3 => ?_)
    refine i_istore_n C dX11_change_29 rfl hl3 (L' := [(0, aR 0), (1, aI x1), (2, aI x2), (3, aI v3)]) rfl ?_
    refine i_iload_n C dX11_change_30 rfl (q := 3) rfl ?_
    refine i_iconst C dX11_change_31 kI_1 ?_
    refine i_jn (fun j => ∀  (M5 : Mem), Im X 0 0 53 [(0, aR 0), (1, aI x1), (2, aI x2), (3, aI v3)] [] M5 res (j  M5)) ?_ (fun j4 hj4 => ?_)
    · intro  M5
      refine i_iload_n C dX11_change_53 rfl (q := 3) rfl ?_
      refine i_iload_n C dX11_change_54 rfl (q := 2) rfl ?_
      refine i_cI (kc' := 0) (ks' := 0) 0 0 2 (fun q hq hM hS => crS C (as := [aI v3, aI x2]) dX11_change_55.1 ml_X11_145 cal_X9_fits st_X9_fits (hRm ⟨Nat.le_of_ble_eq_true rfl, Nat.le_of_ble_eq_true rfl⟩) rfl (Nat.le_of_ble_eq_true rfl) (c_X9_fits (xl X) (xG X) hX hM ⟨hS.2.1, hS.1, trivial⟩ hq)) (Nat.le_of_ble_eq_true rfl) (Nat.le_of_ble_eq_true rfl) rfl rfl rfl (fun v7 M6 => ?_)
      refine i_if_ne (tgt := 64) C dX11_change_58 (by decide) ?_ ?_
      · refine i_aload_n C dX11_change_64 rfl (q := 0) rfl ?_
        refine i_getR C (k := 0) kX11 dX11_change_65 (shT_0 hX) rfl (by decide) fl_X11_12 ?_
        refine i_getR C (k := 8) kX0 dX11_change_68 (shP_0 hX isC_100) rfl (by decide) fl_X11_151 ?_
        refine i_getR C (k := 4) kX9 dX11_change_71 (shP_15 hX isC_100) rfl (by decide) fl_X11_191 ?_
        refine i_iload_n C dX11_change_74 rfl (q := 1) rfl ?_
        refine i_iload_n C dX11_change_75 rfl (q := 2) rfl ?_
        refine i_cI (kc' := 0) (ks' := 0) 0 0 3 (fun q hq hM hS => crS C (as := [aR (100 + 19), aI x1, aI x2]) dX11_change_76.1 ml_X11_96 cal_X11_exchange st_X11_exchange (hRm ⟨Nat.le_of_ble_eq_true rfl, Nat.le_of_ble_eq_true rfl⟩) rfl (Nat.le_of_ble_eq_true rfl) (c_X11_exchange (xl X) (xG X) hX (shP_19 hX isC_100) hM ⟨hS.2.2.1, hS.2.1, hS.1, trivial⟩ hq)) (Nat.le_of_ble_eq_true rfl) (Nat.le_of_ble_eq_true rfl) rfl rfl rfl (fun v9 M8 => ?_)
        exact i_iret C hq dX11_change_79
      · refine i_ldc C dX11_change_61 kc_X11_74 kI_m1000000001 ?_
        exact i_iret C hq dX11_change_63
    refine i_icmp_eq (tgt := 53) C dX11_change_32 (by decide) ?_ ?_
    · exact (hj4  M1)
    · refine i_iload_n C dX11_change_35 rfl (q := 3) rfl ?_
      refine i_iconst C dX11_change_36 kI_3 ?_
      refine i_icmp_eq (tgt := 53) C dX11_change_37 (by decide) ?_ ?_
      · exact (hj4  M1)
      · refine i_iload_n C dX11_change_40 rfl (q := 3) rfl ?_
        refine i_iconst C dX11_change_41 kI_4 ?_
        refine i_icmp_eq (tgt := 53) C dX11_change_42 (by decide) ?_ ?_
        · exact (hj4  M1)
        · refine i_iload_n C dX11_change_45 rfl (q := 3) rfl ?_
          refine i_iconst C dX11_change_46 kI_5 ?_
          refine i_icmp_eq (tgt := 53) C dX11_change_47 (by decide) ?_ ?_
          · exact (hj4  M1)
          · refine i_ldc C dX11_change_50 kc_X11_200 kI_m1000000012 ?_
            exact i_iret C hq dX11_change_52
  · refine i_ldc C dX11_change_14 kc_X11_74 kI_m1000000001 ?_
    exact i_iret C hq dX11_change_16
set_option maxRecDepth 100000 in
set_option maxHeartbeats 4000000 in
theorem c_X11_gate (l : Launch) (G : Gx) {K : Kx} (hK : K = kP) {x1 : Int} {x2 : Int} {x3 : Int} {M : Mem} {res : Int × Mem} (hM : OkM M) (ha : okS [aR 0, aI x1, aI x2, aI x3]) (hF : pTop_gate x1 x2 x3 M = some res) : Ct l G K yX11_gate (wsM yX11_gate cX11_gate 4 (some .int)) rmX11_gate [aR 0, aI x1, aI x2, aI x3] M (some (aI res.1)) res.2 := by
  refine ct_of RX11 (by decide +kernel) rfl (hK ▸ kP_ok) hM ha (Nat.le_of_ble_eq_true rfl) hF ?_
  intro X C hl hG hX0 hN hR hq
  have hX : xK X = kP := hX0.trans hK
  show Im X 0 0 0 [(0, aR 0), (1, aI x1), (2, aI x2), (3, aI x3)] [] M res (pTop_gate x1 x2 x3 M)
  unfold pTop_gate
  have hRm : ∀ {rm : Room} {ny : Nat}, RmOk rmX11_gate rm ny → RmOk (xR X) rm ny := fun h => by rw [hR]; exact h
  refine i_aload_n C dX11_gate_0 rfl (q := 0) rfl ?_
  refine i_getR C (k := 0) kX11 dX11_gate_1 (shT_0 hX) rfl (by decide) fl_X11_12 ?_
  refine i_getR C (k := 8) kX0 dX11_gate_4 (shP_0 hX isC_100) rfl (by decide) fl_X11_151 ?_
  refine i_iload_n C dX11_gate_7 rfl (q := 1) rfl ?_
  refine i_cI (kc' := 0) (ks' := 0) 0 0 2 (fun q hq hM hS => crV C (as := [aI x1]) dX11_gate_8.1 kX9 (shP_15 hX isC_100) ml_X11_187 cal_X9_has cv_X9_has (hRm ⟨Nat.le_of_ble_eq_true rfl, Nat.le_of_ble_eq_true rfl⟩) rfl (Nat.le_of_ble_eq_true rfl) (c_X9_has (xl X) (xG X) hX isC_100 hM ⟨hS.2.1, hS.1, trivial⟩ hq)) (Nat.le_of_ble_eq_true rfl) (Nat.le_of_ble_eq_true rfl) rfl rfl rfl (fun v2 M1 => ?_)
  refine i_if_eq (tgt := 34) C dX11_gate_11 (by decide) ?_ ?_
  · refine i_ldc C dX11_gate_34 kc_X11_74 kI_m1000000001 ?_
    exact i_iret C hq dX11_gate_36
  · refine i_iload_n C dX11_gate_14 rfl (q := 2) rfl ?_
    refine i_iconst C dX11_gate_15 kI_0 ?_
    refine i_bipush C dX11_gate_16 kB_23 ?_
    refine i_cI (kc' := 0) (ks' := 0) 0 0 3 (fun q hq hM hS => crS C (as := [aI x2, aI 0, aI 23]) dX11_gate_18.1 ml_X11_86 cal_X11_within st_X11_within (hRm ⟨Nat.le_of_ble_eq_true rfl, Nat.le_of_ble_eq_true rfl⟩) rfl (Nat.le_of_ble_eq_true rfl) (c_X11_within (xl X) (xG X) hX hM ⟨hS.2.2.1, hS.2.1, hS.1, trivial⟩ hq)) (Nat.le_of_ble_eq_true rfl) (Nat.le_of_ble_eq_true rfl) rfl rfl rfl (fun v4 M3 => ?_)
    refine i_if_eq (tgt := 34) C dX11_gate_21 (by decide) ?_ ?_
    · refine i_ldc C dX11_gate_34 kc_X11_74 kI_m1000000001 ?_
      exact i_iret C hq dX11_gate_36
    · refine i_iload_n C dX11_gate_24 rfl (q := 3) rfl ?_
      refine i_iconst C dX11_gate_25 kI_0 ?_
      refine i_bipush C dX11_gate_26 kB_23 ?_
      refine i_cI (kc' := 0) (ks' := 0) 0 0 3 (fun q hq hM hS => crS C (as := [aI x3, aI 0, aI 23]) dX11_gate_28.1 ml_X11_86 cal_X11_within st_X11_within (hRm ⟨Nat.le_of_ble_eq_true rfl, Nat.le_of_ble_eq_true rfl⟩) rfl (Nat.le_of_ble_eq_true rfl) (c_X11_within (xl X) (xG X) hX hM ⟨hS.2.2.1, hS.2.1, hS.1, trivial⟩ hq)) (Nat.le_of_ble_eq_true rfl) (Nat.le_of_ble_eq_true rfl) rfl rfl rfl (fun v6 M5 => ?_)
      refine i_if_ne (tgt := 37) C dX11_gate_31 (by decide) ?_ ?_
      · refine i_aload_n C dX11_gate_37 rfl (q := 0) rfl ?_
        refine i_getR C (k := 0) kX11 dX11_gate_38 (shT_0 hX) rfl (by decide) fl_X11_12 ?_
        refine i_getR C (k := 8) kX0 dX11_gate_41 (shP_0 hX isC_100) rfl (by decide) fl_X11_151 ?_
        refine i_getR C (k := 1) kX9 dX11_gate_44 (shP_15 hX isC_100) rfl (by decide) fl_X11_188 ?_
        refine i_iload_n C dX11_gate_47 rfl (q := 1) rfl ?_
        refine i_ald C dX11_gate_48 (shP_16 hX isC_100) (fun v7 => ?_)
        refine i_iconst C dX11_gate_49 kI_1 ?_
        refine i_icmp_eq (tgt := 56) C dX11_gate_50 (by decide) ?_ ?_
        · refine i_aload_n C dX11_gate_56 rfl (q := 0) rfl ?_
          refine i_getR C (k := 0) kX11 dX11_gate_57 (shT_0 hX) rfl (by decide) fl_X11_12 ?_
          refine i_getR C (k := 8) kX0 dX11_gate_60 (shP_0 hX isC_100) rfl (by decide) fl_X11_151 ?_
          refine i_getR C (k := 5) kX9 dX11_gate_63 (shP_15 hX isC_100) rfl (by decide) fl_X11_163 ?_
          refine i_iload_n C dX11_gate_66 rfl (q := 1) rfl ?_
          refine i_iload_n C dX11_gate_67 rfl (q := 2) rfl ?_
          refine i_ast C dX11_gate_68 (shP_20 hX isC_100) (fun M8 => ?_)
          refine i_aload_n C dX11_gate_69 rfl (q := 0) rfl ?_
          refine i_getR C (k := 0) kX11 dX11_gate_70 (shT_0 hX) rfl (by decide) fl_X11_12 ?_
          refine i_getR C (k := 8) kX0 dX11_gate_73 (shP_0 hX isC_100) rfl (by decide) fl_X11_151 ?_
          refine i_getR C (k := 6) kX9 dX11_gate_76 (shP_15 hX isC_100) rfl (by decide) fl_X11_166 ?_
          refine i_iload_n C dX11_gate_79 rfl (q := 1) rfl ?_
          refine i_iload_n C dX11_gate_80 rfl (q := 3) rfl ?_
          refine i_ast C dX11_gate_81 (shP_21 hX isC_100) (fun M9 => ?_)
          refine i_iconst C dX11_gate_82 kI_1 ?_
          exact i_iret C hq dX11_gate_83
        · refine i_ldc C dX11_gate_53 kc_X11_200 kI_m1000000012 ?_
          exact i_iret C hq dX11_gate_55
      · refine i_ldc C dX11_gate_34 kc_X11_74 kI_m1000000001 ?_
        exact i_iret C hq dX11_gate_36
set_option maxRecDepth 100000 in
set_option maxHeartbeats 4000000 in
theorem c_X11_kinship (l : Launch) (G : Gx) {K : Kx} (hK : K = kP) {x1 : Int} {x2 : Int} {M : Mem} {res : Int × Mem} (hM : OkM M) (ha : okS [aR 0, aI x1, aI x2]) (hF : pTop_kinship x1 x2 M = some res) : Ct l G K yX11_kinship (wsM yX11_kinship cX11_kinship 3 (some .int)) rmX11_kinship [aR 0, aI x1, aI x2] M (some (aI res.1)) res.2 := by
  refine ct_of RX11 (by decide +kernel) rfl (hK ▸ kP_ok) hM ha (Nat.le_of_ble_eq_true rfl) hF ?_
  intro X C hl hG hX0 hN hR hq
  have hX : xK X = kP := hX0.trans hK
  show Im X 0 0 0 [(0, aR 0), (1, aI x1), (2, aI x2)] [] M res (pTop_kinship x1 x2 M)
  unfold pTop_kinship
  have hRm : ∀ {rm : Room} {ny : Nat}, RmOk rmX11_kinship rm ny → RmOk (xR X) rm ny := fun h => by rw [hR]; exact h
  refine i_aload_n C dX11_kinship_0 rfl (q := 0) rfl ?_
  refine i_getR C (k := 0) kX11 dX11_kinship_1 (shT_0 hX) rfl (by decide) fl_X11_12 ?_
  refine i_getR C (k := 7) kX0 dX11_kinship_4 (shP_0 hX isC_100) rfl (by decide) fl_X11_100 ?_
  refine i_iload_n C dX11_kinship_7 rfl (q := 1) rfl ?_
  refine i_cI (kc' := 0) (ks' := 0) 0 0 2 (fun q hq hM hS => crV C (as := [aI x1]) dX11_kinship_8.1 kX6 (shP_6 hX isC_100) ml_X11_113 cal_X6_has cv_X6_has (hRm ⟨Nat.le_of_ble_eq_true rfl, Nat.le_of_ble_eq_true rfl⟩) rfl (Nat.le_of_ble_eq_true rfl) (c_X6_has (xl X) (xG X) hX isC_100 hM ⟨hS.2.1, hS.1, trivial⟩ hq)) (Nat.le_of_ble_eq_true rfl) (Nat.le_of_ble_eq_true rfl) rfl rfl rfl (fun v2 M1 => ?_)
  refine i_if_eq (tgt := 33) C dX11_kinship_11 (by decide) ?_ ?_
  · refine i_ldc C dX11_kinship_33 kc_X11_74 kI_m1000000001 ?_
    exact i_iret C hq dX11_kinship_35
  · refine i_aload_n C dX11_kinship_14 rfl (q := 0) rfl ?_
    refine i_getR C (k := 0) kX11 dX11_kinship_15 (shT_0 hX) rfl (by decide) fl_X11_12 ?_
    refine i_getR C (k := 7) kX0 dX11_kinship_18 (shP_0 hX isC_100) rfl (by decide) fl_X11_100 ?_
    refine i_iload_n C dX11_kinship_21 rfl (q := 2) rfl ?_
    refine i_cI (kc' := 0) (ks' := 0) 0 0 2 (fun q hq hM hS => crV C (as := [aI x2]) dX11_kinship_22.1 kX6 (shP_6 hX isC_100) ml_X11_113 cal_X6_has cv_X6_has (hRm ⟨Nat.le_of_ble_eq_true rfl, Nat.le_of_ble_eq_true rfl⟩) rfl (Nat.le_of_ble_eq_true rfl) (c_X6_has (xl X) (xG X) hX isC_100 hM ⟨hS.2.1, hS.1, trivial⟩ hq)) (Nat.le_of_ble_eq_true rfl) (Nat.le_of_ble_eq_true rfl) rfl rfl rfl (fun v4 M3 => ?_)
    refine i_if_eq (tgt := 33) C dX11_kinship_25 (by decide) ?_ ?_
    · refine i_ldc C dX11_kinship_33 kc_X11_74 kI_m1000000001 ?_
      exact i_iret C hq dX11_kinship_35
    · refine i_iload_n C dX11_kinship_28 rfl (q := 1) rfl ?_
      refine i_iload_n C dX11_kinship_29 rfl (q := 2) rfl ?_
      refine i_icmp_ne (tgt := 36) C dX11_kinship_30 (by decide) ?_ ?_
      · refine i_aload_n C dX11_kinship_36 rfl (q := 0) rfl ?_
        refine i_getR C (k := 0) kX11 dX11_kinship_37 (shT_0 hX) rfl (by decide) fl_X11_12 ?_
        refine i_getR C (k := 8) kX0 dX11_kinship_40 (shP_0 hX isC_100) rfl (by decide) fl_X11_151 ?_
        refine i_iload_n C dX11_kinship_43 rfl (q := 1) rfl ?_
        refine i_iload_n C dX11_kinship_44 rfl (q := 2) rfl ?_
        refine i_cI (kc' := 0) (ks' := 0) 0 0 3 (fun q hq hM hS => crV C (as := [aI x1, aI x2]) dX11_kinship_45.1 kX9 (shP_15 hX isC_100) ml_X11_201 cal_X9_kinOf cv_X9_kinOf (hRm ⟨Nat.le_of_ble_eq_true rfl, Nat.le_of_ble_eq_true rfl⟩) rfl (Nat.le_of_ble_eq_true rfl) (c_X9_kinOf (xl X) (xG X) hX isC_100 hM ⟨hS.2.2.1, hS.2.1, hS.1, trivial⟩ hq)) (Nat.le_of_ble_eq_true rfl) (Nat.le_of_ble_eq_true rfl) rfl rfl rfl (fun v6 M5 => ?_)
        exact i_iret C hq dX11_kinship_48
      · refine i_ldc C dX11_kinship_33 kc_X11_74 kI_m1000000001 ?_
        exact i_iret C hq dX11_kinship_35
set_option maxRecDepth 100000 in
set_option maxHeartbeats 4000000 in
theorem c_X11_take (l : Launch) (G : Gx) {K : Kx} (hK : K = kP) {x1 : Int} {M : Mem} {res : Int × Mem} (hM : OkM M) (ha : okS [aR 0, aI x1]) (hF : pTop_take x1 M = some res) : Ct l G K yX11_take (wsM yX11_take cX11_take 2 (some .int)) rmX11_take [aR 0, aI x1] M (some (aI res.1)) res.2 := by
  refine ct_of RX11 (by decide +kernel) rfl (hK ▸ kP_ok) hM ha (Nat.le_of_ble_eq_true rfl) hF ?_
  intro X C hl hG hX0 hN hR hq
  have hX : xK X = kP := hX0.trans hK
  show Im X 0 0 0 [(0, aR 0), (1, aI x1)] [] M res (pTop_take x1 M)
  unfold pTop_take
  have hRm : ∀ {rm : Room} {ny : Nat}, RmOk rmX11_take rm ny → RmOk (xR X) rm ny := fun h => by rw [hR]; exact h
  refine i_aload_n C dX11_take_0 rfl (q := 0) rfl ?_
  refine i_getR C (k := 0) kX11 dX11_take_1 (shT_0 hX) rfl (by decide) fl_X11_12 ?_
  refine i_getR C (k := 8) kX0 dX11_take_4 (shP_0 hX isC_100) rfl (by decide) fl_X11_151 ?_
  refine i_iload_n C dX11_take_7 rfl (q := 1) rfl ?_
  refine i_bipush C dX11_take_8 kB_6 ?_
  refine i_cI (kc' := 0) (ks' := 0) 0 0 3 (fun q hq hM hS => crV C (as := [aI x1, aI 6]) dX11_take_10.1 kX9 (shP_15 hX isC_100) ml_X11_169 cal_X9_isOf cv_X9_isOf (hRm ⟨Nat.le_of_ble_eq_true rfl, Nat.le_of_ble_eq_true rfl⟩) rfl (Nat.le_of_ble_eq_true rfl) (c_X9_isOf (xl X) (xG X) hX isC_100 hM ⟨hS.2.2.1, hS.2.1, hS.1, trivial⟩ hq)) (Nat.le_of_ble_eq_true rfl) (Nat.le_of_ble_eq_true rfl) rfl rfl rfl (fun v2 M1 => ?_)
  refine i_if_ne (tgt := 19) C dX11_take_13 (by decide) ?_ ?_
  · refine i_aload_n C dX11_take_19 rfl (q := 0) rfl ?_
    refine i_getR C (k := 0) kX11 dX11_take_20 (shT_0 hX) rfl (by decide) fl_X11_12 ?_
    refine i_getR C (k := 8) kX0 dX11_take_23 (shP_0 hX isC_100) rfl (by decide) fl_X11_151 ?_
    refine i_getR C (k := 7) kX9 dX11_take_26 (shP_15 hX isC_100) rfl (by decide) fl_X11_172 ?_
    refine i_iload_n C dX11_take_29 rfl (q := 1) rfl ?_
    refine i_ald C dX11_take_30 (shP_22 hX isC_100) (fun v3 => ?_)
    refine i_if_eq (tgt := 37) C dX11_take_31 (by decide) ?_ ?_
    · refine i_aload_n C dX11_take_37 rfl (q := 0) rfl ?_
      refine i_getR C (k := 0) kX11 dX11_take_38 (shT_0 hX) rfl (by decide) fl_X11_12 ?_
      refine i_iload_n C dX11_take_41 rfl (q := 1) rfl ?_
      refine i_iconst C dX11_take_42 kI_3 ?_
      refine i_cV (kc' := 0) (ks' := 0) 0 0 3 (fun q hq hM hS => crV C (as := [aI x1, aI 3]) dX11_take_43.1 kX0 (shP_0 hX isC_100) ml_X11_204 cal_X0_closePass cv_X0_closePass (hRm ⟨Nat.le_of_ble_eq_true rfl, Nat.le_of_ble_eq_true rfl⟩) rfl (Nat.le_of_ble_eq_true rfl) (c_X0_closePass (xl X) (xG X) hX isC_100 hM ⟨hS.2.2.1, hS.2.1, hS.1, trivial⟩ hq)) (Nat.le_of_ble_eq_true rfl) (Nat.le_of_ble_eq_true rfl) rfl rfl rfl (fun M4 => ?_)
      refine i_iconst C dX11_take_46 kI_1 ?_
      exact i_iret C hq dX11_take_47
    · refine i_ldc C dX11_take_34 kc_X11_140 kI_m1000000002 ?_
      exact i_iret C hq dX11_take_36
  · refine i_ldc C dX11_take_16 kc_X11_74 kI_m1000000001 ?_
    exact i_iret C hq dX11_take_18
set_option maxRecDepth 100000 in
set_option maxHeartbeats 4000000 in
theorem c_X11_why (l : Launch) (G : Gx) {K : Kx} (hK : K = kP) {x1 : Int} {M : Mem} {res : Int × Mem} (hM : OkM M) (ha : okS [aR 0, aI x1]) (hF : pTop_why x1 M = some res) : Ct l G K yX11_why (wsM yX11_why cX11_why 2 (some .int)) rmX11_why [aR 0, aI x1] M (some (aI res.1)) res.2 := by
  refine ct_of RX11 (by decide +kernel) rfl (hK ▸ kP_ok) hM ha (Nat.le_of_ble_eq_true rfl) hF ?_
  intro X C hl hG hX0 hN hR hq
  have hX : xK X = kP := hX0.trans hK
  show Im X 0 0 0 [(0, aR 0), (1, aI x1)] [] M res (pTop_why x1 M)
  unfold pTop_why
  have hRm : ∀ {rm : Room} {ny : Nat}, RmOk rmX11_why rm ny → RmOk (xR X) rm ny := fun h => by rw [hR]; exact h
  refine i_aload_n C dX11_why_0 rfl (q := 0) rfl ?_
  refine i_getR C (k := 0) kX11 dX11_why_1 (shT_0 hX) rfl (by decide) fl_X11_12 ?_
  refine i_getR C (k := 8) kX0 dX11_why_4 (shP_0 hX isC_100) rfl (by decide) fl_X11_151 ?_
  refine i_iload_n C dX11_why_7 rfl (q := 1) rfl ?_
  refine i_bipush C dX11_why_8 kB_6 ?_
  refine i_cI (kc' := 0) (ks' := 0) 0 0 3 (fun q hq hM hS => crV C (as := [aI x1, aI 6]) dX11_why_10.1 kX9 (shP_15 hX isC_100) ml_X11_169 cal_X9_isOf cv_X9_isOf (hRm ⟨Nat.le_of_ble_eq_true rfl, Nat.le_of_ble_eq_true rfl⟩) rfl (Nat.le_of_ble_eq_true rfl) (c_X9_isOf (xl X) (xG X) hX isC_100 hM ⟨hS.2.2.1, hS.2.1, hS.1, trivial⟩ hq)) (Nat.le_of_ble_eq_true rfl) (Nat.le_of_ble_eq_true rfl) rfl rfl rfl (fun v2 M1 => ?_)
  refine i_if_eq (tgt := 27) C dX11_why_13 (by decide) ?_ ?_
  · refine i_ldc C dX11_why_27 kc_X11_74 kI_m1000000001 ?_
    exact i_iret C hq dX11_why_29
  · refine i_aload_n C dX11_why_16 rfl (q := 0) rfl ?_
    refine i_getR C (k := 0) kX11 dX11_why_17 (shT_0 hX) rfl (by decide) fl_X11_12 ?_
    refine i_iload_n C dX11_why_20 rfl (q := 1) rfl ?_
    refine i_cI (kc' := 0) (ks' := 0) 0 0 2 (fun q hq hM hS => crV C (as := [aI x1]) dX11_why_21.1 kX0 (shP_0 hX isC_100) ml_X11_208 cal_X0_whyNot cv_X0_whyNot (hRm ⟨Nat.le_of_ble_eq_true rfl, Nat.le_of_ble_eq_true rfl⟩) rfl (Nat.le_of_ble_eq_true rfl) (c_X0_whyNot (xl X) (xG X) hX isC_100 hM ⟨hS.2.1, hS.1, trivial⟩ hq)) (Nat.le_of_ble_eq_true rfl) (Nat.le_of_ble_eq_true rfl) rfl rfl rfl (fun v4 M3 => ?_)
    refine i_goto (tgt := 29) C dX11_why_24 (by decide) ?_
    exact i_iret C hq dX11_why_29
set_option maxRecDepth 100000 in
set_option maxHeartbeats 4000000 in
theorem c_X11_ask (l : Launch) (G : Gx) {K : Kx} (hK : K = kP) {x1 : Int} {x2 : Int} {M : Mem} {res : Int × Mem} (hM : OkM M) (ha : okS [aR 0, aI x1, aI x2]) (hF : pTop_ask x1 x2 M = some res) : Ct l G K yX11_ask (wsM yX11_ask cX11_ask 3 (some .int)) rmX11_ask [aR 0, aI x1, aI x2] M (some (aI res.1)) res.2 := by
  refine ct_of RX11 (by decide +kernel) rfl (hK ▸ kP_ok) hM ha (Nat.le_of_ble_eq_true rfl) hF ?_
  intro X C hl hG hX0 hN hR hq
  have hX : xK X = kP := hX0.trans hK
  show Im X 0 0 0 [(0, aR 0), (1, aI x1), (2, aI x2)] [] M res (pTop_ask x1 x2 M)
  unfold pTop_ask
  have hRm : ∀ {rm : Room} {ny : Nat}, RmOk rmX11_ask rm ny → RmOk (xR X) rm ny := fun h => by rw [hR]; exact h
  refine i_aload_n C dX11_ask_0 rfl (q := 0) rfl ?_
  refine i_getR C (k := 0) kX11 dX11_ask_1 (shT_0 hX) rfl (by decide) fl_X11_12 ?_
  refine i_getR C (k := 8) kX0 dX11_ask_4 (shP_0 hX isC_100) rfl (by decide) fl_X11_151 ?_
  refine i_iload_n C dX11_ask_7 rfl (q := 1) rfl ?_
  refine i_bipush C dX11_ask_8 kB_6 ?_
  refine i_cI (kc' := 0) (ks' := 0) 0 0 3 (fun q hq hM hS => crV C (as := [aI x1, aI 6]) dX11_ask_10.1 kX9 (shP_15 hX isC_100) ml_X11_169 cal_X9_isOf cv_X9_isOf (hRm ⟨Nat.le_of_ble_eq_true rfl, Nat.le_of_ble_eq_true rfl⟩) rfl (Nat.le_of_ble_eq_true rfl) (c_X9_isOf (xl X) (xG X) hX isC_100 hM ⟨hS.2.2.1, hS.2.1, hS.1, trivial⟩ hq)) (Nat.le_of_ble_eq_true rfl) (Nat.le_of_ble_eq_true rfl) rfl rfl rfl (fun v2 M1 => ?_)
  refine i_if_eq (tgt := 31) C dX11_ask_13 (by decide) ?_ ?_
  · refine i_ldc C dX11_ask_31 kc_X11_74 kI_m1000000001 ?_
    exact i_iret C hq dX11_ask_33
  · refine i_aload_n C dX11_ask_16 rfl (q := 0) rfl ?_
    refine i_getR C (k := 0) kX11 dX11_ask_17 (shT_0 hX) rfl (by decide) fl_X11_12 ?_
    refine i_getR C (k := 8) kX0 dX11_ask_20 (shP_0 hX isC_100) rfl (by decide) fl_X11_151 ?_
    refine i_iload_n C dX11_ask_23 rfl (q := 2) rfl ?_
    refine i_iconst C dX11_ask_24 kI_1 ?_
    refine i_cI (kc' := 0) (ks' := 0) 0 0 3 (fun q hq hM hS => crV C (as := [aI x2, aI 1]) dX11_ask_25.1 kX9 (shP_15 hX isC_100) ml_X11_169 cal_X9_isOf cv_X9_isOf (hRm ⟨Nat.le_of_ble_eq_true rfl, Nat.le_of_ble_eq_true rfl⟩) rfl (Nat.le_of_ble_eq_true rfl) (c_X9_isOf (xl X) (xG X) hX isC_100 hM ⟨hS.2.2.1, hS.2.1, hS.1, trivial⟩ hq)) (Nat.le_of_ble_eq_true rfl) (Nat.le_of_ble_eq_true rfl) rfl rfl rfl (fun v4 M3 => ?_)
    refine i_if_ne (tgt := 34) C dX11_ask_28 (by decide) ?_ ?_
    · refine i_aload_n C dX11_ask_34 rfl (q := 0) rfl ?_
      refine i_getR C (k := 0) kX11 dX11_ask_35 (shT_0 hX) rfl (by decide) fl_X11_12 ?_
      refine i_iload_n C dX11_ask_38 rfl (q := 1) rfl ?_
      refine i_cI (kc' := 0) (ks' := 0) 0 0 2 (fun q hq hM hS => crV C (as := [aI x1]) dX11_ask_39.1 kX0 (shP_0 hX isC_100) ml_X11_208 cal_X0_whyNot cv_X0_whyNot (hRm ⟨Nat.le_of_ble_eq_true rfl, Nat.le_of_ble_eq_true rfl⟩) rfl (Nat.le_of_ble_eq_true rfl) (c_X0_whyNot (xl X) (xG X) hX isC_100 hM ⟨hS.2.1, hS.1, trivial⟩ hq)) (Nat.le_of_ble_eq_true rfl) (Nat.le_of_ble_eq_true rfl) rfl rfl rfl (fun v6 M5 => ?_)
      refine i_if_eq (tgt := 48) C dX11_ask_42 (by decide) ?_ ?_
      · refine i_aload_n C dX11_ask_48 rfl (q := 0) rfl ?_
        refine i_getR C (k := 0) kX11 dX11_ask_49 (shT_0 hX) rfl (by decide) fl_X11_12 ?_
        refine i_getR C (k := 7) kX0 dX11_ask_52 (shP_0 hX isC_100) rfl (by decide) fl_X11_100 ?_
        refine i_aload_n C dX11_ask_55 rfl (q := 0) rfl ?_
        refine i_getR C (k := 0) kX11 dX11_ask_56 (shT_0 hX) rfl (by decide) fl_X11_12 ?_
        refine i_getR C (k := 8) kX0 dX11_ask_59 (shP_0 hX isC_100) rfl (by decide) fl_X11_151 ?_
        refine i_getR C (k := 2) kX9 dX11_ask_62 (shP_15 hX isC_100) rfl (by decide) fl_X11_175 ?_
        refine i_iload_n C dX11_ask_65 rfl (q := 1) rfl ?_
        refine i_ald C dX11_ask_66 (shP_17 hX isC_100) (fun v7 => ?_)
        refine i_iload_n C dX11_ask_67 rfl (q := 2) rfl ?_
        refine i_iload_n C dX11_ask_68 rfl (q := 1) rfl ?_
        refine i_cV (kc' := 0) (ks' := 0) 0 0 4 (fun q hq hM hS => crV C (as := [aI v7, aI x2, aI x1]) dX11_ask_69.1 kX6 (shP_6 hX isC_100) ml_X11_211 cal_X6_joinLine cv_X6_joinLine (hRm ⟨Nat.le_of_ble_eq_true rfl, Nat.le_of_ble_eq_true rfl⟩) rfl (Nat.le_of_ble_eq_true rfl) (c_X6_joinLine (xl X) (xG X) hX isC_100 hM ⟨hS.2.2.2.1, hS.2.2.1, hS.2.1, hS.1, trivial⟩ hq)) (Nat.le_of_ble_eq_true rfl) (Nat.le_of_ble_eq_true rfl) rfl rfl rfl (fun M8 => ?_)
        refine i_aload_n C dX11_ask_72 rfl (q := 0) rfl ?_
        refine i_getR C (k := 0) kX11 dX11_ask_73 (shT_0 hX) rfl (by decide) fl_X11_12 ?_
        refine i_getR C (k := 7) kX0 dX11_ask_76 (shP_0 hX isC_100) rfl (by decide) fl_X11_100 ?_
        refine i_iload_n C dX11_ask_79 rfl (q := 2) rfl ?_
        refine i_cI (kc' := 0) (ks' := 0) 0 0 2 (fun q hq hM hS => crV C (as := [aI x2]) dX11_ask_80.1 kX6 (shP_6 hX isC_100) ml_X11_215 cal_X6_linedAt cv_X6_linedAt (hRm ⟨Nat.le_of_ble_eq_true rfl, Nat.le_of_ble_eq_true rfl⟩) rfl (Nat.le_of_ble_eq_true rfl) (c_X6_linedAt (xl X) (xG X) hX isC_100 hM ⟨hS.2.1, hS.1, trivial⟩ hq)) (Nat.le_of_ble_eq_true rfl) (Nat.le_of_ble_eq_true rfl) rfl rfl rfl (fun v10 M9 => ?_)
        exact i_iret C hq dX11_ask_83
      · refine i_ldc C dX11_ask_45 kc_X11_140 kI_m1000000002 ?_
        exact i_iret C hq dX11_ask_47
    · refine i_ldc C dX11_ask_31 kc_X11_74 kI_m1000000001 ?_
      exact i_iret C hq dX11_ask_33
set_option maxRecDepth 100000 in
set_option maxHeartbeats 4000000 in
theorem c_X11_letter (l : Launch) (G : Gx) {K : Kx} (hK : K = kP) {x1 : Int} {x2 : Int} {M : Mem} {res : Int × Mem} (hM : OkM M) (ha : okS [aR 0, aI x1, aI x2]) (hF : pTop_letter x1 x2 M = some res) : Ct l G K yX11_letter (wsM yX11_letter cX11_letter 3 (some .int)) rmX11_letter [aR 0, aI x1, aI x2] M (some (aI res.1)) res.2 := by
  refine ct_of RX11 (by decide +kernel) rfl (hK ▸ kP_ok) hM ha (Nat.le_of_ble_eq_true rfl) hF ?_
  intro X C hl hG hX0 hN hR hq
  have hX : xK X = kP := hX0.trans hK
  show Im X 0 0 0 [(0, aR 0), (1, aI x1), (2, aI x2)] [] M res (pTop_letter x1 x2 M)
  unfold pTop_letter
  have hRm : ∀ {rm : Room} {ny : Nat}, RmOk rmX11_letter rm ny → RmOk (xR X) rm ny := fun h => by rw [hR]; exact h
  refine i_iload_n C dX11_letter_0 rfl (q := 1) rfl ?_
  refine i_cI (kc' := 0) (ks' := 0) 0 0 1 (fun q hq hM hS => crS C (as := [aI x1]) dX11_letter_1.1 ml_X11_70 cal_X11_isSide st_X11_isSide (hRm ⟨Nat.le_of_ble_eq_true rfl, Nat.le_of_ble_eq_true rfl⟩) rfl (Nat.le_of_ble_eq_true rfl) (c_X11_isSide (xl X) (xG X) hX hM ⟨hS.1, trivial⟩ hq)) (Nat.le_of_ble_eq_true rfl) (Nat.le_of_ble_eq_true rfl) rfl rfl rfl (fun v2 M1 => ?_)
  refine i_if_eq (tgt := 17) C dX11_letter_4 (by decide) ?_ ?_
  · refine i_ldc C dX11_letter_17 kc_X11_74 kI_m1000000001 ?_
    exact i_iret C hq dX11_letter_19
  · refine i_iload_n C dX11_letter_7 rfl (q := 2) rfl ?_
    refine i_iconst C dX11_letter_8 kI_1 ?_
    refine i_bipush C dX11_letter_9 kB_99 ?_
    refine i_cI (kc' := 0) (ks' := 0) 0 0 3 (fun q hq hM hS => crS C (as := [aI x2, aI 1, aI 99]) dX11_letter_11.1 ml_X11_86 cal_X11_within st_X11_within (hRm ⟨Nat.le_of_ble_eq_true rfl, Nat.le_of_ble_eq_true rfl⟩) rfl (Nat.le_of_ble_eq_true rfl) (c_X11_within (xl X) (xG X) hX hM ⟨hS.2.2.1, hS.2.1, hS.1, trivial⟩ hq)) (Nat.le_of_ble_eq_true rfl) (Nat.le_of_ble_eq_true rfl) rfl rfl rfl (fun v4 M3 => ?_)
    refine i_if_ne (tgt := 20) C dX11_letter_14 (by decide) ?_ ?_
    · refine i_aload_n C dX11_letter_20 rfl (q := 0) rfl ?_
      refine i_getR C (k := 0) kX11 dX11_letter_21 (shT_0 hX) rfl (by decide) fl_X11_12 ?_
      refine i_getR C (k := 9) kX0 dX11_letter_24 (shP_0 hX isC_100) rfl (by decide) fl_X11_218 ?_
      refine i_getI C (k := 0) kX7 dX11_letter_27 (shP_30 hX isC_100) rfl (by decide) fl_X11_222 rfl ?_
      refine i_bipush C dX11_letter_30 kB_20 ?_
      refine i_icmp_ne (tgt := 38) C dX11_letter_32 (by decide) ?_ ?_
      · refine i_aload_n C dX11_letter_38 rfl (q := 0) rfl ?_
        refine i_getR C (k := 0) kX11 dX11_letter_39 (shT_0 hX) rfl (by decide) fl_X11_12 ?_
        refine i_getR C (k := 9) kX0 dX11_letter_42 (shP_0 hX isC_100) rfl (by decide) fl_X11_218 ?_
        refine i_aload_n C dX11_letter_45 rfl (q := 0) rfl ?_
        refine i_getR C (k := 0) kX11 dX11_letter_46 (shT_0 hX) rfl (by decide) fl_X11_12 ?_
        refine i_getI C (k := 0) kX0 dX11_letter_49 (shP_0 hX isC_100) rfl (by decide) fl_X11_227 rfl ?_
        refine i_iload_n C dX11_letter_52 rfl (q := 2) rfl ?_
        refine i_iadd C dX11_letter_53 ?_
        refine i_iconst C dX11_letter_54 kI_1 ?_
        refine i_iload_n C dX11_letter_55 rfl (q := 1) rfl ?_
        refine i_isub C dX11_letter_56 ?_
        refine i_aload_n C dX11_letter_57 rfl (q := 0) rfl ?_
        refine i_getR C (k := 0) kX11 dX11_letter_58 (shT_0 hX) rfl (by decide) fl_X11_12 ?_
        refine i_getR C (k := 7) kX0 dX11_letter_61 (shP_0 hX isC_100) rfl (by decide) fl_X11_100 ?_
        refine i_getR C (k := 10) kX6 dX11_letter_64 (shP_6 hX isC_100) rfl (by decide) fl_X11_134 ?_
        refine i_iload_n C dX11_letter_67 rfl (q := 1) rfl ?_
        refine i_ald C dX11_letter_68 (shP_14 hX isC_100) (fun v5 => ?_)
        refine i_cI (kc' := 0) (ks' := 0) 0 0 4 (fun q hq hM hS => crV C (as := [aI (w32 ((M3 100 0) + x2)), aI (w32 (1 - x1)), aI v5]) dX11_letter_69.1 kX7 (shP_30 hX isC_100) ml_X11_230 cal_X7_addLetter cv_X7_addLetter (hRm ⟨Nat.le_of_ble_eq_true rfl, Nat.le_of_ble_eq_true rfl⟩) rfl (Nat.le_of_ble_eq_true rfl) (c_X7_addLetter (xl X) (xG X) hX isC_100 hM ⟨hS.2.2.2.1, hS.2.2.1, hS.2.1, hS.1, trivial⟩ hq)) (Nat.le_of_ble_eq_true rfl) (Nat.le_of_ble_eq_true rfl) rfl rfl rfl (fun v7 M6 => ?_)
        exact i_iret C hq dX11_letter_72
      · refine i_ldc C dX11_letter_35 kc_X11_78 kI_m1000000003 ?_
        exact i_iret C hq dX11_letter_37
    · refine i_ldc C dX11_letter_17 kc_X11_74 kI_m1000000001 ?_
      exact i_iret C hq dX11_letter_19
set_option maxRecDepth 100000 in
set_option maxHeartbeats 4000000 in
theorem c_X11_call (l : Launch) (G : Gx) {K : Kx} (hK : K = kP) {x1 : Int} {x2 : Int} {x3 : Int} {M : Mem} {res : Int × Mem} (hM : OkM M) (ha : okS [aR 0, aI x1, aI x2, aI x3]) (hF : pTop_call x1 x2 x3 M = some res) : Ct l G K yX11_call (wsM yX11_call cX11_call 4 (some .int)) rmX11_call [aR 0, aI x1, aI x2, aI x3] M (some (aI res.1)) res.2 := by
  refine ct_of RX11 (by decide +kernel) rfl (hK ▸ kP_ok) hM ha (Nat.le_of_ble_eq_true rfl) hF ?_
  intro X C hl hG hX0 hN hR hq
  have hX : xK X = kP := hX0.trans hK
  show Im X 0 0 0 [(0, aR 0), (1, aI x1), (2, aI x2), (3, aI x3)] [] M res (pTop_call x1 x2 x3 M)
  unfold pTop_call
  have hRm : ∀ {rm : Room} {ny : Nat}, RmOk rmX11_call rm ny → RmOk (xR X) rm ny := fun h => by rw [hR]; exact h
  refine i_aload_n C dX11_call_0 rfl (q := 0) rfl ?_
  refine i_getR C (k := 0) kX11 dX11_call_1 (shT_0 hX) rfl (by decide) fl_X11_12 ?_
  refine i_getR C (k := 8) kX0 dX11_call_4 (shP_0 hX isC_100) rfl (by decide) fl_X11_151 ?_
  refine i_iload_n C dX11_call_7 rfl (q := 1) rfl ?_
  refine i_iconst C dX11_call_8 kI_4 ?_
  refine i_cI (kc' := 0) (ks' := 0) 0 0 3 (fun q hq hM hS => crV C (as := [aI x1, aI 4]) dX11_call_9.1 kX9 (shP_15 hX isC_100) ml_X11_169 cal_X9_isOf cv_X9_isOf (hRm ⟨Nat.le_of_ble_eq_true rfl, Nat.le_of_ble_eq_true rfl⟩) rfl (Nat.le_of_ble_eq_true rfl) (c_X9_isOf (xl X) (xG X) hX isC_100 hM ⟨hS.2.2.1, hS.2.1, hS.1, trivial⟩ hq)) (Nat.le_of_ble_eq_true rfl) (Nat.le_of_ble_eq_true rfl) rfl rfl rfl (fun v2 M1 => ?_)
  refine i_if_eq (tgt := 35) C dX11_call_12 (by decide) ?_ ?_
  · refine i_ldc C dX11_call_35 kc_X11_74 kI_m1000000001 ?_
    exact i_iret C hq dX11_call_37
  · refine i_iload_n C dX11_call_15 rfl (q := 2) rfl ?_
    refine i_iconst C dX11_call_16 kI_0 ?_
    refine i_bipush C dX11_call_17 kB_9 ?_
    refine i_cI (kc' := 0) (ks' := 0) 0 0 3 (fun q hq hM hS => crS C (as := [aI x2, aI 0, aI 9]) dX11_call_19.1 ml_X11_86 cal_X11_within st_X11_within (hRm ⟨Nat.le_of_ble_eq_true rfl, Nat.le_of_ble_eq_true rfl⟩) rfl (Nat.le_of_ble_eq_true rfl) (c_X11_within (xl X) (xG X) hX hM ⟨hS.2.2.1, hS.2.1, hS.1, trivial⟩ hq)) (Nat.le_of_ble_eq_true rfl) (Nat.le_of_ble_eq_true rfl) rfl rfl rfl (fun v4 M3 => ?_)
    refine i_if_eq (tgt := 35) C dX11_call_22 (by decide) ?_ ?_
    · refine i_ldc C dX11_call_35 kc_X11_74 kI_m1000000001 ?_
      exact i_iret C hq dX11_call_37
    · refine i_iload_n C dX11_call_25 rfl (q := 3) rfl ?_
      refine i_iconst C dX11_call_26 kI_1 ?_
      refine i_bipush C dX11_call_27 kB_99 ?_
      refine i_cI (kc' := 0) (ks' := 0) 0 0 3 (fun q hq hM hS => crS C (as := [aI x3, aI 1, aI 99]) dX11_call_29.1 ml_X11_86 cal_X11_within st_X11_within (hRm ⟨Nat.le_of_ble_eq_true rfl, Nat.le_of_ble_eq_true rfl⟩) rfl (Nat.le_of_ble_eq_true rfl) (c_X11_within (xl X) (xG X) hX hM ⟨hS.2.2.1, hS.2.1, hS.1, trivial⟩ hq)) (Nat.le_of_ble_eq_true rfl) (Nat.le_of_ble_eq_true rfl) rfl rfl rfl (fun v6 M5 => ?_)
      refine i_if_ne (tgt := 38) C dX11_call_32 (by decide) ?_ ?_
      · refine i_aload_n C dX11_call_38 rfl (q := 0) rfl ?_
        refine i_getR C (k := 0) kX11 dX11_call_39 (shT_0 hX) rfl (by decide) fl_X11_12 ?_
        refine i_getR C (k := 9) kX0 dX11_call_42 (shP_0 hX isC_100) rfl (by decide) fl_X11_218 ?_
        refine i_getI C (k := 4) kX7 dX11_call_45 (shP_30 hX isC_100) rfl (by decide) fl_X11_233 rfl ?_
        refine i_bipush C dX11_call_48 kB_20 ?_
        refine i_icmp_ne (tgt := 56) C dX11_call_50 (by decide) ?_ ?_
        · refine i_aload_n C dX11_call_56 rfl (q := 0) rfl ?_
          refine i_getR C (k := 0) kX11 dX11_call_57 (shT_0 hX) rfl (by decide) fl_X11_12 ?_
          refine i_getR C (k := 9) kX0 dX11_call_60 (shP_0 hX isC_100) rfl (by decide) fl_X11_218 ?_
          refine i_iload_n C dX11_call_63 rfl (q := 1) rfl ?_
          refine i_iload_n C dX11_call_64 rfl (q := 2) rfl ?_
          refine i_iload_n C dX11_call_65 rfl (q := 3) rfl ?_
          refine i_cV (kc' := 0) (ks' := 0) 0 0 4 (fun q hq hM hS => crV C (as := [aI x1, aI x2, aI x3]) dX11_call_66.1 kX7 (shP_30 hX isC_100) ml_X11_236 cal_X7_addCall cv_X7_addCall (hRm ⟨Nat.le_of_ble_eq_true rfl, Nat.le_of_ble_eq_true rfl⟩) rfl (Nat.le_of_ble_eq_true rfl) (c_X7_addCall (xl X) (xG X) hX isC_100 hM ⟨hS.2.2.2.1, hS.2.2.1, hS.2.1, hS.1, trivial⟩ hq)) (Nat.le_of_ble_eq_true rfl) (Nat.le_of_ble_eq_true rfl) rfl rfl rfl (fun M7 => ?_)
          refine i_aload_n C dX11_call_69 rfl (q := 0) rfl ?_
          refine i_getR C (k := 0) kX11 dX11_call_70 (shT_0 hX) rfl (by decide) fl_X11_12 ?_
          refine i_getR C (k := 9) kX0 dX11_call_73 (shP_0 hX isC_100) rfl (by decide) fl_X11_218 ?_
          refine i_iload_n C dX11_call_76 rfl (q := 1) rfl ?_
          refine i_cI (kc' := 0) (ks' := 0) 0 0 2 (fun q hq hM hS => crV C (as := [aI x1]) dX11_call_77.1 kX7 (shP_30 hX isC_100) ml_X11_239 cal_X7_callsFor cv_X7_callsFor (hRm ⟨Nat.le_of_ble_eq_true rfl, Nat.le_of_ble_eq_true rfl⟩) rfl (Nat.le_of_ble_eq_true rfl) (c_X7_callsFor (xl X) (xG X) hX isC_100 hM ⟨hS.2.1, hS.1, trivial⟩ hq)) (Nat.le_of_ble_eq_true rfl) (Nat.le_of_ble_eq_true rfl) rfl rfl rfl (fun v9 M8 => ?_)
          exact i_iret C hq dX11_call_80
        · refine i_ldc C dX11_call_53 kc_X11_78 kI_m1000000003 ?_
          exact i_iret C hq dX11_call_55
      · refine i_ldc C dX11_call_35 kc_X11_74 kI_m1000000001 ?_
        exact i_iret C hq dX11_call_37
set_option maxRecDepth 100000 in
set_option maxHeartbeats 4000000 in
theorem w_X11_run_33 {X : Xc} (C : Cx X RX11 cX11_run (some .int)) (hX : xK X = kP) (hN : xn X = 3) (hR : xR X = rmX11_run) {res : Int × Mem} (hq : Rq X (some (aI res.1)) res.2) (y1 : Int) : ∀ (n : Nat) (u2 : Int) (M : Mem), Im X 0 0 33 [(0, aR 0), (1, aI y1), (2, aI u2)] [] M res (lpX11_run_33 y1 n u2 M) := by
  have hl2 : 2 < xn X := by rw [hN]; decide
  have hRm : ∀ {rm : Room} {ny : Nat}, RmOk rmX11_run rm ny → RmOk (xR X) rm ny := fun h => by rw [hR]; exact h
  intro n
  induction n with
  | zero => intro _ _; exact i_none
  | succ n ih =>
    intro u2 M
    unfold lpX11_run_33
    refine i_iload_n C dX11_run_33 rfl (q := 2) rfl ?_
    refine i_iload_n C dX11_run_34 rfl (q := 1) rfl ?_
    refine i_icmp_ge (tgt := 51) C dX11_run_35 (by decide) ?_ ?_
    · refine i_aload_n C dX11_run_51 rfl (q := 0) rfl ?_
      refine i_getR C (k := 0) kX11 dX11_run_52 (shT_0 hX) rfl (by decide) fl_X11_12 ?_
      refine i_getI C (k := 0) kX0 dX11_run_55 (shP_0 hX isC_100) rfl (by decide) fl_X11_227 rfl ?_
      exact i_iret C hq dX11_run_58
    · refine i_aload_n C dX11_run_38 rfl (q := 0) rfl ?_
      refine i_getR C (k := 0) kX11 dX11_run_39 (shT_0 hX) rfl (by decide) fl_X11_12 ?_
      refine i_cV (kc' := 0) (ks' := 0) 0 0 1 (fun q hq hM hS => crV C (as := []) dX11_run_42.1 kX0 (shP_0 hX isC_100) ml_X11_242 cal_X0_passHour cv_X0_passHour (hRm ⟨Nat.le_of_ble_eq_true rfl, Nat.le_of_ble_eq_true rfl⟩) rfl (Nat.le_of_ble_eq_true rfl) (c_X0_passHour (xl X) (xG X) hX isC_100 hM ⟨hS.1, trivial⟩ hq)) (Nat.le_of_ble_eq_true rfl) (Nat.le_of_ble_eq_true rfl) rfl rfl rfl (fun M3 => ?_)
      refine i_iincN (L' := fun v4 => [(0, aR 0), (1, aI y1), (2, aI v4)]) C dX11_run_45 (q := 2) rfl hl2 (fun _ => rfl) (fun v4 => ?_)
      refine i_goto (tgt := 33) C dX11_run_48 (by decide) ?_
      exact (ih v4 M3)
set_option maxRecDepth 100000 in
set_option maxHeartbeats 4000000 in
theorem c_X11_run (l : Launch) (G : Gx) {K : Kx} (hK : K = kP) {x1 : Int} {M : Mem} {res : Int × Mem} (hM : OkM M) (ha : okS [aR 0, aI x1]) (hF : pTop_run x1 M = some res) : Ct l G K yX11_run (wsM yX11_run cX11_run 3 (some .int)) rmX11_run [aR 0, aI x1] M (some (aI res.1)) res.2 := by
  refine ct_of RX11 (by decide +kernel) rfl (hK ▸ kP_ok) hM ha (Nat.le_of_ble_eq_true rfl) hF ?_
  intro X C hl hG hX0 hN hR hq
  have hX : xK X = kP := hX0.trans hK
  show Im X 0 0 0 [(0, aR 0), (1, aI x1)] [] M res (pTop_run x1 M)
  unfold pTop_run
  have hl2 : 2 < xn X := by rw [hN]; decide
  have hRm : ∀ {rm : Room} {ny : Nat}, RmOk rmX11_run rm ny → RmOk (xR X) rm ny := fun h => by rw [hR]; exact h
  refine i_iload_n C dX11_run_0 rfl (q := 1) rfl ?_
  refine i_iconst C dX11_run_1 kI_1 ?_
  refine i_bipush C dX11_run_2 kB_100 ?_
  refine i_cI (kc' := 0) (ks' := 0) 0 0 3 (fun q hq hM hS => crS C (as := [aI x1, aI 1, aI 100]) dX11_run_4.1 ml_X11_86 cal_X11_within st_X11_within (hRm ⟨Nat.le_of_ble_eq_true rfl, Nat.le_of_ble_eq_true rfl⟩) rfl (Nat.le_of_ble_eq_true rfl) (c_X11_within (xl X) (xG X) hX hM ⟨hS.2.2.1, hS.2.1, hS.1, trivial⟩ hq)) (Nat.le_of_ble_eq_true rfl) (Nat.le_of_ble_eq_true rfl) rfl rfl rfl (fun v2 M1 => ?_)
  refine i_if_ne (tgt := 13) C dX11_run_7 (by decide) ?_ ?_
  · refine i_aload_n C dX11_run_13 rfl (q := 0) rfl ?_
    refine i_getR C (k := 0) kX11 dX11_run_14 (shT_0 hX) rfl (by decide) fl_X11_12 ?_
    refine i_getI C (k := 0) kX0 dX11_run_17 (shP_0 hX isC_100) rfl (by decide) fl_X11_227 rfl ?_
    refine i_iload_n C dX11_run_20 rfl (q := 1) rfl ?_
    refine i_iadd C dX11_run_21 ?_
    refine i_sipush C dX11_run_22 kS_9999 ?_
    refine i_icmp_le (tgt := 31) C dX11_run_25 (by decide) ?_ ?_
    · refine i_iconst C dX11_run_31 kI_0 ?_
      refine i_istore_n C dX11_run_32 rfl hl2 (L' := [(0, aR 0), (1, aI x1), (2, aI 0)]) rfl ?_
      exact (w_X11_run_33 C hX hN hR hq x1 FU 0 M1)
    · refine i_ldc C dX11_run_28 kc_X11_78 kI_m1000000003 ?_
      exact i_iret C hq dX11_run_30
  · refine i_ldc C dX11_run_10 kc_X11_74 kI_m1000000001 ?_
    exact i_iret C hq dX11_run_12
set_option maxRecDepth 100000 in
set_option maxHeartbeats 4000000 in
theorem c_X11_feed (l : Launch) (G : Gx) {K : Kx} (hK : K = kP) {x1 : Int} {x2 : Int} {x3 : Int} {M : Mem} {res : Int × Mem} (hM : OkM M) (ha : okS [aR 0, aI x1, aI x2, aI x3]) (hF : pTop_feed x1 x2 x3 M = some res) : Ct l G K yX11_feed (wsM yX11_feed cX11_feed 4 (some .int)) rmX11_feed [aR 0, aI x1, aI x2, aI x3] M (some (aI res.1)) res.2 := by
  refine ct_of RX11 (by decide +kernel) rfl (hK ▸ kP_ok) hM ha (Nat.le_of_ble_eq_true rfl) hF ?_
  intro X C hl hG hX0 hN hR hq
  have hX : xK X = kP := hX0.trans hK
  show Im X 0 0 0 [(0, aR 0), (1, aI x1), (2, aI x2), (3, aI x3)] [] M res (pTop_feed x1 x2 x3 M)
  unfold pTop_feed
  have hRm : ∀ {rm : Room} {ny : Nat}, RmOk rmX11_feed rm ny → RmOk (xR X) rm ny := fun h => by rw [hR]; exact h
  refine i_aload_n C dX11_feed_0 rfl (q := 0) rfl ?_
  refine i_getR C (k := 4) kX11 dX11_feed_1 (shT_0 hX) rfl (by decide) fl_X11_29 ?_
  refine i_getI C (k := 0) kX8 dX11_feed_4 (shT_1 hX) rfl (by decide) fl_X11_245 rfl ?_
  refine i_bipush C dX11_feed_7 kB_12 ?_
  refine i_iadd C dX11_feed_9 ?_
  refine i_bipush C dX11_feed_10 kB_96 ?_
  refine i_icmp_le (tgt := 18) C dX11_feed_12 (by decide) ?_ ?_
  · refine i_aload_n C dX11_feed_18 rfl (q := 0) rfl ?_
    refine i_getR C (k := 4) kX11 dX11_feed_19 (shT_0 hX) rfl (by decide) fl_X11_29 ?_
    refine i_iload_n C dX11_feed_22 rfl (q := 1) rfl ?_
    refine i_cV (kc' := 0) (ks' := 0) 0 0 2 (fun q hq hM hS => crV C (as := [aI x1]) dX11_feed_23.1 kX8 (shT_1 hX) ml_X11_248 cal_X8_add cv_X8_add (hRm ⟨Nat.le_of_ble_eq_true rfl, Nat.le_of_ble_eq_true rfl⟩) rfl (Nat.le_of_ble_eq_true rfl) (c_X8_add (xl X) (xG X) hX hM ⟨hS.2.1, hS.1, trivial⟩ hq)) (Nat.le_of_ble_eq_true rfl) (Nat.le_of_ble_eq_true rfl) rfl rfl rfl (fun M1 => ?_)
    refine i_aload_n C dX11_feed_26 rfl (q := 0) rfl ?_
    refine i_getR C (k := 4) kX11 dX11_feed_27 (shT_0 hX) rfl (by decide) fl_X11_29 ?_
    refine i_iload_n C dX11_feed_30 rfl (q := 2) rfl ?_
    refine i_cV (kc' := 0) (ks' := 0) 0 0 2 (fun q hq hM hS => crV C (as := [aI x2]) dX11_feed_31.1 kX8 (shT_1 hX) ml_X11_248 cal_X8_add cv_X8_add (hRm ⟨Nat.le_of_ble_eq_true rfl, Nat.le_of_ble_eq_true rfl⟩) rfl (Nat.le_of_ble_eq_true rfl) (c_X8_add (xl X) (xG X) hX hM ⟨hS.2.1, hS.1, trivial⟩ hq)) (Nat.le_of_ble_eq_true rfl) (Nat.le_of_ble_eq_true rfl) rfl rfl rfl (fun M2 => ?_)
    refine i_aload_n C dX11_feed_34 rfl (q := 0) rfl ?_
    refine i_getR C (k := 4) kX11 dX11_feed_35 (shT_0 hX) rfl (by decide) fl_X11_29 ?_
    refine i_iload_n C dX11_feed_38 rfl (q := 3) rfl ?_
    refine i_cV (kc' := 0) (ks' := 0) 0 0 2 (fun q hq hM hS => crV C (as := [aI x3]) dX11_feed_39.1 kX8 (shT_1 hX) ml_X11_248 cal_X8_add cv_X8_add (hRm ⟨Nat.le_of_ble_eq_true rfl, Nat.le_of_ble_eq_true rfl⟩) rfl (Nat.le_of_ble_eq_true rfl) (c_X8_add (xl X) (xG X) hX hM ⟨hS.2.1, hS.1, trivial⟩ hq)) (Nat.le_of_ble_eq_true rfl) (Nat.le_of_ble_eq_true rfl) rfl rfl rfl (fun M3 => ?_)
    refine i_aload_n C dX11_feed_42 rfl (q := 0) rfl ?_
    refine i_getR C (k := 4) kX11 dX11_feed_43 (shT_0 hX) rfl (by decide) fl_X11_29 ?_
    refine i_getI C (k := 0) kX8 dX11_feed_46 (shT_1 hX) rfl (by decide) fl_X11_245 rfl ?_
    exact i_iret C hq dX11_feed_49
  · refine i_ldc C dX11_feed_15 kc_X11_78 kI_m1000000003 ?_
    exact i_iret C hq dX11_feed_17
set_option maxRecDepth 100000 in
set_option maxHeartbeats 4000000 in
theorem c_X11_trim (l : Launch) (G : Gx) {K : Kx} (hK : K = kP) {x1 : Int} {M : Mem} {res : Int × Mem} (hM : OkM M) (ha : okS [aR 0, aI x1]) (hF : pTop_trim x1 M = some res) : Ct l G K yX11_trim (wsM yX11_trim cX11_trim 2 (some .int)) rmX11_trim [aR 0, aI x1] M (some (aI res.1)) res.2 := by
  refine ct_of RX11 (by decide +kernel) rfl (hK ▸ kP_ok) hM ha (Nat.le_of_ble_eq_true rfl) hF ?_
  intro X C hl hG hX0 hN hR hq
  have hX : xK X = kP := hX0.trans hK
  show Im X 0 0 0 [(0, aR 0), (1, aI x1)] [] M res (pTop_trim x1 M)
  unfold pTop_trim
  have hRm : ∀ {rm : Room} {ny : Nat}, RmOk rmX11_trim rm ny → RmOk (xR X) rm ny := fun h => by rw [hR]; exact h
  refine i_iload_n C dX11_trim_0 rfl (q := 1) rfl ?_
  refine i_iconst C dX11_trim_1 kI_0 ?_
  refine i_aload_n C dX11_trim_2 rfl (q := 0) rfl ?_
  refine i_getR C (k := 4) kX11 dX11_trim_3 (shT_0 hX) rfl (by decide) fl_X11_29 ?_
  refine i_getI C (k := 0) kX8 dX11_trim_6 (shT_1 hX) rfl (by decide) fl_X11_245 rfl ?_
  refine i_cI (kc' := 0) (ks' := 0) 0 0 3 (fun q hq hM hS => crS C (as := [aI x1, aI 0, aI (M 1 0)]) dX11_trim_9.1 ml_X11_86 cal_X11_within st_X11_within (hRm ⟨Nat.le_of_ble_eq_true rfl, Nat.le_of_ble_eq_true rfl⟩) rfl (Nat.le_of_ble_eq_true rfl) (c_X11_within (xl X) (xG X) hX hM ⟨hS.2.2.1, hS.2.1, hS.1, trivial⟩ hq)) (Nat.le_of_ble_eq_true rfl) (Nat.le_of_ble_eq_true rfl) rfl rfl rfl (fun v2 M1 => ?_)
  refine i_if_ne (tgt := 18) C dX11_trim_12 (by decide) ?_ ?_
  · refine i_aload_n C dX11_trim_18 rfl (q := 0) rfl ?_
    refine i_getR C (k := 4) kX11 dX11_trim_19 (shT_0 hX) rfl (by decide) fl_X11_29 ?_
    refine i_iload_n C dX11_trim_22 rfl (q := 1) rfl ?_
    refine i_putI C (k := 0) kX8 dX11_trim_23 (shT_1 hX) rfl (by decide) fl_X11_245 rfl rfl rfl rfl (fun M3 => ?_)
    refine i_iload_n C dX11_trim_26 rfl (q := 1) rfl ?_
    exact i_iret C hq dX11_trim_27
  · refine i_ldc C dX11_trim_15 kc_X11_74 kI_m1000000001 ?_
    exact i_iret C hq dX11_trim_17
set_option maxRecDepth 100000 in
set_option maxHeartbeats 4000000 in
theorem c_X11_text (l : Launch) (G : Gx) {K : Kx} (hK : K = kP) {x1 : Int} {x2 : Int} {M : Mem} {res : Int × Mem} (hM : OkM M) (ha : okS [aR 0, aI x1, aI x2]) (hF : pTop_text x1 x2 M = some res) : Ct l G K yX11_text (wsM yX11_text cX11_text 4 (some .int)) rmX11_text [aR 0, aI x1, aI x2] M (some (aI res.1)) res.2 := by
  refine ct_of RX11 (by decide +kernel) rfl (hK ▸ kP_ok) hM ha (Nat.le_of_ble_eq_true rfl) hF ?_
  intro X C hl hG hX0 hN hR hq
  have hX : xK X = kP := hX0.trans hK
  show Im X 0 0 0 [(0, aR 0), (1, aI x1), (2, aI x2)] [] M res (pTop_text x1 x2 M)
  unfold pTop_text
  have hl3 : 3 < xn X := by rw [hN]; decide
  have hRm : ∀ {rm : Room} {ny : Nat}, RmOk rmX11_text rm ny → RmOk (xR X) rm ny := fun h => by rw [hR]; exact h
  refine i_iload_n C dX11_text_0 rfl (q := 1) rfl ?_
  refine i_cI (kc' := 0) (ks' := 0) 0 0 1 (fun q hq hM hS => crS C (as := [aI x1]) dX11_text_1.1 ml_X11_70 cal_X11_isSide st_X11_isSide (hRm ⟨Nat.le_of_ble_eq_true rfl, Nat.le_of_ble_eq_true rfl⟩) rfl (Nat.le_of_ble_eq_true rfl) (c_X11_isSide (xl X) (xG X) hX hM ⟨hS.1, trivial⟩ hq)) (Nat.le_of_ble_eq_true rfl) (Nat.le_of_ble_eq_true rfl) rfl rfl rfl (fun v2 M1 => ?_)
  refine i_jn (fun j => ∀ (p3 : Int) (M5 : Mem), Im X 0 0 30 [(0, aR 0), (1, aI x1), (2, aI x2)] [aI p3] M5 res (j p3 M5)) ?_ (fun j4 hj4 => ?_)
  · intro p3 M5
    refine i_istore_n C dX11_text_30 rfl hl3 (L' := [(0, aR 0), (1, aI x1), (2, aI x2), (3, aI p3)]) rfl ?_
    refine i_aload_n C dX11_text_31 rfl (q := 0) rfl ?_
    refine i_getR C (k := 4) kX11 dX11_text_32 (shT_0 hX) rfl (by decide) fl_X11_29 ?_
    refine i_iconst C dX11_text_35 kI_0 ?_
    refine i_putI C (k := 0) kX8 dX11_text_36 (shT_1 hX) rfl (by decide) fl_X11_245 rfl rfl rfl rfl (fun M6 => ?_)
    refine i_iload_n C dX11_text_39 rfl (q := 3) rfl ?_
    refine i_ldc C dX11_text_40 kc_X11_74 kI_m1000000001 ?_
    refine i_icmp_ne (tgt := 48) C dX11_text_42 (by decide) ?_ ?_
    · refine i_iload_n C dX11_text_48 rfl (q := 3) rfl ?_
      refine i_if_lt (tgt := 57) C dX11_text_49 (by decide) ?_ ?_
      · refine i_aload_n C dX11_text_57 rfl (q := 0) rfl ?_
        refine i_getR C (k := 0) kX11 dX11_text_58 (shT_0 hX) rfl (by decide) fl_X11_12 ?_
        refine i_getR C (k := 10) kX0 dX11_text_61 (shP_0 hX isC_100) rfl (by decide) fl_X11_255 ?_
        refine i_getI C (k := 0) kX4 dX11_text_64 (shP_37 hX isC_100) rfl (by decide) fl_X11_259 rfl ?_
        refine i_bipush C dX11_text_67 kB_12 ?_
        refine i_icmp_ne (tgt := 75) C dX11_text_69 (by decide) ?_ ?_
        · refine i_aload_n C dX11_text_75 rfl (q := 0) rfl ?_
          refine i_getR C (k := 0) kX11 dX11_text_76 (shT_0 hX) rfl (by decide) fl_X11_12 ?_
          refine i_getR C (k := 10) kX0 dX11_text_79 (shP_0 hX isC_100) rfl (by decide) fl_X11_255 ?_
          refine i_aload_n C dX11_text_82 rfl (q := 0) rfl ?_
          refine i_getR C (k := 4) kX11 dX11_text_83 (shT_0 hX) rfl (by decide) fl_X11_29 ?_
          refine i_iload_n C dX11_text_86 rfl (q := 1) rfl ?_
          refine i_iload_n C dX11_text_87 rfl (q := 2) rfl ?_
          refine i_cI (kc' := 0) (ks' := 0) 0 0 4 (fun q hq hM hS => crV C (as := [aR 1, aI x1, aI x2]) dX11_text_88.1 kX4 (shP_37 hX isC_100) ml_X11_262 cal_X4_addText cv_X4_addText (hRm ⟨Nat.le_of_ble_eq_true rfl, Nat.le_of_ble_eq_true rfl⟩) rfl (Nat.le_of_ble_eq_true rfl) (c_X4_addText (xl X) (xG X) hX isC_100 hM ⟨hS.2.2.2.1, hS.2.2.1, hS.2.1, hS.1, trivial⟩ hq)) (Nat.le_of_ble_eq_true rfl) (Nat.le_of_ble_eq_true rfl) rfl rfl rfl (fun v8 M7 => ?_)
          exact i_iret C hq dX11_text_91
        · refine i_ldc C dX11_text_72 kc_X11_78 kI_m1000000003 ?_
          exact i_iret C hq dX11_text_74
      · refine i_bipush C dX11_text_52 kB_m100 ?_
        refine i_iload_n C dX11_text_54 rfl (q := 3) rfl ?_
        refine i_isub C dX11_text_55 ?_
        exact i_iret C hq dX11_text_56
    · refine i_ldc C dX11_text_45 kc_X11_74 kI_m1000000001 ?_
      exact i_iret C hq dX11_text_47
  refine i_jn (fun j => ∀  (M10 : Mem), Im X 0 0 28 [(0, aR 0), (1, aI x1), (2, aI x2)] [] M10 res (j  M10)) ?_ (fun j9 hj9 => ?_)
  · intro  M10
    refine i_ldc C dX11_text_28 kc_X11_74 kI_m1000000001 ?_
    exact (hj4 (-1000000001) M10)
  refine i_if_eq (tgt := 28) C dX11_text_4 (by decide) ?_ ?_
  · exact (hj9  M1)
  · refine i_iload_n C dX11_text_7 rfl (q := 2) rfl ?_
    refine i_iconst C dX11_text_8 kI_0 ?_
    refine i_sipush C dX11_text_9 kS_416 ?_
    refine i_cI (kc' := 0) (ks' := 0) 0 0 3 (fun q hq hM hS => crS C (as := [aI x2, aI 0, aI 416]) dX11_text_12.1 ml_X11_86 cal_X11_within st_X11_within (hRm ⟨Nat.le_of_ble_eq_true rfl, Nat.le_of_ble_eq_true rfl⟩) rfl (Nat.le_of_ble_eq_true rfl) (c_X11_within (xl X) (xG X) hX hM ⟨hS.2.2.1, hS.2.1, hS.1, trivial⟩ hq)) (Nat.le_of_ble_eq_true rfl) (Nat.le_of_ble_eq_true rfl) rfl rfl rfl (fun v12 M11 => ?_)
    refine i_if_eq (tgt := 28) C dX11_text_15 (by decide) ?_ ?_
    · exact (hj9  M11)
    · refine i_aload_n C dX11_text_18 rfl (q := 0) rfl ?_
      refine i_getR C (k := 4) kX11 dX11_text_19 (shT_0 hX) rfl (by decide) fl_X11_29 ?_
      refine i_cI (kc' := 0) (ks' := 0) 0 0 1 (fun q hq hM hS => crV C (as := []) dX11_text_22.1 kX8 (shT_1 hX) ml_X11_251 cal_X8_parse cv_X8_parse (hRm ⟨Nat.le_of_ble_eq_true rfl, Nat.le_of_ble_eq_true rfl⟩) rfl (Nat.le_of_ble_eq_true rfl) (c_X8_parse (xl X) (xG X) hX hM ⟨hS.1, trivial⟩ hq)) (Nat.le_of_ble_eq_true rfl) (Nat.le_of_ble_eq_true rfl) rfl rfl rfl (fun v14 M13 => ?_)
      refine i_goto (tgt := 30) C dX11_text_25 (by decide) ?_
      exact (hj4 v14 M13)
set_option maxRecDepth 100000 in
set_option maxHeartbeats 4000000 in
theorem c_X11_of (l : Launch) (G : Gx) {K : Kx} (hK : K = kP) {x1 : Int} {x2 : Int} {M : Mem} {res : Int × Mem} (hM : OkM M) (ha : okS [aR 0, aI x1, aI x2]) (hF : pTop_of x1 x2 M = some res) : Ct l G K yX11_of (wsM yX11_of cX11_of 4 (some .int)) rmX11_of [aR 0, aI x1, aI x2] M (some (aI res.1)) res.2 := by
  refine ct_of RX11 (by decide +kernel) rfl (hK ▸ kP_ok) hM ha (Nat.le_of_ble_eq_true rfl) hF ?_
  intro X C hl hG hX0 hN hR hq
  have hX : xK X = kP := hX0.trans hK
  show Im X 0 0 0 [(0, aR 0), (1, aI x1), (2, aI x2)] [] M res (pTop_of x1 x2 M)
  unfold pTop_of
  have hl3 : 3 < xn X := by rw [hN]; decide
  have hRm : ∀ {rm : Room} {ny : Nat}, RmOk rmX11_of rm ny → RmOk (xR X) rm ny := fun h => by rw [hR]; exact h
  refine i_aload_n C dX11_of_0 rfl (q := 0) rfl ?_
  refine i_getR C (k := 0) kX11 dX11_of_1 (shT_0 hX) rfl (by decide) fl_X11_12 ?_
  refine i_getR C (k := 10) kX0 dX11_of_4 (shP_0 hX isC_100) rfl (by decide) fl_X11_255 ?_
  refine i_astore_n C dX11_of_7 rfl hl3 (L' := [(0, aR 0), (1, aI x1), (2, aI x2), (3, aR (100 + 37))]) rfl ?_
  refine i_aload_n C dX11_of_8 rfl (q := 3) rfl ?_
  refine i_iload_n C dX11_of_9 rfl (q := 1) rfl ?_
  refine i_cI (kc' := 0) (ks' := 0) 0 0 2 (fun q hq hM hS => crV C (as := [aI x1]) dX11_of_10.1 kX4 (shP_37 hX isC_100) ml_X11_266 cal_X4_has cv_X4_has (hRm ⟨Nat.le_of_ble_eq_true rfl, Nat.le_of_ble_eq_true rfl⟩) rfl (Nat.le_of_ble_eq_true rfl) (c_X4_has (xl X) (xG X) hX isC_100 hM ⟨hS.2.1, hS.1, trivial⟩ hq)) (Nat.le_of_ble_eq_true rfl) (Nat.le_of_ble_eq_true rfl) rfl rfl rfl (fun v2 M1 => ?_)
  refine i_if_ne (tgt := 19) C dX11_of_13 (by decide) ?_ ?_
  · refine i_iload_n C dX11_of_19 rfl (q := 2) rfl ?_
    refine i_split (fun e4 => ?_) (fun e4 => ?_)
    · refine i_tswIn (tgt := 56) C dX11_of_20 e4 (by decide) (by decide) rfl (by decide) ?_
      refine i_aload_n C dX11_of_56 rfl (q := 3) rfl ?_
      refine i_getR C (k := 1) kX4 dX11_of_57 (shP_37 hX isC_100) rfl (by decide) fl_X11_267 ?_
      refine i_iload_n C dX11_of_60 rfl (q := 1) rfl ?_
      refine i_ald C dX11_of_61 (shP_38 hX isC_100) (fun v3 => ?_)
      exact i_iret C hq dX11_of_62
    refine i_split (fun e6 => ?_) (fun e6 => ?_)
    · refine i_tswIn (tgt := 63) C dX11_of_20 e6 (by decide) (by decide) rfl (by decide) ?_
      refine i_aload_n C dX11_of_63 rfl (q := 3) rfl ?_
      refine i_getR C (k := 2) kX4 dX11_of_64 (shP_37 hX isC_100) rfl (by decide) fl_X11_270 ?_
      refine i_iload_n C dX11_of_67 rfl (q := 1) rfl ?_
      refine i_ald C dX11_of_68 (shP_39 hX isC_100) (fun v5 => ?_)
      exact i_iret C hq dX11_of_69
    refine i_split (fun e8 => ?_) (fun e8 => ?_)
    · refine i_tswIn (tgt := 70) C dX11_of_20 e8 (by decide) (by decide) rfl (by decide) ?_
      refine i_aload_n C dX11_of_70 rfl (q := 3) rfl ?_
      refine i_getR C (k := 3) kX4 dX11_of_71 (shP_37 hX isC_100) rfl (by decide) fl_X11_273 ?_
      refine i_iload_n C dX11_of_74 rfl (q := 1) rfl ?_
      refine i_ald C dX11_of_75 (shP_40 hX isC_100) (fun v7 => ?_)
      exact i_iret C hq dX11_of_76
    refine i_split (fun e10 => ?_) (fun e10 => ?_)
    · refine i_tswIn (tgt := 77) C dX11_of_20 e10 (by decide) (by decide) rfl (by decide) ?_
      refine i_aload_n C dX11_of_77 rfl (q := 3) rfl ?_
      refine i_getR C (k := 4) kX4 dX11_of_78 (shP_37 hX isC_100) rfl (by decide) fl_X11_276 ?_
      refine i_iload_n C dX11_of_81 rfl (q := 1) rfl ?_
      refine i_ald C dX11_of_82 (shP_41 hX isC_100) (fun v9 => ?_)
      exact i_iret C hq dX11_of_83
    refine i_split (fun e12 => ?_) (fun e12 => ?_)
    · refine i_tswIn (tgt := 84) C dX11_of_20 e12 (by decide) (by decide) rfl (by decide) ?_
      refine i_aload_n C dX11_of_84 rfl (q := 3) rfl ?_
      refine i_getR C (k := 5) kX4 dX11_of_85 (shP_37 hX isC_100) rfl (by decide) fl_X11_279 ?_
      refine i_iload_n C dX11_of_88 rfl (q := 1) rfl ?_
      refine i_ald C dX11_of_89 (shP_42 hX isC_100) (fun v11 => ?_)
      exact i_iret C hq dX11_of_90
    refine i_tswOut (tgt := 91) C dX11_of_20 (by omega) (by decide) ?_
    refine i_ldc C dX11_of_91 kc_X11_74 kI_m1000000001 ?_
    exact i_iret C hq dX11_of_93
  · refine i_ldc C dX11_of_16 kc_X11_74 kI_m1000000001 ?_
    exact i_iret C hq dX11_of_18
set_option maxRecDepth 100000 in
set_option maxHeartbeats 4000000 in
theorem c_X11_strike (l : Launch) (G : Gx) {K : Kx} (hK : K = kP) {x1 : Int} {M : Mem} {res : Int × Mem} (hM : OkM M) (ha : okS [aR 0, aI x1]) (hF : pTop_strike x1 M = some res) : Ct l G K yX11_strike (wsM yX11_strike cX11_strike 2 (some .int)) rmX11_strike [aR 0, aI x1] M (some (aI res.1)) res.2 := by
  refine ct_of RX11 (by decide +kernel) rfl (hK ▸ kP_ok) hM ha (Nat.le_of_ble_eq_true rfl) hF ?_
  intro X C hl hG hX0 hN hR hq
  have hX : xK X = kP := hX0.trans hK
  show Im X 0 0 0 [(0, aR 0), (1, aI x1)] [] M res (pTop_strike x1 M)
  unfold pTop_strike
  have hRm : ∀ {rm : Room} {ny : Nat}, RmOk rmX11_strike rm ny → RmOk (xR X) rm ny := fun h => by rw [hR]; exact h
  refine i_aload_n C dX11_strike_0 rfl (q := 0) rfl ?_
  refine i_getR C (k := 0) kX11 dX11_strike_1 (shT_0 hX) rfl (by decide) fl_X11_12 ?_
  refine i_getR C (k := 10) kX0 dX11_strike_4 (shP_0 hX isC_100) rfl (by decide) fl_X11_255 ?_
  refine i_iload_n C dX11_strike_7 rfl (q := 1) rfl ?_
  refine i_cI (kc' := 0) (ks' := 0) 0 0 2 (fun q hq hM hS => crV C (as := [aI x1]) dX11_strike_8.1 kX4 (shP_37 hX isC_100) ml_X11_266 cal_X4_has cv_X4_has (hRm ⟨Nat.le_of_ble_eq_true rfl, Nat.le_of_ble_eq_true rfl⟩) rfl (Nat.le_of_ble_eq_true rfl) (c_X4_has (xl X) (xG X) hX isC_100 hM ⟨hS.2.1, hS.1, trivial⟩ hq)) (Nat.le_of_ble_eq_true rfl) (Nat.le_of_ble_eq_true rfl) rfl rfl rfl (fun v2 M1 => ?_)
  refine i_if_ne (tgt := 17) C dX11_strike_11 (by decide) ?_ ?_
  · refine i_aload_n C dX11_strike_17 rfl (q := 0) rfl ?_
    refine i_getR C (k := 0) kX11 dX11_strike_18 (shT_0 hX) rfl (by decide) fl_X11_12 ?_
    refine i_getR C (k := 10) kX0 dX11_strike_21 (shP_0 hX isC_100) rfl (by decide) fl_X11_255 ?_
    refine i_getR C (k := 4) kX4 dX11_strike_24 (shP_37 hX isC_100) rfl (by decide) fl_X11_276 ?_
    refine i_iload_n C dX11_strike_27 rfl (q := 1) rfl ?_
    refine i_ald C dX11_strike_28 (shP_41 hX isC_100) (fun v3 => ?_)
    refine i_ldc_w C dX11_strike_29 kc_X11_282 kI_m1000000005 ?_
    refine i_icmp_eq (tgt := 38) C dX11_strike_32 (by decide) ?_ ?_
    · refine i_aload_n C dX11_strike_38 rfl (q := 0) rfl ?_
      refine i_getR C (k := 0) kX11 dX11_strike_39 (shT_0 hX) rfl (by decide) fl_X11_12 ?_
      refine i_getR C (k := 10) kX0 dX11_strike_42 (shP_0 hX isC_100) rfl (by decide) fl_X11_255 ?_
      refine i_getR C (k := 4) kX4 dX11_strike_45 (shP_37 hX isC_100) rfl (by decide) fl_X11_276 ?_
      refine i_iload_n C dX11_strike_48 rfl (q := 1) rfl ?_
      refine i_aload_n C dX11_strike_49 rfl (q := 0) rfl ?_
      refine i_getR C (k := 0) kX11 dX11_strike_50 (shT_0 hX) rfl (by decide) fl_X11_12 ?_
      refine i_cI (kc' := 0) (ks' := 0) 0 0 1 (fun q hq hM hS => crV C (as := []) dX11_strike_53.1 kX0 (shP_0 hX isC_100) ml_X11_283 cal_X0_day cv_X0_day (hRm ⟨Nat.le_of_ble_eq_true rfl, Nat.le_of_ble_eq_true rfl⟩) rfl (Nat.le_of_ble_eq_true rfl) (c_X0_day (xl X) (xG X) hX isC_100 hM ⟨hS.1, trivial⟩ hq)) (Nat.le_of_ble_eq_true rfl) (Nat.le_of_ble_eq_true rfl) rfl rfl rfl (fun v5 M4 => ?_)
      refine i_iconst C dX11_strike_56 kI_1 ?_
      refine i_iadd C dX11_strike_57 ?_
      refine i_ast C dX11_strike_58 (shP_41 hX isC_100) (fun M6 => ?_)
      refine i_iconst C dX11_strike_59 kI_1 ?_
      exact i_iret C hq dX11_strike_60
    · refine i_ldc C dX11_strike_35 kc_X11_140 kI_m1000000002 ?_
      exact i_iret C hq dX11_strike_37
  · refine i_ldc C dX11_strike_14 kc_X11_74 kI_m1000000001 ?_
    exact i_iret C hq dX11_strike_16
set_option maxRecDepth 100000 in
set_option maxHeartbeats 4000000 in
theorem c_X11_counts (l : Launch) (G : Gx) {K : Kx} (hK : K = kP) {x1 : Int} {x2 : Int} {M : Mem} {res : Int × Mem} (hM : OkM M) (ha : okS [aR 0, aI x1, aI x2]) (hF : pTop_counts x1 x2 M = some res) : Ct l G K yX11_counts (wsM yX11_counts cX11_counts 3 (some .int)) rmX11_counts [aR 0, aI x1, aI x2] M (some (aI res.1)) res.2 := by
  refine ct_of RX11 (by decide +kernel) rfl (hK ▸ kP_ok) hM ha (Nat.le_of_ble_eq_true rfl) hF ?_
  intro X C hl hG hX0 hN hR hq
  have hX : xK X = kP := hX0.trans hK
  show Im X 0 0 0 [(0, aR 0), (1, aI x1), (2, aI x2)] [] M res (pTop_counts x1 x2 M)
  unfold pTop_counts
  have hRm : ∀ {rm : Room} {ny : Nat}, RmOk rmX11_counts rm ny → RmOk (xR X) rm ny := fun h => by rw [hR]; exact h
  refine i_iload_n C dX11_counts_0 rfl (q := 1) rfl ?_
  refine i_cI (kc' := 0) (ks' := 0) 0 0 1 (fun q hq hM hS => crS C (as := [aI x1]) dX11_counts_1.1 ml_X11_70 cal_X11_isSide st_X11_isSide (hRm ⟨Nat.le_of_ble_eq_true rfl, Nat.le_of_ble_eq_true rfl⟩) rfl (Nat.le_of_ble_eq_true rfl) (c_X11_isSide (xl X) (xG X) hX hM ⟨hS.1, trivial⟩ hq)) (Nat.le_of_ble_eq_true rfl) (Nat.le_of_ble_eq_true rfl) rfl rfl rfl (fun v2 M1 => ?_)
  refine i_if_eq (tgt := 16) C dX11_counts_4 (by decide) ?_ ?_
  · refine i_ldc C dX11_counts_16 kc_X11_74 kI_m1000000001 ?_
    exact i_iret C hq dX11_counts_18
  · refine i_iload_n C dX11_counts_7 rfl (q := 2) rfl ?_
    refine i_iconst C dX11_counts_8 kI_0 ?_
    refine i_iconst C dX11_counts_9 kI_4 ?_
    refine i_cI (kc' := 0) (ks' := 0) 0 0 3 (fun q hq hM hS => crS C (as := [aI x2, aI 0, aI 4]) dX11_counts_10.1 ml_X11_86 cal_X11_within st_X11_within (hRm ⟨Nat.le_of_ble_eq_true rfl, Nat.le_of_ble_eq_true rfl⟩) rfl (Nat.le_of_ble_eq_true rfl) (c_X11_within (xl X) (xG X) hX hM ⟨hS.2.2.1, hS.2.1, hS.1, trivial⟩ hq)) (Nat.le_of_ble_eq_true rfl) (Nat.le_of_ble_eq_true rfl) rfl rfl rfl (fun v4 M3 => ?_)
    refine i_if_ne (tgt := 19) C dX11_counts_13 (by decide) ?_ ?_
    · refine i_aload_n C dX11_counts_19 rfl (q := 0) rfl ?_
      refine i_getR C (k := 0) kX11 dX11_counts_20 (shT_0 hX) rfl (by decide) fl_X11_12 ?_
      refine i_iload_n C dX11_counts_23 rfl (q := 1) rfl ?_
      refine i_iload_n C dX11_counts_24 rfl (q := 2) rfl ?_
      refine i_cI (kc' := 0) (ks' := 0) 0 0 3 (fun q hq hM hS => crV C (as := [aI x1, aI x2]) dX11_counts_25.1 kX0 (shP_0 hX isC_100) ml_X11_285 cal_X0_lawOf cv_X0_lawOf (hRm ⟨Nat.le_of_ble_eq_true rfl, Nat.le_of_ble_eq_true rfl⟩) rfl (Nat.le_of_ble_eq_true rfl) (c_X0_lawOf (xl X) (xG X) hX isC_100 hM ⟨hS.2.2.1, hS.2.1, hS.1, trivial⟩ hq)) (Nat.le_of_ble_eq_true rfl) (Nat.le_of_ble_eq_true rfl) rfl rfl rfl (fun v6 M5 => ?_)
      exact i_iret C hq dX11_counts_28
    · refine i_ldc C dX11_counts_16 kc_X11_74 kI_m1000000001 ?_
      exact i_iret C hq dX11_counts_18
set_option maxRecDepth 100000 in
set_option maxHeartbeats 4000000 in
theorem c_X11_may (l : Launch) (G : Gx) {K : Kx} (hK : K = kP) {x1 : Int} {x2 : Int} {M : Mem} {res : Int × Mem} (hM : OkM M) (ha : okS [aR 0, aI x1, aI x2]) (hF : pTop_may x1 x2 M = some res) : Ct l G K yX11_may (wsM yX11_may cX11_may 3 (some .int)) rmX11_may [aR 0, aI x1, aI x2] M (some (aI res.1)) res.2 := by
  refine ct_of RX11 (by decide +kernel) rfl (hK ▸ kP_ok) hM ha (Nat.le_of_ble_eq_true rfl) hF ?_
  intro X C hl hG hX0 hN hR hq
  have hX : xK X = kP := hX0.trans hK
  show Im X 0 0 0 [(0, aR 0), (1, aI x1), (2, aI x2)] [] M res (pTop_may x1 x2 M)
  unfold pTop_may
  have hRm : ∀ {rm : Room} {ny : Nat}, RmOk rmX11_may rm ny → RmOk (xR X) rm ny := fun h => by rw [hR]; exact h
  refine i_aload_n C dX11_may_0 rfl (q := 0) rfl ?_
  refine i_getR C (k := 0) kX11 dX11_may_1 (shT_0 hX) rfl (by decide) fl_X11_12 ?_
  refine i_getR C (k := 8) kX0 dX11_may_4 (shP_0 hX isC_100) rfl (by decide) fl_X11_151 ?_
  refine i_iload_n C dX11_may_7 rfl (q := 1) rfl ?_
  refine i_bipush C dX11_may_8 kB_6 ?_
  refine i_cI (kc' := 0) (ks' := 0) 0 0 3 (fun q hq hM hS => crV C (as := [aI x1, aI 6]) dX11_may_10.1 kX9 (shP_15 hX isC_100) ml_X11_169 cal_X9_isOf cv_X9_isOf (hRm ⟨Nat.le_of_ble_eq_true rfl, Nat.le_of_ble_eq_true rfl⟩) rfl (Nat.le_of_ble_eq_true rfl) (c_X9_isOf (xl X) (xG X) hX isC_100 hM ⟨hS.2.2.1, hS.2.1, hS.1, trivial⟩ hq)) (Nat.le_of_ble_eq_true rfl) (Nat.le_of_ble_eq_true rfl) rfl rfl rfl (fun v2 M1 => ?_)
  refine i_if_eq (tgt := 23) C dX11_may_13 (by decide) ?_ ?_
  · refine i_ldc C dX11_may_23 kc_X11_74 kI_m1000000001 ?_
    exact i_iret C hq dX11_may_25
  · refine i_iload_n C dX11_may_16 rfl (q := 2) rfl ?_
    refine i_cI (kc' := 0) (ks' := 0) 0 0 1 (fun q hq hM hS => crS C (as := [aI x2]) dX11_may_17.1 ml_X11_70 cal_X11_isSide st_X11_isSide (hRm ⟨Nat.le_of_ble_eq_true rfl, Nat.le_of_ble_eq_true rfl⟩) rfl (Nat.le_of_ble_eq_true rfl) (c_X11_isSide (xl X) (xG X) hX hM ⟨hS.1, trivial⟩ hq)) (Nat.le_of_ble_eq_true rfl) (Nat.le_of_ble_eq_true rfl) rfl rfl rfl (fun v4 M3 => ?_)
    refine i_if_ne (tgt := 26) C dX11_may_20 (by decide) ?_ ?_
    · refine i_aload_n C dX11_may_26 rfl (q := 0) rfl ?_
      refine i_getR C (k := 0) kX11 dX11_may_27 (shT_0 hX) rfl (by decide) fl_X11_12 ?_
      refine i_iload_n C dX11_may_30 rfl (q := 1) rfl ?_
      refine i_iload_n C dX11_may_31 rfl (q := 2) rfl ?_
      refine i_cI (kc' := 0) (ks' := 0) 0 0 3 (fun q hq hM hS => crV C (as := [aI x1, aI x2]) dX11_may_32.1 kX0 (shP_0 hX isC_100) ml_X11_288 cal_X0_lets cv_X0_lets (hRm ⟨Nat.le_of_ble_eq_true rfl, Nat.le_of_ble_eq_true rfl⟩) rfl (Nat.le_of_ble_eq_true rfl) (c_X0_lets (xl X) (xG X) hX isC_100 hM ⟨hS.2.2.1, hS.2.1, hS.1, trivial⟩ hq)) (Nat.le_of_ble_eq_true rfl) (Nat.le_of_ble_eq_true rfl) rfl rfl rfl (fun v6 M5 => ?_)
      refine i_if_eq (tgt := 42) C dX11_may_35 (by decide) ?_ ?_
      · refine i_iconst C dX11_may_42 kI_0 ?_
        exact i_iret C hq dX11_may_43
      · refine i_iconst C dX11_may_38 kI_1 ?_
        refine i_goto (tgt := 43) C dX11_may_39 (by decide) ?_
        exact i_iret C hq dX11_may_43
    · refine i_ldc C dX11_may_23 kc_X11_74 kI_m1000000001 ?_
      exact i_iret C hq dX11_may_25
set_option maxRecDepth 100000 in
set_option maxHeartbeats 4000000 in
theorem c_X11_unlike (l : Launch) (G : Gx) {K : Kx} (hK : K = kP) {x1 : Int} {x2 : Int} {x3 : Int} {M : Mem} {res : Int × Mem} (hM : OkM M) (ha : okS [aR 0, aI x1, aI x2, aI x3]) (hF : pTop_unlike x1 x2 x3 M = some res) : Ct l G K yX11_unlike (wsM yX11_unlike cX11_unlike 5 (some .int)) rmX11_unlike [aR 0, aI x1, aI x2, aI x3] M (some (aI res.1)) res.2 := by
  refine ct_of RX11 (by decide +kernel) rfl (hK ▸ kP_ok) hM ha (Nat.le_of_ble_eq_true rfl) hF ?_
  intro X C hl hG hX0 hN hR hq
  have hX : xK X = kP := hX0.trans hK
  show Im X 0 0 0 [(0, aR 0), (1, aI x1), (2, aI x2), (3, aI x3)] [] M res (pTop_unlike x1 x2 x3 M)
  unfold pTop_unlike
  have hl4 : 4 < xn X := by rw [hN]; decide
  have hRm : ∀ {rm : Room} {ny : Nat}, RmOk rmX11_unlike rm ny → RmOk (xR X) rm ny := fun h => by rw [hR]; exact h
  refine i_aload_n C dX11_unlike_0 rfl (q := 0) rfl ?_
  refine i_getR C (k := 0) kX11 dX11_unlike_1 (shT_0 hX) rfl (by decide) fl_X11_12 ?_
  refine i_getR C (k := 10) kX0 dX11_unlike_4 (shP_0 hX isC_100) rfl (by decide) fl_X11_255 ?_
  refine i_astore C dX11_unlike_7 hl4 (L' := [(0, aR 0), (1, aI x1), (2, aI x2), (3, aI x3), (4, aR (100 + 37))]) rfl ?_
  refine i_aload C dX11_unlike_9 (q := 4) rfl ?_
  refine i_iload_n C dX11_unlike_11 rfl (q := 1) rfl ?_
  refine i_cI (kc' := 0) (ks' := 0) 0 0 2 (fun q hq hM hS => crV C (as := [aI x1]) dX11_unlike_12.1 kX4 (shP_37 hX isC_100) ml_X11_266 cal_X4_has cv_X4_has (hRm ⟨Nat.le_of_ble_eq_true rfl, Nat.le_of_ble_eq_true rfl⟩) rfl (Nat.le_of_ble_eq_true rfl) (c_X4_has (xl X) (xG X) hX isC_100 hM ⟨hS.2.1, hS.1, trivial⟩ hq)) (Nat.le_of_ble_eq_true rfl) (Nat.le_of_ble_eq_true rfl) rfl rfl rfl (fun v2 M1 => ?_)
  refine i_if_eq (tgt := 36) C dX11_unlike_15 (by decide) ?_ ?_
  · refine i_ldc C dX11_unlike_36 kc_X11_74 kI_m1000000001 ?_
    exact i_iret C hq dX11_unlike_38
  · refine i_aload C dX11_unlike_18 (q := 4) rfl ?_
    refine i_iload_n C dX11_unlike_20 rfl (q := 2) rfl ?_
    refine i_cI (kc' := 0) (ks' := 0) 0 0 2 (fun q hq hM hS => crV C (as := [aI x2]) dX11_unlike_21.1 kX4 (shP_37 hX isC_100) ml_X11_266 cal_X4_has cv_X4_has (hRm ⟨Nat.le_of_ble_eq_true rfl, Nat.le_of_ble_eq_true rfl⟩) rfl (Nat.le_of_ble_eq_true rfl) (c_X4_has (xl X) (xG X) hX isC_100 hM ⟨hS.2.1, hS.1, trivial⟩ hq)) (Nat.le_of_ble_eq_true rfl) (Nat.le_of_ble_eq_true rfl) rfl rfl rfl (fun v4 M3 => ?_)
    refine i_if_eq (tgt := 36) C dX11_unlike_24 (by decide) ?_ ?_
    · refine i_ldc C dX11_unlike_36 kc_X11_74 kI_m1000000001 ?_
      exact i_iret C hq dX11_unlike_38
    · refine i_iload_n C dX11_unlike_27 rfl (q := 3) rfl ?_
      refine i_iconst C dX11_unlike_28 kI_0 ?_
      refine i_iconst C dX11_unlike_29 kI_1 ?_
      refine i_cI (kc' := 0) (ks' := 0) 0 0 3 (fun q hq hM hS => crS C (as := [aI x3, aI 0, aI 1]) dX11_unlike_30.1 ml_X11_86 cal_X11_within st_X11_within (hRm ⟨Nat.le_of_ble_eq_true rfl, Nat.le_of_ble_eq_true rfl⟩) rfl (Nat.le_of_ble_eq_true rfl) (c_X11_within (xl X) (xG X) hX hM ⟨hS.2.2.1, hS.2.1, hS.1, trivial⟩ hq)) (Nat.le_of_ble_eq_true rfl) (Nat.le_of_ble_eq_true rfl) rfl rfl rfl (fun v6 M5 => ?_)
      refine i_if_ne (tgt := 39) C dX11_unlike_33 (by decide) ?_ ?_
      · refine i_aload C dX11_unlike_39 (q := 4) rfl ?_
        refine i_getR C (k := 1) kX4 dX11_unlike_41 (shP_37 hX isC_100) rfl (by decide) fl_X11_267 ?_
        refine i_iload_n C dX11_unlike_44 rfl (q := 1) rfl ?_
        refine i_ald C dX11_unlike_45 (shP_38 hX isC_100) (fun v7 => ?_)
        refine i_if_ne (tgt := 59) C dX11_unlike_46 (by decide) ?_ ?_
        · refine i_ldc C dX11_unlike_59 kc_X11_200 kI_m1000000012 ?_
          exact i_iret C hq dX11_unlike_61
        · refine i_aload C dX11_unlike_49 (q := 4) rfl ?_
          refine i_getR C (k := 1) kX4 dX11_unlike_51 (shP_37 hX isC_100) rfl (by decide) fl_X11_267 ?_
          refine i_iload_n C dX11_unlike_54 rfl (q := 2) rfl ?_
          refine i_ald C dX11_unlike_55 (shP_38 hX isC_100) (fun v8 => ?_)
          refine i_if_eq (tgt := 62) C dX11_unlike_56 (by decide) ?_ ?_
          · refine i_aload C dX11_unlike_62 (q := 4) rfl ?_
            refine i_iload_n C dX11_unlike_64 rfl (q := 1) rfl ?_
            refine i_iload_n C dX11_unlike_65 rfl (q := 2) rfl ?_
            refine i_iload_n C dX11_unlike_66 rfl (q := 3) rfl ?_
            refine i_aload_n C dX11_unlike_67 rfl (q := 0) rfl ?_
            refine i_getR C (k := 0) kX11 dX11_unlike_68 (shT_0 hX) rfl (by decide) fl_X11_12 ?_
            refine i_cI (kc' := 0) (ks' := 0) 0 0 1 (fun q hq hM hS => crV C (as := []) dX11_unlike_71.1 kX0 (shP_0 hX isC_100) ml_X11_283 cal_X0_day cv_X0_day (hRm ⟨Nat.le_of_ble_eq_true rfl, Nat.le_of_ble_eq_true rfl⟩) rfl (Nat.le_of_ble_eq_true rfl) (c_X0_day (xl X) (xG X) hX isC_100 hM ⟨hS.1, trivial⟩ hq)) (Nat.le_of_ble_eq_true rfl) (Nat.le_of_ble_eq_true rfl) rfl rfl rfl (fun v10 M9 => ?_)
            refine i_cI (kc' := 0) (ks' := 0) 0 0 5 (fun q hq hM hS => crV C (as := [aI x1, aI x2, aI x3, aI v10]) dX11_unlike_74.1 kX4 (shP_37 hX isC_100) ml_X11_291 cal_X4_differ cv_X4_differ (hRm ⟨Nat.le_of_ble_eq_true rfl, Nat.le_of_ble_eq_true rfl⟩) rfl (Nat.le_of_ble_eq_true rfl) (c_X4_differ (xl X) (xG X) hX isC_100 hM ⟨hS.2.2.2.2.1, hS.2.2.2.1, hS.2.2.1, hS.2.1, hS.1, trivial⟩ hq)) (Nat.le_of_ble_eq_true rfl) (Nat.le_of_ble_eq_true rfl) rfl rfl rfl (fun v12 M11 => ?_)
            exact i_iret C hq dX11_unlike_77
          · refine i_ldc C dX11_unlike_59 kc_X11_200 kI_m1000000012 ?_
            exact i_iret C hq dX11_unlike_61
      · refine i_ldc C dX11_unlike_36 kc_X11_74 kI_m1000000001 ?_
        exact i_iret C hq dX11_unlike_38
set_option maxRecDepth 100000 in
set_option maxHeartbeats 4000000 in
theorem c_X11_visits (l : Launch) (G : Gx) {K : Kx} (hK : K = kP) {x1 : Int} {M : Mem} {res : Int × Mem} (hM : OkM M) (ha : okS [aR 0, aI x1]) (hF : pTop_visits x1 M = some res) : Ct l G K yX11_visits (wsM yX11_visits cX11_visits 2 (some .int)) rmX11_visits [aR 0, aI x1] M (some (aI res.1)) res.2 := by
  refine ct_of RX11 (by decide +kernel) rfl (hK ▸ kP_ok) hM ha (Nat.le_of_ble_eq_true rfl) hF ?_
  intro X C hl hG hX0 hN hR hq
  have hX : xK X = kP := hX0.trans hK
  show Im X 0 0 0 [(0, aR 0), (1, aI x1)] [] M res (pTop_visits x1 M)
  unfold pTop_visits
  have hRm : ∀ {rm : Room} {ny : Nat}, RmOk rmX11_visits rm ny → RmOk (xR X) rm ny := fun h => by rw [hR]; exact h
  refine i_iload_n C dX11_visits_0 rfl (q := 1) rfl ?_
  refine i_cI (kc' := 0) (ks' := 0) 0 0 1 (fun q hq hM hS => crS C (as := [aI x1]) dX11_visits_1.1 ml_X11_70 cal_X11_isSide st_X11_isSide (hRm ⟨Nat.le_of_ble_eq_true rfl, Nat.le_of_ble_eq_true rfl⟩) rfl (Nat.le_of_ble_eq_true rfl) (c_X11_isSide (xl X) (xG X) hX hM ⟨hS.1, trivial⟩ hq)) (Nat.le_of_ble_eq_true rfl) (Nat.le_of_ble_eq_true rfl) rfl rfl rfl (fun v2 M1 => ?_)
  refine i_if_ne (tgt := 10) C dX11_visits_4 (by decide) ?_ ?_
  · refine i_aload_n C dX11_visits_10 rfl (q := 0) rfl ?_
    refine i_getR C (k := 0) kX11 dX11_visits_11 (shT_0 hX) rfl (by decide) fl_X11_12 ?_
    refine i_iload_n C dX11_visits_14 rfl (q := 1) rfl ?_
    refine i_aload_n C dX11_visits_15 rfl (q := 0) rfl ?_
    refine i_getR C (k := 0) kX11 dX11_visits_16 (shT_0 hX) rfl (by decide) fl_X11_12 ?_
    refine i_iconst C dX11_visits_19 kI_0 ?_
    refine i_iconst C dX11_visits_20 kI_0 ?_
    refine i_cI (kc' := 0) (ks' := 0) 0 0 3 (fun q hq hM hS => crV C (as := [aI 0, aI 0]) dX11_visits_21.1 kX0 (shP_0 hX isC_100) ml_X11_285 cal_X0_lawOf cv_X0_lawOf (hRm ⟨Nat.le_of_ble_eq_true rfl, Nat.le_of_ble_eq_true rfl⟩) rfl (Nat.le_of_ble_eq_true rfl) (c_X0_lawOf (xl X) (xG X) hX isC_100 hM ⟨hS.2.2.1, hS.2.1, hS.1, trivial⟩ hq)) (Nat.le_of_ble_eq_true rfl) (Nat.le_of_ble_eq_true rfl) rfl rfl rfl (fun v4 M3 => ?_)
    refine i_aload_n C dX11_visits_24 rfl (q := 0) rfl ?_
    refine i_getR C (k := 0) kX11 dX11_visits_25 (shT_0 hX) rfl (by decide) fl_X11_12 ?_
    refine i_iconst C dX11_visits_28 kI_1 ?_
    refine i_iconst C dX11_visits_29 kI_0 ?_
    refine i_cI (kc' := 0) (ks' := 0) 0 0 3 (fun q hq hM hS => crV C (as := [aI 1, aI 0]) dX11_visits_30.1 kX0 (shP_0 hX isC_100) ml_X11_285 cal_X0_lawOf cv_X0_lawOf (hRm ⟨Nat.le_of_ble_eq_true rfl, Nat.le_of_ble_eq_true rfl⟩) rfl (Nat.le_of_ble_eq_true rfl) (c_X0_lawOf (xl X) (xG X) hX isC_100 hM ⟨hS.2.2.1, hS.2.1, hS.1, trivial⟩ hq)) (Nat.le_of_ble_eq_true rfl) (Nat.le_of_ble_eq_true rfl) rfl rfl rfl (fun v6 M5 => ?_)
    refine i_cI (kc' := 0) (ks' := 0) 0 0 4 (fun q hq hM hS => crV C (as := [aI x1, aI v4, aI v6]) dX11_visits_33.1 kX0 (shP_0 hX isC_100) ml_X11_294 cal_X0_visitsFrom cv_X0_visitsFrom (hRm ⟨Nat.le_of_ble_eq_true rfl, Nat.le_of_ble_eq_true rfl⟩) rfl (Nat.le_of_ble_eq_true rfl) (c_X0_visitsFrom (xl X) (xG X) hX isC_100 hM ⟨hS.2.2.2.1, hS.2.2.1, hS.2.1, hS.1, trivial⟩ hq)) (Nat.le_of_ble_eq_true rfl) (Nat.le_of_ble_eq_true rfl) rfl rfl rfl (fun v8 M7 => ?_)
    exact i_iret C hq dX11_visits_36
  · refine i_ldc C dX11_visits_7 kc_X11_74 kI_m1000000001 ?_
    exact i_iret C hq dX11_visits_9
set_option maxRecDepth 100000 in
set_option maxHeartbeats 4000000 in
theorem c_X11_changed (l : Launch) (G : Gx) {K : Kx} (hK : K = kP) {x1 : Int} {M : Mem} {res : Int × Mem} (hM : OkM M) (ha : okS [aR 0, aI x1]) (hF : pTop_changed x1 M = some res) : Ct l G K yX11_changed (wsM yX11_changed cX11_changed 5 (some .int)) rmX11_changed [aR 0, aI x1] M (some (aI res.1)) res.2 := by
  refine ct_of RX11 (by decide +kernel) rfl (hK ▸ kP_ok) hM ha (Nat.le_of_ble_eq_true rfl) hF ?_
  intro X C hl hG hX0 hN hR hq
  have hX : xK X = kP := hX0.trans hK
  show Im X 0 0 0 [(0, aR 0), (1, aI x1)] [] M res (pTop_changed x1 M)
  unfold pTop_changed
  have hl2 : 2 < xn X := by rw [hN]; decide
  have hl3 : 3 < xn X := by rw [hN]; decide
  have hl4 : 4 < xn X := by rw [hN]; decide
  have hRm : ∀ {rm : Room} {ny : Nat}, RmOk rmX11_changed rm ny → RmOk (xR X) rm ny := fun h => by rw [hR]; exact h
  refine i_aload_n C dX11_changed_0 rfl (q := 0) rfl ?_
  refine i_getR C (k := 0) kX11 dX11_changed_1 (shT_0 hX) rfl (by decide) fl_X11_12 ?_
  refine i_getR C (k := 10) kX0 dX11_changed_4 (shP_0 hX isC_100) rfl (by decide) fl_X11_255 ?_
  refine i_iload_n C dX11_changed_7 rfl (q := 1) rfl ?_
  refine i_cI (kc' := 0) (ks' := 0) 0 0 2 (fun q hq hM hS => crV C (as := [aI x1]) dX11_changed_8.1 kX4 (shP_37 hX isC_100) ml_X11_266 cal_X4_has cv_X4_has (hRm ⟨Nat.le_of_ble_eq_true rfl, Nat.le_of_ble_eq_true rfl⟩) rfl (Nat.le_of_ble_eq_true rfl) (c_X4_has (xl X) (xG X) hX isC_100 hM ⟨hS.2.1, hS.1, trivial⟩ hq)) (Nat.le_of_ble_eq_true rfl) (Nat.le_of_ble_eq_true rfl) rfl rfl rfl (fun v2 M1 => ?_)
  refine i_if_ne (tgt := 17) C dX11_changed_11 (by decide) ?_ ?_
  · refine i_aload_n C dX11_changed_17 rfl (q := 0) rfl ?_
    refine i_getR C (k := 0) kX11 dX11_changed_18 (shT_0 hX) rfl (by decide) fl_X11_12 ?_
    refine i_getR C (k := 10) kX0 dX11_changed_21 (shP_0 hX isC_100) rfl (by decide) fl_X11_255 ?_
    refine i_getR C (k := 1) kX4 dX11_changed_24 (shP_37 hX isC_100) rfl (by decide) fl_X11_267 ?_
    refine i_iload_n C dX11_changed_27 rfl (q := 1) rfl ?_
    refine i_ald C dX11_changed_28 (shP_38 hX isC_100) (fun v3 => ?_)
    refine i_if_eq (tgt := 35) C dX11_changed_29 (by decide) ?_ ?_
    · refine i_aload_n C dX11_changed_35 rfl (q := 0) rfl ?_
      refine i_getR C (k := 0) kX11 dX11_changed_36 (shT_0 hX) rfl (by decide) fl_X11_12 ?_
      refine i_iconst C dX11_changed_39 kI_0 ?_
      refine i_iconst C dX11_changed_40 kI_0 ?_
      refine i_cI (kc' := 0) (ks' := 0) 0 0 3 (fun q hq hM hS => crV C (as := [aI 0, aI 0]) dX11_changed_41.1 kX0 (shP_0 hX isC_100) ml_X11_285 cal_X0_lawOf cv_X0_lawOf (hRm ⟨Nat.le_of_ble_eq_true rfl, Nat.le_of_ble_eq_true rfl⟩) rfl (Nat.le_of_ble_eq_true rfl) (c_X0_lawOf (xl X) (xG X) hX isC_100 hM ⟨hS.2.2.1, hS.2.1, hS.1, trivial⟩ hq)) (Nat.le_of_ble_eq_true rfl) (Nat.le_of_ble_eq_true rfl) rfl rfl rfl (fun v5 M4 => ?_)
      refine i_istore_n C dX11_changed_44 rfl hl2 (L' := [(0, aR 0), (1, aI x1), (2, aI v5)]) rfl ?_
      refine i_aload_n C dX11_changed_45 rfl (q := 0) rfl ?_
      refine i_getR C (k := 0) kX11 dX11_changed_46 (shT_0 hX) rfl (by decide) fl_X11_12 ?_
      refine i_iconst C dX11_changed_49 kI_1 ?_
      refine i_iconst C dX11_changed_50 kI_0 ?_
      refine i_cI (kc' := 0) (ks' := 0) 0 0 3 (fun q hq hM hS => crV C (as := [aI 1, aI 0]) dX11_changed_51.1 kX0 (shP_0 hX isC_100) ml_X11_285 cal_X0_lawOf cv_X0_lawOf (hRm ⟨Nat.le_of_ble_eq_true rfl, Nat.le_of_ble_eq_true rfl⟩) rfl (Nat.le_of_ble_eq_true rfl) (c_X0_lawOf (xl X) (xG X) hX isC_100 hM ⟨hS.2.2.1, hS.2.1, hS.1, trivial⟩ hq)) (Nat.le_of_ble_eq_true rfl) (Nat.le_of_ble_eq_true rfl) rfl rfl rfl (fun v7 M6 => ?_)
      refine i_istore_n C dX11_changed_54 rfl hl3 (L' := [(0, aR 0), (1, aI x1), (2, aI v5), (3, aI v7)]) rfl ?_
      refine i_aload_n C dX11_changed_55 rfl (q := 0) rfl ?_
      refine i_getR C (k := 0) kX11 dX11_changed_56 (shT_0 hX) rfl (by decide) fl_X11_12 ?_
      refine i_getR C (k := 10) kX0 dX11_changed_59 (shP_0 hX isC_100) rfl (by decide) fl_X11_255 ?_
      refine i_getR C (k := 2) kX4 dX11_changed_62 (shP_37 hX isC_100) rfl (by decide) fl_X11_270 ?_
      refine i_iload_n C dX11_changed_65 rfl (q := 1) rfl ?_
      refine i_ald C dX11_changed_66 (shP_39 hX isC_100) (fun v8 => ?_)
      refine i_jn (fun j => ∀ (p9 : Int) (M11 : Mem), Im X 0 0 75 [(0, aR 0), (1, aI x1), (2, aI v5), (3, aI v7)] [aI p9] M11 res (j p9 M11)) ?_ (fun j10 hj10 => ?_)
      · intro p9 M11
        refine i_istore C dX11_changed_75 hl4 (L' := [(0, aR 0), (1, aI x1), (2, aI v5), (3, aI v7), (4, aI p9)]) rfl ?_
        refine i_aload_n C dX11_changed_77 rfl (q := 0) rfl ?_
        refine i_getR C (k := 0) kX11 dX11_changed_78 (shT_0 hX) rfl (by decide) fl_X11_12 ?_
        refine i_iload C dX11_changed_81 (q := 4) rfl ?_
        refine i_jn (fun j => ∀ (p12 : Int) (M14 : Mem), Im X 0 0 91 [(0, aR 0), (1, aI x1), (2, aI v5), (3, aI v7), (4, aI p9)] [aI p12, aR 100] M14 res (j p12 M14)) ?_ (fun j13 hj13 => ?_)
        · intro p12 M14
          refine i_iload C dX11_changed_91 (q := 4) rfl ?_
          refine i_jn (fun j => ∀ (p15 : Int) (M17 : Mem), Im X 0 0 101 [(0, aR 0), (2, aI v5), (3, aI v7)] [aI p15, aI p12, aR 100] M17 res (j p15 M17)) ?_ (fun j16 hj16 => ?_)
          · intro p15 M17
            refine i_cI (kc' := 0) (ks' := 0) 0 0 3 (fun q hq hM hS => crV C (as := [aI p12, aI p15]) dX11_changed_101.1 kX0 (shP_0 hX isC_100) ml_X11_297 cal_X0_allVisits cv_X0_allVisits (hRm ⟨Nat.le_of_ble_eq_true rfl, Nat.le_of_ble_eq_true rfl⟩) rfl (Nat.le_of_ble_eq_true rfl) (c_X0_allVisits (xl X) (xG X) hX isC_100 hM ⟨hS.2.2.1, hS.2.1, hS.1, trivial⟩ hq)) (Nat.le_of_ble_eq_true rfl) (Nat.le_of_ble_eq_true rfl) rfl rfl rfl (fun v19 M18 => ?_)
            refine i_aload_n C dX11_changed_104 rfl (q := 0) rfl ?_
            refine i_getR C (k := 0) kX11 dX11_changed_105 (shT_0 hX) rfl (by decide) fl_X11_12 ?_
            refine i_iload_n C dX11_changed_108 rfl (q := 1) rfl ?_
            refine i_iload_n C dX11_changed_109 rfl (q := 2) rfl ?_
            refine i_cI (kc' := 0) (ks' := 0) 0 0 3 (fun q hq hM hS => crV C (as := [aI v5, aI v7]) dX11_changed_110.1 kX0 (shP_0 hX isC_100) ml_X11_297 cal_X0_allVisits cv_X0_allVisits (hRm ⟨Nat.le_of_ble_eq_true rfl, Nat.le_of_ble_eq_true rfl⟩) rfl (Nat.le_of_ble_eq_true rfl) (c_X0_allVisits (xl X) (xG X) hX isC_100 hM ⟨hS.2.2.1, hS.2.1, hS.1, trivial⟩ hq)) (Nat.le_of_ble_eq_true rfl) (Nat.le_of_ble_eq_true rfl) rfl rfl rfl (fun v21 M20 => ?_)
            refine i_isub C dX11_changed_113 ?_
            exact i_iret C hq dX11_changed_114
          refine i_if_eq (tgt := 100) C dX11_changed_93 (by decide) ?_ ?_
          · refine i_iload_n C dX11_changed_100 rfl (q := 1) rfl ?_
            exact i_sub [0, 2, 3] rfl (hj16 x1 M14)
          · refine i_iload_n C dX11_changed_96 rfl (q := 3) rfl ?_
            refine i_goto (tgt := 101) C dX11_changed_97 (by decide) ?_
            exact i_sub [0, 2, 3] rfl (hj16 v7 M14)
        refine i_if_eq (tgt := 90) C dX11_changed_83 (by decide) ?_ ?_
        · refine i_iload_n C dX11_changed_90 rfl (q := 2) rfl ?_
          exact (hj13 v5 M11)
        · refine i_iload_n C dX11_changed_86 rfl (q := 1) rfl ?_
          refine i_goto (tgt := 91) C dX11_changed_87 (by decide) ?_
          exact (hj13 x1 M11)
      refine i_if_ne (tgt := 74) C dX11_changed_67 (by decide) ?_ ?_
      · refine i_iconst C dX11_changed_74 kI_0 ?_
        exact (hj10 0 M6)
      · refine i_iconst C dX11_changed_70 kI_1 ?_
        refine i_goto (tgt := 75) C dX11_changed_71 (by decide) ?_
        exact (hj10 1 M6)
    · refine i_ldc C dX11_changed_32 kc_X11_200 kI_m1000000012 ?_
      exact i_iret C hq dX11_changed_34
  · refine i_ldc C dX11_changed_14 kc_X11_74 kI_m1000000001 ?_
    exact i_iret C hq dX11_changed_16
set_option maxRecDepth 100000 in
set_option maxHeartbeats 4000000 in
theorem c_X11_house (l : Launch) (G : Gx) {K : Kx} (hK : K = kP) {x1 : Int} {x2 : Int} {x3 : Int} {x4 : Int} {M : Mem} {res : Int × Mem} (hM : OkM M) (ha : okS [aR 0, aI x1, aI x2, aI x3, aI x4]) (hF : pTop_house x1 x2 x3 x4 M = some res) : Ct l G K yX11_house (wsM yX11_house cX11_house 7 (some .int)) rmX11_house [aR 0, aI x1, aI x2, aI x3, aI x4] M (some (aI res.1)) res.2 := by
  refine ct_of RX11 (by decide +kernel) rfl (hK ▸ kP_ok) hM ha (Nat.le_of_ble_eq_true rfl) hF ?_
  intro X C hl hG hX0 hN hR hq
  have hX : xK X = kP := hX0.trans hK
  show Im X 0 0 0 [(0, aR 0), (1, aI x1), (2, aI x2), (3, aI x3), (4, aI x4)] [] M res (pTop_house x1 x2 x3 x4 M)
  unfold pTop_house
  have hl5 : 5 < xn X := by rw [hN]; decide
  have hl6 : 6 < xn X := by rw [hN]; decide
  have hRm : ∀ {rm : Room} {ny : Nat}, RmOk rmX11_house rm ny → RmOk (xR X) rm ny := fun h => by rw [hR]; exact h
  refine i_iload_n C dX11_house_0 rfl (q := 1) rfl ?_
  refine i_cI (kc' := 0) (ks' := 0) 0 0 1 (fun q hq hM hS => crS C (as := [aI x1]) dX11_house_1.1 ml_X11_70 cal_X11_isSide st_X11_isSide (hRm ⟨Nat.le_of_ble_eq_true rfl, Nat.le_of_ble_eq_true rfl⟩) rfl (Nat.le_of_ble_eq_true rfl) (c_X11_isSide (xl X) (xG X) hX hM ⟨hS.1, trivial⟩ hq)) (Nat.le_of_ble_eq_true rfl) (Nat.le_of_ble_eq_true rfl) rfl rfl rfl (fun v2 M1 => ?_)
  refine i_if_eq (tgt := 38) C dX11_house_4 (by decide) ?_ ?_
  · refine i_ldc C dX11_house_38 kc_X11_74 kI_m1000000001 ?_
    exact i_iret C hq dX11_house_40
  · refine i_iload_n C dX11_house_7 rfl (q := 2) rfl ?_
    refine i_iconst C dX11_house_8 kI_0 ?_
    refine i_bipush C dX11_house_9 kB_99 ?_
    refine i_cI (kc' := 0) (ks' := 0) 0 0 3 (fun q hq hM hS => crS C (as := [aI x2, aI 0, aI 99]) dX11_house_11.1 ml_X11_86 cal_X11_within st_X11_within (hRm ⟨Nat.le_of_ble_eq_true rfl, Nat.le_of_ble_eq_true rfl⟩) rfl (Nat.le_of_ble_eq_true rfl) (c_X11_within (xl X) (xG X) hX hM ⟨hS.2.2.1, hS.2.1, hS.1, trivial⟩ hq)) (Nat.le_of_ble_eq_true rfl) (Nat.le_of_ble_eq_true rfl) rfl rfl rfl (fun v4 M3 => ?_)
    refine i_if_eq (tgt := 38) C dX11_house_14 (by decide) ?_ ?_
    · refine i_ldc C dX11_house_38 kc_X11_74 kI_m1000000001 ?_
      exact i_iret C hq dX11_house_40
    · refine i_iload_n C dX11_house_17 rfl (q := 3) rfl ?_
      refine i_iconst C dX11_house_18 kI_0 ?_
      refine i_bipush C dX11_house_19 kB_99 ?_
      refine i_cI (kc' := 0) (ks' := 0) 0 0 3 (fun q hq hM hS => crS C (as := [aI x3, aI 0, aI 99]) dX11_house_21.1 ml_X11_86 cal_X11_within st_X11_within (hRm ⟨Nat.le_of_ble_eq_true rfl, Nat.le_of_ble_eq_true rfl⟩) rfl (Nat.le_of_ble_eq_true rfl) (c_X11_within (xl X) (xG X) hX hM ⟨hS.2.2.1, hS.2.1, hS.1, trivial⟩ hq)) (Nat.le_of_ble_eq_true rfl) (Nat.le_of_ble_eq_true rfl) rfl rfl rfl (fun v6 M5 => ?_)
      refine i_if_eq (tgt := 38) C dX11_house_24 (by decide) ?_ ?_
      · refine i_ldc C dX11_house_38 kc_X11_74 kI_m1000000001 ?_
        exact i_iret C hq dX11_house_40
      · refine i_iload C dX11_house_27 (q := 4) rfl ?_
        refine i_iconst C dX11_house_29 kI_0 ?_
        refine i_bipush C dX11_house_30 kB_99 ?_
        refine i_cI (kc' := 0) (ks' := 0) 0 0 3 (fun q hq hM hS => crS C (as := [aI x4, aI 0, aI 99]) dX11_house_32.1 ml_X11_86 cal_X11_within st_X11_within (hRm ⟨Nat.le_of_ble_eq_true rfl, Nat.le_of_ble_eq_true rfl⟩) rfl (Nat.le_of_ble_eq_true rfl) (c_X11_within (xl X) (xG X) hX hM ⟨hS.2.2.1, hS.2.1, hS.1, trivial⟩ hq)) (Nat.le_of_ble_eq_true rfl) (Nat.le_of_ble_eq_true rfl) rfl rfl rfl (fun v8 M7 => ?_)
        refine i_if_ne (tgt := 41) C dX11_house_35 (by decide) ?_ ?_
        · refine i_aload_n C dX11_house_41 rfl (q := 0) rfl ?_
          refine i_getR C (k := 0) kX11 dX11_house_42 (shT_0 hX) rfl (by decide) fl_X11_12 ?_
          refine i_iload_n C dX11_house_45 rfl (q := 1) rfl ?_
          refine i_iconst C dX11_house_46 kI_3 ?_
          refine i_cI (kc' := 0) (ks' := 0) 0 0 3 (fun q hq hM hS => crV C (as := [aI x1, aI 3]) dX11_house_47.1 kX0 (shP_0 hX isC_100) ml_X11_285 cal_X0_lawOf cv_X0_lawOf (hRm ⟨Nat.le_of_ble_eq_true rfl, Nat.le_of_ble_eq_true rfl⟩) rfl (Nat.le_of_ble_eq_true rfl) (c_X0_lawOf (xl X) (xG X) hX isC_100 hM ⟨hS.2.2.1, hS.2.1, hS.1, trivial⟩ hq)) (Nat.le_of_ble_eq_true rfl) (Nat.le_of_ble_eq_true rfl) rfl rfl rfl (fun v10 M9 => ?_)
          refine i_istore C dX11_house_50 hl5 (L' := [(0, aR 0), (1, aI x1), (2, aI x2), (3, aI x3), (4, aI x4), (5, aI v10)]) rfl ?_
          refine i_iload C dX11_house_52 (q := 5) rfl ?_
          refine i_ldc_w C dX11_house_54 kc_X11_282 kI_m1000000005 ?_
          refine i_icmp_ne (tgt := 62) C dX11_house_57 (by decide) ?_ ?_
          · refine i_aload_n C dX11_house_62 rfl (q := 0) rfl ?_
            refine i_getR C (k := 0) kX11 dX11_house_63 (shT_0 hX) rfl (by decide) fl_X11_12 ?_
            refine i_getR C (k := 10) kX0 dX11_house_66 (shP_0 hX isC_100) rfl (by decide) fl_X11_255 ?_
            refine i_iload_n C dX11_house_69 rfl (q := 2) rfl ?_
            refine i_bipush C dX11_house_70 kB_10 ?_
            refine i_idiv C dX11_house_72 (by decide) ?_
            refine i_iload_n C dX11_house_73 rfl (q := 2) rfl ?_
            refine i_bipush C dX11_house_74 kB_10 ?_
            refine i_irem C dX11_house_76 (by decide) ?_
            refine i_isub C dX11_house_77 ?_
            refine i_iload_n C dX11_house_78 rfl (q := 3) rfl ?_
            refine i_bipush C dX11_house_79 kB_10 ?_
            refine i_idiv C dX11_house_81 (by decide) ?_
            refine i_iload_n C dX11_house_82 rfl (q := 3) rfl ?_
            refine i_bipush C dX11_house_83 kB_10 ?_
            refine i_irem C dX11_house_85 (by decide) ?_
            refine i_isub C dX11_house_86 ?_
            refine i_iload C dX11_house_87 (q := 4) rfl ?_
            refine i_bipush C dX11_house_89 kB_10 ?_
            refine i_idiv C dX11_house_91 (by decide) ?_
            refine i_iload C dX11_house_92 (q := 4) rfl ?_
            refine i_bipush C dX11_house_94 kB_10 ?_
            refine i_irem C dX11_house_96 (by decide) ?_
            refine i_isub C dX11_house_97 ?_
            refine i_iconst C dX11_house_98 kI_0 ?_
            refine i_cV (kc' := 0) (ks' := 0) 0 0 5 (fun q hq hM hS => crV C (as := [aI (w32 ((w32 (Int.tdiv x2 10)) - (w32 (Int.tmod x2 10)))), aI (w32 ((w32 (Int.tdiv x3 10)) - (w32 (Int.tmod x3 10)))), aI (w32 ((w32 (Int.tdiv x4 10)) - (w32 (Int.tmod x4 10)))), aI 0]) dX11_house_99.1 kX4 (shP_37 hX isC_100) ml_X11_300 cal_X4_setNames cv_X4_setNames (hRm ⟨Nat.le_of_ble_eq_true rfl, Nat.le_of_ble_eq_true rfl⟩) rfl (Nat.le_of_ble_eq_true rfl) (c_X4_setNames (xl X) (xG X) hX isC_100 hM ⟨hS.2.2.2.2.1, hS.2.2.2.1, hS.2.2.1, hS.2.1, hS.1, trivial⟩ hq)) (Nat.le_of_ble_eq_true rfl) (Nat.le_of_ble_eq_true rfl) rfl rfl rfl (fun M11 => ?_)
            refine i_aload_n C dX11_house_102 rfl (q := 0) rfl ?_
            refine i_getR C (k := 0) kX11 dX11_house_103 (shT_0 hX) rfl (by decide) fl_X11_12 ?_
            refine i_getR C (k := 10) kX0 dX11_house_106 (shP_0 hX isC_100) rfl (by decide) fl_X11_255 ?_
            refine i_iload C dX11_house_109 (q := 5) rfl ?_
            refine i_cI (kc' := 0) (ks' := 0) 0 0 2 (fun q hq hM hS => crV C (as := [aI v10]) dX11_house_111.1 kX4 (shP_37 hX isC_100) ml_X11_304 cal_X4_valueOf cv_X4_valueOf (hRm ⟨Nat.le_of_ble_eq_true rfl, Nat.le_of_ble_eq_true rfl⟩) rfl (Nat.le_of_ble_eq_true rfl) (c_X4_valueOf (xl X) (xG X) hX isC_100 hM ⟨hS.2.1, hS.1, trivial⟩ hq)) (Nat.le_of_ble_eq_true rfl) (Nat.le_of_ble_eq_true rfl) rfl rfl rfl (fun v13 M12 => ?_)
            refine i_istore C dX11_house_114 hl6 (L' := [(0, aR 0), (1, aI x1), (2, aI x2), (3, aI x3), (4, aI x4), (5, aI v10), (6, aI v13)]) rfl ?_
            refine i_iload C dX11_house_116 (q := 6) rfl ?_
            refine i_if_ne (tgt := 123) C dX11_house_118 (by decide) ?_ ?_
            · refine i_iload C dX11_house_123 (q := 6) rfl ?_
              refine i_if_le (tgt := 132) C dX11_house_125 (by decide) ?_ ?_
              · refine i_iconst C dX11_house_132 kI_1 ?_
                exact i_iret C hq dX11_house_133
              · refine i_iconst C dX11_house_128 kI_0 ?_
                refine i_goto (tgt := 133) C dX11_house_129 (by decide) ?_
                exact i_iret C hq dX11_house_133
            · refine i_iload_n C dX11_house_121 rfl (q := 1) rfl ?_
              exact i_iret C hq dX11_house_122
          · refine i_iload_n C dX11_house_60 rfl (q := 1) rfl ?_
            exact i_iret C hq dX11_house_61
        · refine i_ldc C dX11_house_38 kc_X11_74 kI_m1000000001 ?_
          exact i_iret C hq dX11_house_40
set_option maxRecDepth 100000 in
set_option maxHeartbeats 4000000 in
theorem c_X11_flow (l : Launch) (G : Gx) {K : Kx} (hK : K = kP) {x1 : Int} {M : Mem} {res : Int × Mem} (hM : OkM M) (ha : okS [aR 0, aI x1]) (hF : pTop_flow x1 M = some res) : Ct l G K yX11_flow (wsM yX11_flow cX11_flow 2 (some .int)) rmX11_flow [aR 0, aI x1] M (some (aI res.1)) res.2 := by
  refine ct_of RX11 (by decide +kernel) rfl (hK ▸ kP_ok) hM ha (Nat.le_of_ble_eq_true rfl) hF ?_
  intro X C hl hG hX0 hN hR hq
  have hX : xK X = kP := hX0.trans hK
  show Im X 0 0 0 [(0, aR 0), (1, aI x1)] [] M res (pTop_flow x1 M)
  unfold pTop_flow
  have hRm : ∀ {rm : Room} {ny : Nat}, RmOk rmX11_flow rm ny → RmOk (xR X) rm ny := fun h => by rw [hR]; exact h
  refine i_iload_n C dX11_flow_0 rfl (q := 1) rfl ?_
  refine i_iconst C dX11_flow_1 kI_1 ?_
  refine i_iconst C dX11_flow_2 kI_3 ?_
  refine i_cI (kc' := 0) (ks' := 0) 0 0 3 (fun q hq hM hS => crS C (as := [aI x1, aI 1, aI 3]) dX11_flow_3.1 ml_X11_86 cal_X11_within st_X11_within (hRm ⟨Nat.le_of_ble_eq_true rfl, Nat.le_of_ble_eq_true rfl⟩) rfl (Nat.le_of_ble_eq_true rfl) (c_X11_within (xl X) (xG X) hX hM ⟨hS.2.2.1, hS.2.1, hS.1, trivial⟩ hq)) (Nat.le_of_ble_eq_true rfl) (Nat.le_of_ble_eq_true rfl) rfl rfl rfl (fun v2 M1 => ?_)
  refine i_if_eq (tgt := 27) C dX11_flow_6 (by decide) ?_ ?_
  · refine i_ldc C dX11_flow_27 kc_X11_74 kI_m1000000001 ?_
    exact i_iret C hq dX11_flow_29
  · refine i_aload_n C dX11_flow_9 rfl (q := 0) rfl ?_
    refine i_getR C (k := 6) kX11 dX11_flow_10 (shT_0 hX) rfl (by decide) fl_X11_43 ?_
    refine i_aload_n C dX11_flow_13 rfl (q := 0) rfl ?_
    refine i_getR C (k := 0) kX11 dX11_flow_14 (shT_0 hX) rfl (by decide) fl_X11_12 ?_
    refine i_iload_n C dX11_flow_17 rfl (q := 1) rfl ?_
    refine i_ldc_w C dX11_flow_18 kc_X11_282 kI_m1000000005 ?_
    refine i_cI (kc' := 0) (ks' := 0) 0 0 4 (fun q hq hM hS => crV C (as := [aR 100, aI x1, aI (-1000000005)]) dX11_flow_21.1 kX10 (shT_9 hX) ml_X11_307 cal_X10_greatest cv_X10_greatest (hRm ⟨Nat.le_of_ble_eq_true rfl, Nat.le_of_ble_eq_true rfl⟩) rfl (Nat.le_of_ble_eq_true rfl) (c_X10_greatest (xl X) (xG X) hX isC_100 hM ⟨hS.2.2.2.1, hS.2.2.1, hS.2.1, hS.1, trivial⟩ hq)) (Nat.le_of_ble_eq_true rfl) (Nat.le_of_ble_eq_true rfl) rfl rfl rfl (fun v4 M3 => ?_)
    refine i_goto (tgt := 29) C dX11_flow_24 (by decide) ?_
    exact i_iret C hq dX11_flow_29
set_option maxRecDepth 100000 in
set_option maxHeartbeats 4000000 in
theorem c_X11_lack (l : Launch) (G : Gx) {K : Kx} (hK : K = kP) {x1 : Int} {M : Mem} {res : Int × Mem} (hM : OkM M) (ha : okS [aR 0, aI x1]) (hF : pTop_lack x1 M = some res) : Ct l G K yX11_lack (wsM yX11_lack cX11_lack 2 (some .int)) rmX11_lack [aR 0, aI x1] M (some (aI res.1)) res.2 := by
  refine ct_of RX11 (by decide +kernel) rfl (hK ▸ kP_ok) hM ha (Nat.le_of_ble_eq_true rfl) hF ?_
  intro X C hl hG hX0 hN hR hq
  have hX : xK X = kP := hX0.trans hK
  show Im X 0 0 0 [(0, aR 0), (1, aI x1)] [] M res (pTop_lack x1 M)
  unfold pTop_lack
  have hRm : ∀ {rm : Room} {ny : Nat}, RmOk rmX11_lack rm ny → RmOk (xR X) rm ny := fun h => by rw [hR]; exact h
  refine i_iload_n C dX11_lack_0 rfl (q := 1) rfl ?_
  refine i_cI (kc' := 0) (ks' := 0) 0 0 1 (fun q hq hM hS => crS C (as := [aI x1]) dX11_lack_1.1 ml_X11_70 cal_X11_isSide st_X11_isSide (hRm ⟨Nat.le_of_ble_eq_true rfl, Nat.le_of_ble_eq_true rfl⟩) rfl (Nat.le_of_ble_eq_true rfl) (c_X11_isSide (xl X) (xG X) hX hM ⟨hS.1, trivial⟩ hq)) (Nat.le_of_ble_eq_true rfl) (Nat.le_of_ble_eq_true rfl) rfl rfl rfl (fun v2 M1 => ?_)
  refine i_if_eq (tgt := 36) C dX11_lack_4 (by decide) ?_ ?_
  · refine i_ldc C dX11_lack_36 kc_X11_74 kI_m1000000001 ?_
    exact i_iret C hq dX11_lack_38
  · refine i_aload_n C dX11_lack_7 rfl (q := 0) rfl ?_
    refine i_getR C (k := 0) kX11 dX11_lack_8 (shT_0 hX) rfl (by decide) fl_X11_12 ?_
    refine i_iload_n C dX11_lack_11 rfl (q := 1) rfl ?_
    refine i_cI (kc' := 0) (ks' := 0) 0 0 2 (fun q hq hM hS => crV C (as := [aI x1]) dX11_lack_12.1 kX0 (shP_0 hX isC_100) ml_X11_311 cal_X0_usesOf cv_X0_usesOf (hRm ⟨Nat.le_of_ble_eq_true rfl, Nat.le_of_ble_eq_true rfl⟩) rfl (Nat.le_of_ble_eq_true rfl) (c_X0_usesOf (xl X) (xG X) hX isC_100 hM ⟨hS.2.1, hS.1, trivial⟩ hq)) (Nat.le_of_ble_eq_true rfl) (Nat.le_of_ble_eq_true rfl) rfl rfl rfl (fun v4 M3 => ?_)
    refine i_aload_n C dX11_lack_15 rfl (q := 0) rfl ?_
    refine i_getR C (k := 6) kX11 dX11_lack_16 (shT_0 hX) rfl (by decide) fl_X11_43 ?_
    refine i_aload_n C dX11_lack_19 rfl (q := 0) rfl ?_
    refine i_getR C (k := 0) kX11 dX11_lack_20 (shT_0 hX) rfl (by decide) fl_X11_12 ?_
    refine i_iconst C dX11_lack_23 kI_1 ?_
    refine i_iload_n C dX11_lack_24 rfl (q := 1) rfl ?_
    refine i_ishl C dX11_lack_25 ?_
    refine i_ldc_w C dX11_lack_26 kc_X11_282 kI_m1000000005 ?_
    refine i_cI (kc' := 0) (ks' := 0) 0 0 4 (fun q hq hM hS => crV C (as := [aR 100, aI (bShl 1 x1), aI (-1000000005)]) dX11_lack_29.1 kX10 (shT_9 hX) ml_X11_307 cal_X10_greatest cv_X10_greatest (hRm ⟨Nat.le_of_ble_eq_true rfl, Nat.le_of_ble_eq_true rfl⟩) rfl (Nat.le_of_ble_eq_true rfl) (c_X10_greatest (xl X) (xG X) hX isC_100 hM ⟨hS.2.2.2.1, hS.2.2.1, hS.2.1, hS.1, trivial⟩ hq)) (Nat.le_of_ble_eq_true rfl) (Nat.le_of_ble_eq_true rfl) rfl rfl rfl (fun v6 M5 => ?_)
    refine i_isub C dX11_lack_32 ?_
    refine i_goto (tgt := 38) C dX11_lack_33 (by decide) ?_
    exact i_iret C hq dX11_lack_38
set_option maxRecDepth 100000 in
set_option maxHeartbeats 4000000 in
theorem c_X11_need (l : Launch) (G : Gx) {K : Kx} (hK : K = kP) {x1 : Int} {x2 : Int} {M : Mem} {res : Int × Mem} (hM : OkM M) (ha : okS [aR 0, aI x1, aI x2]) (hF : pTop_need x1 x2 M = some res) : Ct l G K yX11_need (wsM yX11_need cX11_need 3 (some .int)) rmX11_need [aR 0, aI x1, aI x2] M (some (aI res.1)) res.2 := by
  refine ct_of RX11 (by decide +kernel) rfl (hK ▸ kP_ok) hM ha (Nat.le_of_ble_eq_true rfl) hF ?_
  intro X C hl hG hX0 hN hR hq
  have hX : xK X = kP := hX0.trans hK
  show Im X 0 0 0 [(0, aR 0), (1, aI x1), (2, aI x2)] [] M res (pTop_need x1 x2 M)
  unfold pTop_need
  have hRm : ∀ {rm : Room} {ny : Nat}, RmOk rmX11_need rm ny → RmOk (xR X) rm ny := fun h => by rw [hR]; exact h
  refine i_aload_n C dX11_need_0 rfl (q := 0) rfl ?_
  refine i_getR C (k := 0) kX11 dX11_need_1 (shT_0 hX) rfl (by decide) fl_X11_12 ?_
  refine i_getR C (k := 8) kX0 dX11_need_4 (shP_0 hX isC_100) rfl (by decide) fl_X11_151 ?_
  refine i_iload_n C dX11_need_7 rfl (q := 1) rfl ?_
  refine i_cI (kc' := 0) (ks' := 0) 0 0 2 (fun q hq hM hS => crV C (as := [aI x1]) dX11_need_8.1 kX9 (shP_15 hX isC_100) ml_X11_187 cal_X9_has cv_X9_has (hRm ⟨Nat.le_of_ble_eq_true rfl, Nat.le_of_ble_eq_true rfl⟩) rfl (Nat.le_of_ble_eq_true rfl) (c_X9_has (xl X) (xG X) hX isC_100 hM ⟨hS.2.1, hS.1, trivial⟩ hq)) (Nat.le_of_ble_eq_true rfl) (Nat.le_of_ble_eq_true rfl) rfl rfl rfl (fun v2 M1 => ?_)
  refine i_if_eq (tgt := 21) C dX11_need_11 (by decide) ?_ ?_
  · refine i_ldc C dX11_need_21 kc_X11_74 kI_m1000000001 ?_
    exact i_iret C hq dX11_need_23
  · refine i_iload_n C dX11_need_14 rfl (q := 2) rfl ?_
    refine i_cI (kc' := 0) (ks' := 0) 0 0 1 (fun q hq hM hS => crS C (as := [aI x2]) dX11_need_15.1 ml_X11_70 cal_X11_isSide st_X11_isSide (hRm ⟨Nat.le_of_ble_eq_true rfl, Nat.le_of_ble_eq_true rfl⟩) rfl (Nat.le_of_ble_eq_true rfl) (c_X11_isSide (xl X) (xG X) hX hM ⟨hS.1, trivial⟩ hq)) (Nat.le_of_ble_eq_true rfl) (Nat.le_of_ble_eq_true rfl) rfl rfl rfl (fun v4 M3 => ?_)
    refine i_if_ne (tgt := 24) C dX11_need_18 (by decide) ?_ ?_
    · refine i_aload_n C dX11_need_24 rfl (q := 0) rfl ?_
      refine i_getR C (k := 0) kX11 dX11_need_25 (shT_0 hX) rfl (by decide) fl_X11_12 ?_
      refine i_getR C (k := 8) kX0 dX11_need_28 (shP_0 hX isC_100) rfl (by decide) fl_X11_151 ?_
      refine i_getR C (k := 1) kX9 dX11_need_31 (shP_15 hX isC_100) rfl (by decide) fl_X11_188 ?_
      refine i_iload_n C dX11_need_34 rfl (q := 1) rfl ?_
      refine i_ald C dX11_need_35 (shP_16 hX isC_100) (fun v5 => ?_)
      refine i_iconst C dX11_need_36 kI_3 ?_
      refine i_icmp_eq (tgt := 43) C dX11_need_37 (by decide) ?_ ?_
      · refine i_aload_n C dX11_need_43 rfl (q := 0) rfl ?_
        refine i_getR C (k := 6) kX11 dX11_need_44 (shT_0 hX) rfl (by decide) fl_X11_43 ?_
        refine i_aload_n C dX11_need_47 rfl (q := 0) rfl ?_
        refine i_getR C (k := 0) kX11 dX11_need_48 (shT_0 hX) rfl (by decide) fl_X11_12 ?_
        refine i_iconst C dX11_need_51 kI_1 ?_
        refine i_iload_n C dX11_need_52 rfl (q := 2) rfl ?_
        refine i_ishl C dX11_need_53 ?_
        refine i_ldc_w C dX11_need_54 kc_X11_282 kI_m1000000005 ?_
        refine i_cI (kc' := 0) (ks' := 0) 0 0 4 (fun q hq hM hS => crV C (as := [aR 100, aI (bShl 1 x2), aI (-1000000005)]) dX11_need_57.1 kX10 (shT_9 hX) ml_X11_307 cal_X10_greatest cv_X10_greatest (hRm ⟨Nat.le_of_ble_eq_true rfl, Nat.le_of_ble_eq_true rfl⟩) rfl (Nat.le_of_ble_eq_true rfl) (c_X10_greatest (xl X) (xG X) hX isC_100 hM ⟨hS.2.2.2.1, hS.2.2.1, hS.2.1, hS.1, trivial⟩ hq)) (Nat.le_of_ble_eq_true rfl) (Nat.le_of_ble_eq_true rfl) rfl rfl rfl (fun v7 M6 => ?_)
        refine i_aload_n C dX11_need_60 rfl (q := 0) rfl ?_
        refine i_getR C (k := 6) kX11 dX11_need_61 (shT_0 hX) rfl (by decide) fl_X11_43 ?_
        refine i_aload_n C dX11_need_64 rfl (q := 0) rfl ?_
        refine i_getR C (k := 0) kX11 dX11_need_65 (shT_0 hX) rfl (by decide) fl_X11_12 ?_
        refine i_iconst C dX11_need_68 kI_1 ?_
        refine i_iload_n C dX11_need_69 rfl (q := 2) rfl ?_
        refine i_ishl C dX11_need_70 ?_
        refine i_iload_n C dX11_need_71 rfl (q := 1) rfl ?_
        refine i_cI (kc' := 0) (ks' := 0) 0 0 4 (fun q hq hM hS => crV C (as := [aR 100, aI (bShl 1 x2), aI x1]) dX11_need_72.1 kX10 (shT_9 hX) ml_X11_307 cal_X10_greatest cv_X10_greatest (hRm ⟨Nat.le_of_ble_eq_true rfl, Nat.le_of_ble_eq_true rfl⟩) rfl (Nat.le_of_ble_eq_true rfl) (c_X10_greatest (xl X) (xG X) hX isC_100 hM ⟨hS.2.2.2.1, hS.2.2.1, hS.2.1, hS.1, trivial⟩ hq)) (Nat.le_of_ble_eq_true rfl) (Nat.le_of_ble_eq_true rfl) rfl rfl rfl (fun v9 M8 => ?_)
        refine i_isub C dX11_need_75 ?_
        exact i_iret C hq dX11_need_76
      · refine i_ldc C dX11_need_40 kc_X11_200 kI_m1000000012 ?_
        exact i_iret C hq dX11_need_42
    · refine i_ldc C dX11_need_21 kc_X11_74 kI_m1000000001 ?_
      exact i_iret C hq dX11_need_23
set_option maxRecDepth 100000 in
set_option maxHeartbeats 4000000 in
theorem c_X11_stop (l : Launch) (G : Gx) {K : Kx} (hK : K = kP) {x1 : Int} {x2 : Int} {x3 : Int} {M : Mem} {res : Int × Mem} (hM : OkM M) (ha : okS [aR 0, aI x1, aI x2, aI x3]) (hF : pTop_stop x1 x2 x3 M = some res) : Ct l G K yX11_stop (wsM yX11_stop cX11_stop 4 (some .int)) rmX11_stop [aR 0, aI x1, aI x2, aI x3] M (some (aI res.1)) res.2 := by
  refine ct_of RX11 (by decide +kernel) rfl (hK ▸ kP_ok) hM ha (Nat.le_of_ble_eq_true rfl) hF ?_
  intro X C hl hG hX0 hN hR hq
  have hX : xK X = kP := hX0.trans hK
  show Im X 0 0 0 [(0, aR 0), (1, aI x1), (2, aI x2), (3, aI x3)] [] M res (pTop_stop x1 x2 x3 M)
  unfold pTop_stop
  have hRm : ∀ {rm : Room} {ny : Nat}, RmOk rmX11_stop rm ny → RmOk (xR X) rm ny := fun h => by rw [hR]; exact h
  refine i_aload_n C dX11_stop_0 rfl (q := 0) rfl ?_
  refine i_getR C (k := 0) kX11 dX11_stop_1 (shT_0 hX) rfl (by decide) fl_X11_12 ?_
  refine i_getR C (k := 8) kX0 dX11_stop_4 (shP_0 hX isC_100) rfl (by decide) fl_X11_151 ?_
  refine i_iload_n C dX11_stop_7 rfl (q := 1) rfl ?_
  refine i_cI (kc' := 0) (ks' := 0) 0 0 2 (fun q hq hM hS => crV C (as := [aI x1]) dX11_stop_8.1 kX9 (shP_15 hX isC_100) ml_X11_187 cal_X9_has cv_X9_has (hRm ⟨Nat.le_of_ble_eq_true rfl, Nat.le_of_ble_eq_true rfl⟩) rfl (Nat.le_of_ble_eq_true rfl) (c_X9_has (xl X) (xG X) hX isC_100 hM ⟨hS.2.1, hS.1, trivial⟩ hq)) (Nat.le_of_ble_eq_true rfl) (Nat.le_of_ble_eq_true rfl) rfl rfl rfl (fun v2 M1 => ?_)
  refine i_if_eq (tgt := 35) C dX11_stop_11 (by decide) ?_ ?_
  · refine i_ldc C dX11_stop_35 kc_X11_74 kI_m1000000001 ?_
    exact i_iret C hq dX11_stop_37
  · refine i_aload_n C dX11_stop_14 rfl (q := 0) rfl ?_
    refine i_getR C (k := 0) kX11 dX11_stop_15 (shT_0 hX) rfl (by decide) fl_X11_12 ?_
    refine i_iload_n C dX11_stop_18 rfl (q := 2) rfl ?_
    refine i_cI (kc' := 0) (ks' := 0) 0 0 2 (fun q hq hM hS => crV C (as := [aI x2]) dX11_stop_19.1 kX0 (shP_0 hX isC_100) ml_X11_83 cal_X0_hasCell cv_X0_hasCell (hRm ⟨Nat.le_of_ble_eq_true rfl, Nat.le_of_ble_eq_true rfl⟩) rfl (Nat.le_of_ble_eq_true rfl) (c_X0_hasCell (xl X) (xG X) hX isC_100 hM ⟨hS.2.1, hS.1, trivial⟩ hq)) (Nat.le_of_ble_eq_true rfl) (Nat.le_of_ble_eq_true rfl) rfl rfl rfl (fun v4 M3 => ?_)
    refine i_if_eq (tgt := 35) C dX11_stop_22 (by decide) ?_ ?_
    · refine i_ldc C dX11_stop_35 kc_X11_74 kI_m1000000001 ?_
      exact i_iret C hq dX11_stop_37
    · refine i_iload_n C dX11_stop_25 rfl (q := 3) rfl ?_
      refine i_iconst C dX11_stop_26 kI_0 ?_
      refine i_bipush C dX11_stop_27 kB_59 ?_
      refine i_cI (kc' := 0) (ks' := 0) 0 0 3 (fun q hq hM hS => crS C (as := [aI x3, aI 0, aI 59]) dX11_stop_29.1 ml_X11_86 cal_X11_within st_X11_within (hRm ⟨Nat.le_of_ble_eq_true rfl, Nat.le_of_ble_eq_true rfl⟩) rfl (Nat.le_of_ble_eq_true rfl) (c_X11_within (xl X) (xG X) hX hM ⟨hS.2.2.1, hS.2.1, hS.1, trivial⟩ hq)) (Nat.le_of_ble_eq_true rfl) (Nat.le_of_ble_eq_true rfl) rfl rfl rfl (fun v6 M5 => ?_)
      refine i_if_ne (tgt := 38) C dX11_stop_32 (by decide) ?_ ?_
      · refine i_aload_n C dX11_stop_38 rfl (q := 0) rfl ?_
        refine i_getR C (k := 0) kX11 dX11_stop_39 (shT_0 hX) rfl (by decide) fl_X11_12 ?_
        refine i_getR C (k := 8) kX0 dX11_stop_42 (shP_0 hX isC_100) rfl (by decide) fl_X11_151 ?_
        refine i_getR C (k := 1) kX9 dX11_stop_45 (shP_15 hX isC_100) rfl (by decide) fl_X11_188 ?_
        refine i_iload_n C dX11_stop_48 rfl (q := 1) rfl ?_
        refine i_ald C dX11_stop_49 (shP_16 hX isC_100) (fun v7 => ?_)
        refine i_iconst C dX11_stop_50 kI_2 ?_
        refine i_icmp_eq (tgt := 57) C dX11_stop_51 (by decide) ?_ ?_
        · refine i_aload_n C dX11_stop_57 rfl (q := 0) rfl ?_
          refine i_getR C (k := 0) kX11 dX11_stop_58 (shT_0 hX) rfl (by decide) fl_X11_12 ?_
          refine i_getR C (k := 8) kX0 dX11_stop_61 (shP_0 hX isC_100) rfl (by decide) fl_X11_151 ?_
          refine i_getR C (k := 11) kX9 dX11_stop_64 (shP_15 hX isC_100) rfl (by decide) fl_X11_314 ?_
          refine i_iload_n C dX11_stop_67 rfl (q := 1) rfl ?_
          refine i_ald C dX11_stop_68 (shP_26 hX isC_100) (fun v8 => ?_)
          refine i_bipush C dX11_stop_69 kB_8 ?_
          refine i_icmp_ne (tgt := 77) C dX11_stop_71 (by decide) ?_ ?_
          · refine i_aload_n C dX11_stop_77 rfl (q := 0) rfl ?_
            refine i_getR C (k := 0) kX11 dX11_stop_78 (shT_0 hX) rfl (by decide) fl_X11_12 ?_
            refine i_getR C (k := 8) kX0 dX11_stop_81 (shP_0 hX isC_100) rfl (by decide) fl_X11_151 ?_
            refine i_iload_n C dX11_stop_84 rfl (q := 1) rfl ?_
            refine i_iload_n C dX11_stop_85 rfl (q := 2) rfl ?_
            refine i_iload_n C dX11_stop_86 rfl (q := 3) rfl ?_
            refine i_cI (kc' := 0) (ks' := 0) 0 0 4 (fun q hq hM hS => crV C (as := [aI x1, aI x2, aI x3]) dX11_stop_87.1 kX9 (shP_15 hX isC_100) ml_X11_317 cal_X9_addStop cv_X9_addStop (hRm ⟨Nat.le_of_ble_eq_true rfl, Nat.le_of_ble_eq_true rfl⟩) rfl (Nat.le_of_ble_eq_true rfl) (c_X9_addStop (xl X) (xG X) hX isC_100 hM ⟨hS.2.2.2.1, hS.2.2.1, hS.2.1, hS.1, trivial⟩ hq)) (Nat.le_of_ble_eq_true rfl) (Nat.le_of_ble_eq_true rfl) rfl rfl rfl (fun v10 M9 => ?_)
            exact i_iret C hq dX11_stop_90
          · refine i_ldc C dX11_stop_74 kc_X11_78 kI_m1000000003 ?_
            exact i_iret C hq dX11_stop_76
        · refine i_ldc C dX11_stop_54 kc_X11_200 kI_m1000000012 ?_
          exact i_iret C hq dX11_stop_56
      · refine i_ldc C dX11_stop_35 kc_X11_74 kI_m1000000001 ?_
        exact i_iret C hq dX11_stop_37
set_option maxRecDepth 100000 in
set_option maxHeartbeats 4000000 in
theorem c_X11_train (l : Launch) (G : Gx) {K : Kx} (hK : K = kP) {x1 : Int} {x2 : Int} {x3 : Int} {x4 : Int} {M : Mem} {res : Int × Mem} (hM : OkM M) (ha : okS [aR 0, aI x1, aI x2, aI x3, aI x4]) (hF : pTop_train x1 x2 x3 x4 M = some res) : Ct l G K yX11_train (wsM yX11_train cX11_train 5 (some .int)) rmX11_train [aR 0, aI x1, aI x2, aI x3, aI x4] M (some (aI res.1)) res.2 := by
  refine ct_of RX11 (by decide +kernel) rfl (hK ▸ kP_ok) hM ha (Nat.le_of_ble_eq_true rfl) hF ?_
  intro X C hl hG hX0 hN hR hq
  have hX : xK X = kP := hX0.trans hK
  show Im X 0 0 0 [(0, aR 0), (1, aI x1), (2, aI x2), (3, aI x3), (4, aI x4)] [] M res (pTop_train x1 x2 x3 x4 M)
  unfold pTop_train
  have hRm : ∀ {rm : Room} {ny : Nat}, RmOk rmX11_train rm ny → RmOk (xR X) rm ny := fun h => by rw [hR]; exact h
  refine i_aload_n C dX11_train_0 rfl (q := 0) rfl ?_
  refine i_getR C (k := 0) kX11 dX11_train_1 (shT_0 hX) rfl (by decide) fl_X11_12 ?_
  refine i_getR C (k := 8) kX0 dX11_train_4 (shP_0 hX isC_100) rfl (by decide) fl_X11_151 ?_
  refine i_iload_n C dX11_train_7 rfl (q := 1) rfl ?_
  refine i_cI (kc' := 0) (ks' := 0) 0 0 2 (fun q hq hM hS => crV C (as := [aI x1]) dX11_train_8.1 kX9 (shP_15 hX isC_100) ml_X11_187 cal_X9_has cv_X9_has (hRm ⟨Nat.le_of_ble_eq_true rfl, Nat.le_of_ble_eq_true rfl⟩) rfl (Nat.le_of_ble_eq_true rfl) (c_X9_has (xl X) (xG X) hX isC_100 hM ⟨hS.2.1, hS.1, trivial⟩ hq)) (Nat.le_of_ble_eq_true rfl) (Nat.le_of_ble_eq_true rfl) rfl rfl rfl (fun v2 M1 => ?_)
  refine i_if_eq (tgt := 34) C dX11_train_11 (by decide) ?_ ?_
  · refine i_ldc C dX11_train_34 kc_X11_74 kI_m1000000001 ?_
    exact i_iret C hq dX11_train_36
  · refine i_iload_n C dX11_train_14 rfl (q := 2) rfl ?_
    refine i_iconst C dX11_train_15 kI_0 ?_
    refine i_bipush C dX11_train_16 kB_59 ?_
    refine i_cI (kc' := 0) (ks' := 0) 0 0 3 (fun q hq hM hS => crS C (as := [aI x2, aI 0, aI 59]) dX11_train_18.1 ml_X11_86 cal_X11_within st_X11_within (hRm ⟨Nat.le_of_ble_eq_true rfl, Nat.le_of_ble_eq_true rfl⟩) rfl (Nat.le_of_ble_eq_true rfl) (c_X11_within (xl X) (xG X) hX hM ⟨hS.2.2.1, hS.2.1, hS.1, trivial⟩ hq)) (Nat.le_of_ble_eq_true rfl) (Nat.le_of_ble_eq_true rfl) rfl rfl rfl (fun v4 M3 => ?_)
    refine i_if_eq (tgt := 34) C dX11_train_21 (by decide) ?_ ?_
    · refine i_ldc C dX11_train_34 kc_X11_74 kI_m1000000001 ?_
      exact i_iret C hq dX11_train_36
    · refine i_iload C dX11_train_24 (q := 4) rfl ?_
      refine i_iconst C dX11_train_26 kI_0 ?_
      refine i_iconst C dX11_train_27 kI_1 ?_
      refine i_cI (kc' := 0) (ks' := 0) 0 0 3 (fun q hq hM hS => crS C (as := [aI x4, aI 0, aI 1]) dX11_train_28.1 ml_X11_86 cal_X11_within st_X11_within (hRm ⟨Nat.le_of_ble_eq_true rfl, Nat.le_of_ble_eq_true rfl⟩) rfl (Nat.le_of_ble_eq_true rfl) (c_X11_within (xl X) (xG X) hX hM ⟨hS.2.2.1, hS.2.1, hS.1, trivial⟩ hq)) (Nat.le_of_ble_eq_true rfl) (Nat.le_of_ble_eq_true rfl) rfl rfl rfl (fun v6 M5 => ?_)
      refine i_if_ne (tgt := 37) C dX11_train_31 (by decide) ?_ ?_
      · refine i_aload_n C dX11_train_37 rfl (q := 0) rfl ?_
        refine i_getR C (k := 0) kX11 dX11_train_38 (shT_0 hX) rfl (by decide) fl_X11_12 ?_
        refine i_getR C (k := 8) kX0 dX11_train_41 (shP_0 hX isC_100) rfl (by decide) fl_X11_151 ?_
        refine i_getR C (k := 1) kX9 dX11_train_44 (shP_15 hX isC_100) rfl (by decide) fl_X11_188 ?_
        refine i_iload_n C dX11_train_47 rfl (q := 1) rfl ?_
        refine i_ald C dX11_train_48 (shP_16 hX isC_100) (fun v7 => ?_)
        refine i_iconst C dX11_train_49 kI_2 ?_
        refine i_icmp_eq (tgt := 56) C dX11_train_50 (by decide) ?_ ?_
        · refine i_iload_n C dX11_train_56 rfl (q := 3) rfl ?_
          refine i_iconst C dX11_train_57 kI_0 ?_
          refine i_aload_n C dX11_train_58 rfl (q := 0) rfl ?_
          refine i_getR C (k := 0) kX11 dX11_train_59 (shT_0 hX) rfl (by decide) fl_X11_12 ?_
          refine i_getR C (k := 8) kX0 dX11_train_62 (shP_0 hX isC_100) rfl (by decide) fl_X11_151 ?_
          refine i_getR C (k := 11) kX9 dX11_train_65 (shP_15 hX isC_100) rfl (by decide) fl_X11_314 ?_
          refine i_iload_n C dX11_train_68 rfl (q := 1) rfl ?_
          refine i_ald C dX11_train_69 (shP_26 hX isC_100) (fun v8 => ?_)
          refine i_iconst C dX11_train_70 kI_1 ?_
          refine i_isub C dX11_train_71 ?_
          refine i_cI (kc' := 0) (ks' := 0) 0 0 3 (fun q hq hM hS => crS C (as := [aI x3, aI 0, aI (w32 (v8 - 1))]) dX11_train_72.1 ml_X11_86 cal_X11_within st_X11_within (hRm ⟨Nat.le_of_ble_eq_true rfl, Nat.le_of_ble_eq_true rfl⟩) rfl (Nat.le_of_ble_eq_true rfl) (c_X11_within (xl X) (xG X) hX hM ⟨hS.2.2.1, hS.2.1, hS.1, trivial⟩ hq)) (Nat.le_of_ble_eq_true rfl) (Nat.le_of_ble_eq_true rfl) rfl rfl rfl (fun v10 M9 => ?_)
          refine i_if_ne (tgt := 82) C dX11_train_75 (by decide) ?_ ?_
          · refine i_aload_n C dX11_train_82 rfl (q := 0) rfl ?_
            refine i_getR C (k := 0) kX11 dX11_train_83 (shT_0 hX) rfl (by decide) fl_X11_12 ?_
            refine i_iload_n C dX11_train_86 rfl (q := 1) rfl ?_
            refine i_iload_n C dX11_train_87 rfl (q := 2) rfl ?_
            refine i_iload_n C dX11_train_88 rfl (q := 3) rfl ?_
            refine i_iload C dX11_train_89 (q := 4) rfl ?_
            refine i_cI (kc' := 0) (ks' := 0) 0 0 5 (fun q hq hM hS => crV C (as := [aI x1, aI x2, aI x3, aI x4]) dX11_train_91.1 kX0 (shP_0 hX isC_100) ml_X11_320 cal_X0_ride cv_X0_ride (hRm ⟨Nat.le_of_ble_eq_true rfl, Nat.le_of_ble_eq_true rfl⟩) rfl (Nat.le_of_ble_eq_true rfl) (c_X0_ride (xl X) (xG X) hX isC_100 hM ⟨hS.2.2.2.2.1, hS.2.2.2.1, hS.2.2.1, hS.2.1, hS.1, trivial⟩ hq)) (Nat.le_of_ble_eq_true rfl) (Nat.le_of_ble_eq_true rfl) rfl rfl rfl (fun v12 M11 => ?_)
            exact i_iret C hq dX11_train_94
          · refine i_ldc_w C dX11_train_78 kc_X11_282 kI_m1000000005 ?_
            exact i_iret C hq dX11_train_81
        · refine i_ldc C dX11_train_53 kc_X11_200 kI_m1000000012 ?_
          exact i_iret C hq dX11_train_55
      · refine i_ldc C dX11_train_34 kc_X11_74 kI_m1000000001 ?_
        exact i_iret C hq dX11_train_36
set_option maxRecDepth 100000 in
set_option maxHeartbeats 4000000 in
theorem c_X11_file (l : Launch) (G : Gx) {K : Kx} (hK : K = kP) {x1 : Int} {x2 : Int} {x3 : Int} {M : Mem} {res : Int × Mem} (hM : OkM M) (ha : okS [aR 0, aI x1, aI x2, aI x3]) (hF : pTop_file x1 x2 x3 M = some res) : Ct l G K yX11_file (wsM yX11_file cX11_file 4 (some .int)) rmX11_file [aR 0, aI x1, aI x2, aI x3] M (some (aI res.1)) res.2 := by
  refine ct_of RX11 (by decide +kernel) rfl (hK ▸ kP_ok) hM ha (Nat.le_of_ble_eq_true rfl) hF ?_
  intro X C hl hG hX0 hN hR hq
  have hX : xK X = kP := hX0.trans hK
  show Im X 0 0 0 [(0, aR 0), (1, aI x1), (2, aI x2), (3, aI x3)] [] M res (pTop_file x1 x2 x3 M)
  unfold pTop_file
  have hRm : ∀ {rm : Room} {ny : Nat}, RmOk rmX11_file rm ny → RmOk (xR X) rm ny := fun h => by rw [hR]; exact h
  refine i_iload_n C dX11_file_0 rfl (q := 1) rfl ?_
  refine i_cI (kc' := 0) (ks' := 0) 0 0 1 (fun q hq hM hS => crS C (as := [aI x1]) dX11_file_1.1 ml_X11_70 cal_X11_isSide st_X11_isSide (hRm ⟨Nat.le_of_ble_eq_true rfl, Nat.le_of_ble_eq_true rfl⟩) rfl (Nat.le_of_ble_eq_true rfl) (c_X11_isSide (xl X) (xG X) hX hM ⟨hS.1, trivial⟩ hq)) (Nat.le_of_ble_eq_true rfl) (Nat.le_of_ble_eq_true rfl) rfl rfl rfl (fun v2 M1 => ?_)
  refine i_if_eq (tgt := 28) C dX11_file_4 (by decide) ?_ ?_
  · refine i_ldc C dX11_file_28 kc_X11_74 kI_m1000000001 ?_
    exact i_iret C hq dX11_file_30
  · refine i_iload_n C dX11_file_7 rfl (q := 2) rfl ?_
    refine i_iconst C dX11_file_8 kI_0 ?_
    refine i_sipush C dX11_file_9 kS_9999 ?_
    refine i_cI (kc' := 0) (ks' := 0) 0 0 3 (fun q hq hM hS => crS C (as := [aI x2, aI 0, aI 9999]) dX11_file_12.1 ml_X11_86 cal_X11_within st_X11_within (hRm ⟨Nat.le_of_ble_eq_true rfl, Nat.le_of_ble_eq_true rfl⟩) rfl (Nat.le_of_ble_eq_true rfl) (c_X11_within (xl X) (xG X) hX hM ⟨hS.2.2.1, hS.2.1, hS.1, trivial⟩ hq)) (Nat.le_of_ble_eq_true rfl) (Nat.le_of_ble_eq_true rfl) rfl rfl rfl (fun v4 M3 => ?_)
    refine i_if_eq (tgt := 28) C dX11_file_15 (by decide) ?_ ?_
    · refine i_ldc C dX11_file_28 kc_X11_74 kI_m1000000001 ?_
      exact i_iret C hq dX11_file_30
    · refine i_iload_n C dX11_file_18 rfl (q := 3) rfl ?_
      refine i_iconst C dX11_file_19 kI_0 ?_
      refine i_bipush C dX11_file_20 kB_99 ?_
      refine i_cI (kc' := 0) (ks' := 0) 0 0 3 (fun q hq hM hS => crS C (as := [aI x3, aI 0, aI 99]) dX11_file_22.1 ml_X11_86 cal_X11_within st_X11_within (hRm ⟨Nat.le_of_ble_eq_true rfl, Nat.le_of_ble_eq_true rfl⟩) rfl (Nat.le_of_ble_eq_true rfl) (c_X11_within (xl X) (xG X) hX hM ⟨hS.2.2.1, hS.2.1, hS.1, trivial⟩ hq)) (Nat.le_of_ble_eq_true rfl) (Nat.le_of_ble_eq_true rfl) rfl rfl rfl (fun v6 M5 => ?_)
      refine i_if_ne (tgt := 31) C dX11_file_25 (by decide) ?_ ?_
      · refine i_aload_n C dX11_file_31 rfl (q := 0) rfl ?_
        refine i_getR C (k := 0) kX11 dX11_file_32 (shT_0 hX) rfl (by decide) fl_X11_12 ?_
        refine i_getR C (k := 11) kX0 dX11_file_35 (shP_0 hX isC_100) rfl (by decide) fl_X11_323 ?_
        refine i_getR C (k := 0) kX3 dX11_file_38 (shP_47 hX isC_100) rfl (by decide) fl_X11_327 ?_
        refine i_iload_n C dX11_file_41 rfl (q := 1) rfl ?_
        refine i_ald C dX11_file_42 (shP_48 hX isC_100) (fun v7 => ?_)
        refine i_bipush C dX11_file_43 kB_10 ?_
        refine i_icmp_ne (tgt := 51) C dX11_file_45 (by decide) ?_ ?_
        · refine i_aload_n C dX11_file_51 rfl (q := 0) rfl ?_
          refine i_getR C (k := 0) kX11 dX11_file_52 (shT_0 hX) rfl (by decide) fl_X11_12 ?_
          refine i_getR C (k := 11) kX0 dX11_file_55 (shP_0 hX isC_100) rfl (by decide) fl_X11_323 ?_
          refine i_iload_n C dX11_file_58 rfl (q := 1) rfl ?_
          refine i_iload_n C dX11_file_59 rfl (q := 2) rfl ?_
          refine i_iload_n C dX11_file_60 rfl (q := 3) rfl ?_
          refine i_cI (kc' := 0) (ks' := 0) 0 0 4 (fun q hq hM hS => crV C (as := [aI x1, aI x2, aI x3]) dX11_file_61.1 kX3 (shP_47 hX isC_100) ml_X11_331 cal_X3_addFile cv_X3_addFile (hRm ⟨Nat.le_of_ble_eq_true rfl, Nat.le_of_ble_eq_true rfl⟩) rfl (Nat.le_of_ble_eq_true rfl) (c_X3_addFile (xl X) (xG X) hX isC_100 hM ⟨hS.2.2.2.1, hS.2.2.1, hS.2.1, hS.1, trivial⟩ hq)) (Nat.le_of_ble_eq_true rfl) (Nat.le_of_ble_eq_true rfl) rfl rfl rfl (fun v9 M8 => ?_)
          exact i_iret C hq dX11_file_64
        · refine i_ldc C dX11_file_48 kc_X11_78 kI_m1000000003 ?_
          exact i_iret C hq dX11_file_50
      · refine i_ldc C dX11_file_28 kc_X11_74 kI_m1000000001 ?_
        exact i_iret C hq dX11_file_30
set_option maxRecDepth 100000 in
set_option maxHeartbeats 4000000 in
theorem c_X11_alike (l : Launch) (G : Gx) {K : Kx} (hK : K = kP) {x1 : Int} {x2 : Int} {M : Mem} {res : Int × Mem} (hM : OkM M) (ha : okS [aR 0, aI x1, aI x2]) (hF : pTop_alike x1 x2 M = some res) : Ct l G K yX11_alike (wsM yX11_alike cX11_alike 3 (some .int)) rmX11_alike [aR 0, aI x1, aI x2] M (some (aI res.1)) res.2 := by
  refine ct_of RX11 (by decide +kernel) rfl (hK ▸ kP_ok) hM ha (Nat.le_of_ble_eq_true rfl) hF ?_
  intro X C hl hG hX0 hN hR hq
  have hX : xK X = kP := hX0.trans hK
  show Im X 0 0 0 [(0, aR 0), (1, aI x1), (2, aI x2)] [] M res (pTop_alike x1 x2 M)
  unfold pTop_alike
  have hRm : ∀ {rm : Room} {ny : Nat}, RmOk rmX11_alike rm ny → RmOk (xR X) rm ny := fun h => by rw [hR]; exact h
  refine i_aload_n C dX11_alike_0 rfl (q := 0) rfl ?_
  refine i_getR C (k := 0) kX11 dX11_alike_1 (shT_0 hX) rfl (by decide) fl_X11_12 ?_
  refine i_getR C (k := 11) kX0 dX11_alike_4 (shP_0 hX isC_100) rfl (by decide) fl_X11_323 ?_
  refine i_iconst C dX11_alike_7 kI_0 ?_
  refine i_iload_n C dX11_alike_8 rfl (q := 1) rfl ?_
  refine i_cI (kc' := 0) (ks' := 0) 0 0 3 (fun q hq hM hS => crV C (as := [aI 0, aI x1]) dX11_alike_9.1 kX3 (shP_47 hX isC_100) ml_X11_334 cal_X3_has cv_X3_has (hRm ⟨Nat.le_of_ble_eq_true rfl, Nat.le_of_ble_eq_true rfl⟩) rfl (Nat.le_of_ble_eq_true rfl) (c_X3_has (xl X) (xG X) hX isC_100 hM ⟨hS.2.2.1, hS.2.1, hS.1, trivial⟩ hq)) (Nat.le_of_ble_eq_true rfl) (Nat.le_of_ble_eq_true rfl) rfl rfl rfl (fun v2 M1 => ?_)
  refine i_if_eq (tgt := 45) C dX11_alike_12 (by decide) ?_ ?_
  · refine i_ldc C dX11_alike_45 kc_X11_74 kI_m1000000001 ?_
    exact i_iret C hq dX11_alike_47
  · refine i_aload_n C dX11_alike_15 rfl (q := 0) rfl ?_
    refine i_getR C (k := 0) kX11 dX11_alike_16 (shT_0 hX) rfl (by decide) fl_X11_12 ?_
    refine i_getR C (k := 11) kX0 dX11_alike_19 (shP_0 hX isC_100) rfl (by decide) fl_X11_323 ?_
    refine i_iconst C dX11_alike_22 kI_1 ?_
    refine i_iload_n C dX11_alike_23 rfl (q := 2) rfl ?_
    refine i_cI (kc' := 0) (ks' := 0) 0 0 3 (fun q hq hM hS => crV C (as := [aI 1, aI x2]) dX11_alike_24.1 kX3 (shP_47 hX isC_100) ml_X11_334 cal_X3_has cv_X3_has (hRm ⟨Nat.le_of_ble_eq_true rfl, Nat.le_of_ble_eq_true rfl⟩) rfl (Nat.le_of_ble_eq_true rfl) (c_X3_has (xl X) (xG X) hX isC_100 hM ⟨hS.2.2.1, hS.2.1, hS.1, trivial⟩ hq)) (Nat.le_of_ble_eq_true rfl) (Nat.le_of_ble_eq_true rfl) rfl rfl rfl (fun v4 M3 => ?_)
    refine i_if_eq (tgt := 45) C dX11_alike_27 (by decide) ?_ ?_
    · refine i_ldc C dX11_alike_45 kc_X11_74 kI_m1000000001 ?_
      exact i_iret C hq dX11_alike_47
    · refine i_aload_n C dX11_alike_30 rfl (q := 0) rfl ?_
      refine i_getR C (k := 0) kX11 dX11_alike_31 (shT_0 hX) rfl (by decide) fl_X11_12 ?_
      refine i_getR C (k := 11) kX0 dX11_alike_34 (shP_0 hX isC_100) rfl (by decide) fl_X11_323 ?_
      refine i_iload_n C dX11_alike_37 rfl (q := 1) rfl ?_
      refine i_iload_n C dX11_alike_38 rfl (q := 2) rfl ?_
      refine i_cI (kc' := 0) (ks' := 0) 0 0 3 (fun q hq hM hS => crV C (as := [aI x1, aI x2]) dX11_alike_39.1 kX3 (shP_47 hX isC_100) ml_X11_336 cal_X3_likeness cv_X3_likeness (hRm ⟨Nat.le_of_ble_eq_true rfl, Nat.le_of_ble_eq_true rfl⟩) rfl (Nat.le_of_ble_eq_true rfl) (c_X3_likeness (xl X) (xG X) hX isC_100 hM ⟨hS.2.2.1, hS.2.1, hS.1, trivial⟩ hq)) (Nat.le_of_ble_eq_true rfl) (Nat.le_of_ble_eq_true rfl) rfl rfl rfl (fun v6 M5 => ?_)
      refine i_goto (tgt := 47) C dX11_alike_42 (by decide) ?_
      exact i_iret C hq dX11_alike_47
set_option maxRecDepth 100000 in
set_option maxHeartbeats 4000000 in
theorem c_X11_pairing (l : Launch) (G : Gx) {K : Kx} (hK : K = kP) {x1 : Int} {M : Mem} {res : Int × Mem} (hM : OkM M) (ha : okS [aR 0, aI x1]) (hF : pTop_pairing x1 M = some res) : Ct l G K yX11_pairing (wsM yX11_pairing cX11_pairing 2 (some .int)) rmX11_pairing [aR 0, aI x1] M (some (aI res.1)) res.2 := by
  refine ct_of RX11 (by decide +kernel) rfl (hK ▸ kP_ok) hM ha (Nat.le_of_ble_eq_true rfl) hF ?_
  intro X C hl hG hX0 hN hR hq
  have hX : xK X = kP := hX0.trans hK
  show Im X 1 11264 0 [(0, aR 0), (1, aI x1)] [] M res (pTop_pairing x1 M)
  unfold pTop_pairing
  have hRm : ∀ {rm : Room} {ny : Nat}, RmOk rmX11_pairing rm ny → RmOk (xR X) rm ny := fun h => by rw [hR]; exact h
  refine i_iload_n C dX11_pairing_0 rfl (q := 1) rfl ?_
  refine i_iconst C dX11_pairing_1 kI_0 ?_
  refine i_iconst C dX11_pairing_2 kI_1 ?_
  refine i_aload_n C dX11_pairing_3 rfl (q := 0) rfl ?_
  refine i_getR C (k := 0) kX11 dX11_pairing_4 (shT_0 hX) rfl (by decide) fl_X11_12 ?_
  refine i_getR C (k := 11) kX0 dX11_pairing_7 (shP_0 hX isC_100) rfl (by decide) fl_X11_323 ?_
  refine i_getR C (k := 0) kX3 dX11_pairing_10 (shP_47 hX isC_100) rfl (by decide) fl_X11_327 ?_
  refine i_iconst C dX11_pairing_13 kI_0 ?_
  refine i_ald C dX11_pairing_14 (shP_48 hX isC_100) (fun v1 => ?_)
  refine i_iadd C dX11_pairing_15 ?_
  refine i_cI (kc' := 1) (ks' := 11264) 0 0 3 (fun q hq hM hS => crS C (as := [aI x1, aI 0, aI (w32 (1 + v1))]) dX11_pairing_16.1 ml_X11_86 cal_X11_within st_X11_within (hRm ⟨Nat.le_of_ble_eq_true rfl, Nat.le_of_ble_eq_true rfl⟩) rfl (Nat.le_of_ble_eq_true rfl) (c_X11_within (xl X) (xG X) hX hM ⟨hS.2.2.1, hS.2.1, hS.1, trivial⟩ hq)) (Nat.le_of_ble_eq_true rfl) (Nat.le_of_ble_eq_true rfl) rfl rfl rfl (fun v3 M2 => ?_)
  refine i_if_ne (tgt := 25) C dX11_pairing_19 (by decide) ?_ ?_
  · refine i_aload_n C dX11_pairing_25 rfl (q := 0) rfl ?_
    refine i_getR C (k := 0) kX11 dX11_pairing_26 (shT_0 hX) rfl (by decide) fl_X11_12 ?_
    refine i_getR C (k := 11) kX0 dX11_pairing_29 (shP_0 hX isC_100) rfl (by decide) fl_X11_323 ?_
    refine i_cV (kc' := 0) (ks' := 0) 1 11264 1 (fun q hq hM hS => crV C (as := []) dX11_pairing_32.1 kX3 (shP_47 hX isC_100) ml_X11_339 cal_X3_findPairs cv_X3_findPairs (hRm ⟨Nat.le_of_ble_eq_true rfl, Nat.le_of_ble_eq_true rfl⟩) rfl (Nat.le_of_ble_eq_true rfl) (c_X3_findPairs (xl X) (xG X) hX isC_100 hM ⟨hS.1, trivial⟩ hq)) (Nat.le_of_ble_eq_true rfl) (Nat.le_of_ble_eq_true rfl) rfl rfl rfl (fun M4 => ?_)
    refine i_iload_n C dX11_pairing_35 rfl (q := 1) rfl ?_
    refine i_iconst C dX11_pairing_36 kI_2 ?_
    refine i_icmp_ge (tgt := 57) C dX11_pairing_37 (by decide) ?_ ?_
    · refine i_aload_n C dX11_pairing_57 rfl (q := 0) rfl ?_
      refine i_getR C (k := 0) kX11 dX11_pairing_58 (shT_0 hX) rfl (by decide) fl_X11_12 ?_
      refine i_getR C (k := 11) kX0 dX11_pairing_61 (shP_0 hX isC_100) rfl (by decide) fl_X11_323 ?_
      refine i_getR C (k := 4) kX3 dX11_pairing_64 (shP_47 hX isC_100) rfl (by decide) fl_X11_345 ?_
      refine i_iload_n C dX11_pairing_67 rfl (q := 1) rfl ?_
      refine i_iconst C dX11_pairing_68 kI_2 ?_
      refine i_isub C dX11_pairing_69 ?_
      refine i_ald C dX11_pairing_70 (shP_52 hX isC_100) (fun v5 => ?_)
      exact i_iret C hq dX11_pairing_71
    · refine i_aload_n C dX11_pairing_40 rfl (q := 0) rfl ?_
      refine i_getR C (k := 0) kX11 dX11_pairing_41 (shT_0 hX) rfl (by decide) fl_X11_12 ?_
      refine i_getR C (k := 11) kX0 dX11_pairing_44 (shP_0 hX isC_100) rfl (by decide) fl_X11_323 ?_
      refine i_getR C (k := 3) kX3 dX11_pairing_47 (shP_47 hX isC_100) rfl (by decide) fl_X11_342 ?_
      refine i_iconst C dX11_pairing_50 kI_2 ?_
      refine i_iload_n C dX11_pairing_51 rfl (q := 1) rfl ?_
      refine i_isub C dX11_pairing_52 ?_
      refine i_ald C dX11_pairing_53 (shP_51 hX isC_100) (fun v6 => ?_)
      refine i_goto (tgt := 71) C dX11_pairing_54 (by decide) ?_
      exact i_iret C hq dX11_pairing_71
  · refine i_ldc C dX11_pairing_22 kc_X11_74 kI_m1000000001 ?_
    exact i_iret C hq dX11_pairing_24
set_option maxRecDepth 100000 in
set_option maxHeartbeats 4000000 in
theorem c_X11_meter (l : Launch) (G : Gx) {K : Kx} (hK : K = kP) {x1 : Int} {x2 : Int} {x3 : Int} {M : Mem} {res : Int × Mem} (hM : OkM M) (ha : okS [aR 0, aI x1, aI x2, aI x3]) (hF : pTop_meter x1 x2 x3 M = some res) : Ct l G K yX11_meter (wsM yX11_meter cX11_meter 4 (some .int)) rmX11_meter [aR 0, aI x1, aI x2, aI x3] M (some (aI res.1)) res.2 := by
  refine ct_of RX11 (by decide +kernel) rfl (hK ▸ kP_ok) hM ha (Nat.le_of_ble_eq_true rfl) hF ?_
  intro X C hl hG hX0 hN hR hq
  have hX : xK X = kP := hX0.trans hK
  show Im X 0 0 0 [(0, aR 0), (1, aI x1), (2, aI x2), (3, aI x3)] [] M res (pTop_meter x1 x2 x3 M)
  unfold pTop_meter
  have hRm : ∀ {rm : Room} {ny : Nat}, RmOk rmX11_meter rm ny → RmOk (xR X) rm ny := fun h => by rw [hR]; exact h
  refine i_iload_n C dX11_meter_0 rfl (q := 1) rfl ?_
  refine i_cI (kc' := 0) (ks' := 0) 0 0 1 (fun q hq hM hS => crS C (as := [aI x1]) dX11_meter_1.1 ml_X11_70 cal_X11_isSide st_X11_isSide (hRm ⟨Nat.le_of_ble_eq_true rfl, Nat.le_of_ble_eq_true rfl⟩) rfl (Nat.le_of_ble_eq_true rfl) (c_X11_isSide (xl X) (xG X) hX hM ⟨hS.1, trivial⟩ hq)) (Nat.le_of_ble_eq_true rfl) (Nat.le_of_ble_eq_true rfl) rfl rfl rfl (fun v2 M1 => ?_)
  refine i_if_eq (tgt := 16) C dX11_meter_4 (by decide) ?_ ?_
  · refine i_ldc C dX11_meter_16 kc_X11_74 kI_m1000000001 ?_
    exact i_iret C hq dX11_meter_18
  · refine i_iload_n C dX11_meter_7 rfl (q := 2) rfl ?_
    refine i_iconst C dX11_meter_8 kI_m1 ?_
    refine i_iconst C dX11_meter_9 kI_1 ?_
    refine i_cI (kc' := 0) (ks' := 0) 0 0 3 (fun q hq hM hS => crS C (as := [aI x2, aI (-1), aI 1]) dX11_meter_10.1 ml_X11_86 cal_X11_within st_X11_within (hRm ⟨Nat.le_of_ble_eq_true rfl, Nat.le_of_ble_eq_true rfl⟩) rfl (Nat.le_of_ble_eq_true rfl) (c_X11_within (xl X) (xG X) hX hM ⟨hS.2.2.1, hS.2.1, hS.1, trivial⟩ hq)) (Nat.le_of_ble_eq_true rfl) (Nat.le_of_ble_eq_true rfl) rfl rfl rfl (fun v4 M3 => ?_)
    refine i_if_ne (tgt := 19) C dX11_meter_13 (by decide) ?_ ?_
    · refine i_iload_n C dX11_meter_19 rfl (q := 2) rfl ?_
      refine i_jn (fun j => ∀  (M6 : Mem), Im X 0 0 32 [(0, aR 0), (1, aI x1), (2, aI x2), (3, aI x3)] [] M6 res (j  M6)) ?_ (fun j5 hj5 => ?_)
      · intro  M6
        refine i_iload_n C dX11_meter_32 rfl (q := 2) rfl ?_
        refine i_jn (fun j => ∀  (M8 : Mem), Im X 0 0 44 [(0, aR 0), (1, aI x1), (2, aI x2), (3, aI x3)] [] M8 res (j  M8)) ?_ (fun j7 hj7 => ?_)
        · intro  M8
          refine i_aload_n C dX11_meter_44 rfl (q := 0) rfl ?_
          refine i_getR C (k := 5) kX11 dX11_meter_45 (shT_0 hX) rfl (by decide) fl_X11_36 ?_
          refine i_iload_n C dX11_meter_48 rfl (q := 1) rfl ?_
          refine i_iload_n C dX11_meter_49 rfl (q := 2) rfl ?_
          refine i_iload_n C dX11_meter_50 rfl (q := 2) rfl ?_
          refine i_jn (fun j => ∀ (p9 : Int) (M11 : Mem), Im X 0 0 59 [] [aI p9, aI x2, aI x1, aR 5] M11 res (j p9 M11)) ?_ (fun j10 hj10 => ?_)
          · intro p9 M11
            refine i_cI (kc' := 0) (ks' := 0) 0 0 4 (fun q hq hM hS => crV C (as := [aI x1, aI x2, aI p9]) dX11_meter_59.1 kX5 (shT_5 hX) ml_X11_349 cal_X5_renew cv_X5_renew (hRm ⟨Nat.le_of_ble_eq_true rfl, Nat.le_of_ble_eq_true rfl⟩) rfl (Nat.le_of_ble_eq_true rfl) (c_X5_renew (xl X) (xG X) hX hM ⟨hS.2.2.2.1, hS.2.2.1, hS.2.1, hS.1, trivial⟩ hq)) (Nat.le_of_ble_eq_true rfl) (Nat.le_of_ble_eq_true rfl) rfl rfl rfl (fun v13 M12 => ?_)
            exact i_iret C hq dX11_meter_62
          refine i_if_ge (tgt := 58) C dX11_meter_51 (by decide) ?_ ?_
          · refine i_iload_n C dX11_meter_58 rfl (q := 3) rfl ?_
            exact i_sub [] rfl (hj10 x3 M8)
          · refine i_iconst C dX11_meter_54 kI_0 ?_
            refine i_goto (tgt := 59) C dX11_meter_55 (by decide) ?_
            exact i_sub [] rfl (hj10 0 M8)
        refine i_if_lt (tgt := 44) C dX11_meter_33 (by decide) ?_ ?_
        · exact (hj7  M6)
        · refine i_iload_n C dX11_meter_36 rfl (q := 3) rfl ?_
          refine i_if_ge (tgt := 44) C dX11_meter_37 (by decide) ?_ ?_
          · exact (hj7  M6)
          · refine i_ldc_w C dX11_meter_40 kc_X11_348 kI_m1000000014 ?_
            exact i_iret C hq dX11_meter_43
      refine i_if_lt (tgt := 32) C dX11_meter_20 (by decide) ?_ ?_
      · exact (hj5  M3)
      · refine i_iload_n C dX11_meter_23 rfl (q := 3) rfl ?_
        refine i_bipush C dX11_meter_24 kB_30 ?_
        refine i_icmp_le (tgt := 32) C dX11_meter_26 (by decide) ?_ ?_
        · exact (hj5  M3)
        · refine i_ldc C dX11_meter_29 kc_X11_74 kI_m1000000001 ?_
          exact i_iret C hq dX11_meter_31
    · refine i_ldc C dX11_meter_16 kc_X11_74 kI_m1000000001 ?_
      exact i_iret C hq dX11_meter_18
set_option maxRecDepth 100000 in
set_option maxHeartbeats 4000000 in
theorem c_X11_put (l : Launch) (G : Gx) {K : Kx} (hK : K = kP) {x1 : Int} {x2 : Int} {x3 : Int} {M : Mem} {res : Int × Mem} (hM : OkM M) (ha : okS [aR 0, aI x1, aI x2, aI x3]) (hF : pTop_put x1 x2 x3 M = some res) : Ct l G K yX11_put (wsM yX11_put cX11_put 6 (some .int)) rmX11_put [aR 0, aI x1, aI x2, aI x3] M (some (aI res.1)) res.2 := by
  refine ct_of RX11 (by decide +kernel) rfl (hK ▸ kP_ok) hM ha (Nat.le_of_ble_eq_true rfl) hF ?_
  intro X C hl hG hX0 hN hR hq
  have hX : xK X = kP := hX0.trans hK
  show Im X 0 0 0 [(0, aR 0), (1, aI x1), (2, aI x2), (3, aI x3)] [] M res (pTop_put x1 x2 x3 M)
  unfold pTop_put
  have hl4 : 4 < xn X := by rw [hN]; decide
  have hl5 : 5 < xn X := by rw [hN]; decide
  have hRm : ∀ {rm : Room} {ny : Nat}, RmOk rmX11_put rm ny → RmOk (xR X) rm ny := fun h => by rw [hR]; exact h
  refine i_iload_n C dX11_put_0 rfl (q := 1) rfl ?_
  refine i_cI (kc' := 0) (ks' := 0) 0 0 1 (fun q hq hM hS => crS C (as := [aI x1]) dX11_put_1.1 ml_X11_70 cal_X11_isSide st_X11_isSide (hRm ⟨Nat.le_of_ble_eq_true rfl, Nat.le_of_ble_eq_true rfl⟩) rfl (Nat.le_of_ble_eq_true rfl) (c_X11_isSide (xl X) (xG X) hX hM ⟨hS.1, trivial⟩ hq)) (Nat.le_of_ble_eq_true rfl) (Nat.le_of_ble_eq_true rfl) rfl rfl rfl (fun v2 M1 => ?_)
  refine i_if_ne (tgt := 10) C dX11_put_4 (by decide) ?_ ?_
  · refine i_aload_n C dX11_put_10 rfl (q := 0) rfl ?_
    refine i_getR C (k := 5) kX11 dX11_put_11 (shT_0 hX) rfl (by decide) fl_X11_36 ?_
    refine i_iload_n C dX11_put_14 rfl (q := 1) rfl ?_
    refine i_iload_n C dX11_put_15 rfl (q := 2) rfl ?_
    refine i_cI (kc' := 0) (ks' := 0) 0 0 3 (fun q hq hM hS => crV C (as := [aI x1, aI x2]) dX11_put_16.1 kX5 (shT_5 hX) ml_X11_352 cal_X5_finding cv_X5_finding (hRm ⟨Nat.le_of_ble_eq_true rfl, Nat.le_of_ble_eq_true rfl⟩) rfl (Nat.le_of_ble_eq_true rfl) (c_X5_finding (xl X) (xG X) hX hM ⟨hS.2.2.1, hS.2.1, hS.1, trivial⟩ hq)) (Nat.le_of_ble_eq_true rfl) (Nat.le_of_ble_eq_true rfl) rfl rfl rfl (fun v4 M3 => ?_)
    refine i_istore C dX11_put_19 hl4 (L' := [(0, aR 0), (1, aI x1), (2, aI x2), (3, aI x3), (4, aI v4)]) rfl ?_
    refine i_iload C dX11_put_21 (q := 4) rfl ?_
    refine i_if_eq (tgt := 29) C dX11_put_23 (by decide) ?_ ?_
    · refine i_aload_n C dX11_put_29 rfl (q := 0) rfl ?_
      refine i_getR C (k := 5) kX11 dX11_put_30 (shT_0 hX) rfl (by decide) fl_X11_36 ?_
      refine i_getR C (k := 0) kX5 dX11_put_33 (shT_5 hX) rfl (by decide) fl_X11_355 ?_
      refine i_iload_n C dX11_put_36 rfl (q := 1) rfl ?_
      refine i_ald C dX11_put_37 (shT_6 hX) (fun v5 => ?_)
      refine i_jn (fun j => ∀ (p6 : Int) (M8 : Mem), Im X 0 0 46 [(0, aR 0), (1, aI x1), (2, aI x2), (3, aI x3)] [aI p6] M8 res (j p6 M8)) ?_ (fun j7 hj7 => ?_)
      · intro p6 M8
        refine i_istore C dX11_put_46 hl5 (L' := [(0, aR 0), (1, aI x1), (2, aI x2), (3, aI x3), (5, aI p6)]) rfl ?_
        refine i_iload C dX11_put_48 (q := 4) rfl ?_
        refine i_jn (fun j => ∀  (M10 : Mem), Im X 0 0 63 [(0, aR 0), (1, aI x1), (2, aI x2), (3, aI x3), (5, aI p6)] [] M10 res (j  M10)) ?_ (fun j9 hj9 => ?_)
        · intro  M10
          refine i_iload C dX11_put_63 (q := 4) rfl ?_
          refine i_jn (fun j => ∀  (M12 : Mem), Im X 0 0 91 [(0, aR 0), (1, aI x1), (2, aI x2), (3, aI x3)] [] M12 res (j  M12)) ?_ (fun j11 hj11 => ?_)
          · intro  M12
            refine i_aload_n C dX11_put_91 rfl (q := 0) rfl ?_
            refine i_getR C (k := 5) kX11 dX11_put_92 (shT_0 hX) rfl (by decide) fl_X11_36 ?_
            refine i_getR C (k := 2) kX5 dX11_put_95 (shT_5 hX) rfl (by decide) fl_X11_360 ?_
            refine i_iload_n C dX11_put_98 rfl (q := 1) rfl ?_
            refine i_bipush C dX11_put_99 kB_30 ?_
            refine i_imul C dX11_put_101 ?_
            refine i_iload_n C dX11_put_102 rfl (q := 2) rfl ?_
            refine i_iadd C dX11_put_103 ?_
            refine i_iload_n C dX11_put_104 rfl (q := 3) rfl ?_
            refine i_ast C dX11_put_105 (shT_8 hX) (fun M13 => ?_)
            refine i_iconst C dX11_put_106 kI_1 ?_
            exact i_iret C hq dX11_put_107
          refine i_if_ne (tgt := 91) C dX11_put_65 (by decide) ?_ ?_
          · exact i_sub [0, 1, 2, 3] rfl (hj11  M10)
          · refine i_iload_n C dX11_put_68 rfl (q := 3) rfl ?_
            refine i_ldc_w C dX11_put_69 kc_X11_282 kI_m1000000005 ?_
            refine i_icmp_eq (tgt := 91) C dX11_put_72 (by decide) ?_ ?_
            · exact i_sub [0, 1, 2, 3] rfl (hj11  M10)
            · refine i_iload_n C dX11_put_75 rfl (q := 3) rfl ?_
              refine i_ldc_w C dX11_put_76 kc_X11_358 kI_m100000 ?_
              refine i_ldc_w C dX11_put_79 kc_X11_359 kI_100000 ?_
              refine i_cI (kc' := 0) (ks' := 0) 0 0 3 (fun q hq hM hS => crS C (as := [aI x3, aI (-100000), aI 100000]) dX11_put_82.1 ml_X11_86 cal_X11_within st_X11_within (hRm ⟨Nat.le_of_ble_eq_true rfl, Nat.le_of_ble_eq_true rfl⟩) rfl (Nat.le_of_ble_eq_true rfl) (c_X11_within (xl X) (xG X) hX hM ⟨hS.2.2.1, hS.2.1, hS.1, trivial⟩ hq)) (Nat.le_of_ble_eq_true rfl) (Nat.le_of_ble_eq_true rfl) rfl rfl rfl (fun v15 M14 => ?_)
              refine i_if_ne (tgt := 91) C dX11_put_85 (by decide) ?_ ?_
              · exact i_sub [0, 1, 2, 3] rfl (hj11  M14)
              · refine i_ldc C dX11_put_88 kc_X11_74 kI_m1000000001 ?_
                exact i_iret C hq dX11_put_90
        refine i_if_eq (tgt := 63) C dX11_put_50 (by decide) ?_ ?_
        · exact (hj9  M8)
        · refine i_iload_n C dX11_put_53 rfl (q := 3) rfl ?_
          refine i_ldc_w C dX11_put_54 kc_X11_282 kI_m1000000005 ?_
          refine i_icmp_ne (tgt := 63) C dX11_put_57 (by decide) ?_ ?_
          · exact (hj9  M8)
          · refine i_ldc C dX11_put_60 kc_X11_200 kI_m1000000012 ?_
            exact i_iret C hq dX11_put_62
      refine i_if_ne (tgt := 45) C dX11_put_38 (by decide) ?_ ?_
      · refine i_iconst C dX11_put_45 kI_0 ?_
        exact i_sub [0, 1, 2, 3] rfl (hj7 0 M3)
      · refine i_iconst C dX11_put_41 kI_1 ?_
        refine i_goto (tgt := 46) C dX11_put_42 (by decide) ?_
        exact i_sub [0, 1, 2, 3] rfl (hj7 1 M3)
    · refine i_iload C dX11_put_26 (q := 4) rfl ?_
      exact i_iret C hq dX11_put_28
  · refine i_ldc C dX11_put_7 kc_X11_74 kI_m1000000001 ?_
    exact i_iret C hq dX11_put_9
set_option maxRecDepth 100000 in
set_option maxHeartbeats 4000000 in
theorem c_X11_read (l : Launch) (G : Gx) {K : Kx} (hK : K = kP) {x1 : Int} {x2 : Int} {M : Mem} {res : Int × Mem} (hM : OkM M) (ha : okS [aR 0, aI x1, aI x2]) (hF : pTop_read x1 x2 M = some res) : Ct l G K yX11_read (wsM yX11_read cX11_read 5 (some .int)) rmX11_read [aR 0, aI x1, aI x2] M (some (aI res.1)) res.2 := by
  refine ct_of RX11 (by decide +kernel) rfl (hK ▸ kP_ok) hM ha (Nat.le_of_ble_eq_true rfl) hF ?_
  intro X C hl hG hX0 hN hR hq
  have hX : xK X = kP := hX0.trans hK
  show Im X 0 0 0 [(0, aR 0), (1, aI x1), (2, aI x2)] [] M res (pTop_read x1 x2 M)
  unfold pTop_read
  have hl3 : 3 < xn X := by rw [hN]; decide
  have hl4 : 4 < xn X := by rw [hN]; decide
  have hRm : ∀ {rm : Room} {ny : Nat}, RmOk rmX11_read rm ny → RmOk (xR X) rm ny := fun h => by rw [hR]; exact h
  refine i_iload_n C dX11_read_0 rfl (q := 1) rfl ?_
  refine i_cI (kc' := 0) (ks' := 0) 0 0 1 (fun q hq hM hS => crS C (as := [aI x1]) dX11_read_1.1 ml_X11_70 cal_X11_isSide st_X11_isSide (hRm ⟨Nat.le_of_ble_eq_true rfl, Nat.le_of_ble_eq_true rfl⟩) rfl (Nat.le_of_ble_eq_true rfl) (c_X11_isSide (xl X) (xG X) hX hM ⟨hS.1, trivial⟩ hq)) (Nat.le_of_ble_eq_true rfl) (Nat.le_of_ble_eq_true rfl) rfl rfl rfl (fun v2 M1 => ?_)
  refine i_if_ne (tgt := 10) C dX11_read_4 (by decide) ?_ ?_
  · refine i_aload_n C dX11_read_10 rfl (q := 0) rfl ?_
    refine i_getR C (k := 5) kX11 dX11_read_11 (shT_0 hX) rfl (by decide) fl_X11_36 ?_
    refine i_iload_n C dX11_read_14 rfl (q := 1) rfl ?_
    refine i_iload_n C dX11_read_15 rfl (q := 2) rfl ?_
    refine i_cI (kc' := 0) (ks' := 0) 0 0 3 (fun q hq hM hS => crV C (as := [aI x1, aI x2]) dX11_read_16.1 kX5 (shT_5 hX) ml_X11_352 cal_X5_finding cv_X5_finding (hRm ⟨Nat.le_of_ble_eq_true rfl, Nat.le_of_ble_eq_true rfl⟩) rfl (Nat.le_of_ble_eq_true rfl) (c_X5_finding (xl X) (xG X) hX hM ⟨hS.2.2.1, hS.2.1, hS.1, trivial⟩ hq)) (Nat.le_of_ble_eq_true rfl) (Nat.le_of_ble_eq_true rfl) rfl rfl rfl (fun v4 M3 => ?_)
    refine i_istore_n C dX11_read_19 rfl hl3 (L' := [(0, aR 0), (1, aI x1), (2, aI x2), (3, aI v4)]) rfl ?_
    refine i_iload_n C dX11_read_20 rfl (q := 3) rfl ?_
    refine i_if_eq (tgt := 26) C dX11_read_21 (by decide) ?_ ?_
    · refine i_aload_n C dX11_read_26 rfl (q := 0) rfl ?_
      refine i_getR C (k := 5) kX11 dX11_read_27 (shT_0 hX) rfl (by decide) fl_X11_36 ?_
      refine i_iload_n C dX11_read_30 rfl (q := 1) rfl ?_
      refine i_iload_n C dX11_read_31 rfl (q := 2) rfl ?_
      refine i_cI (kc' := 0) (ks' := 0) 0 0 3 (fun q hq hM hS => crV C (as := [aI x1, aI x2]) dX11_read_32.1 kX5 (shT_5 hX) ml_X11_363 cal_X5_lastTold cv_X5_lastTold (hRm ⟨Nat.le_of_ble_eq_true rfl, Nat.le_of_ble_eq_true rfl⟩) rfl (Nat.le_of_ble_eq_true rfl) (c_X5_lastTold (xl X) (xG X) hX hM ⟨hS.2.2.1, hS.2.1, hS.1, trivial⟩ hq)) (Nat.le_of_ble_eq_true rfl) (Nat.le_of_ble_eq_true rfl) rfl rfl rfl (fun v6 M5 => ?_)
      refine i_istore C dX11_read_35 hl4 (L' := [(0, aR 0), (1, aI x1), (2, aI x2), (3, aI v4), (4, aI v6)]) rfl ?_
      refine i_iload C dX11_read_37 (q := 4) rfl ?_
      refine i_if_ge (tgt := 47) C dX11_read_39 (by decide) ?_ ?_
      · refine i_aload_n C dX11_read_47 rfl (q := 0) rfl ?_
        refine i_getR C (k := 5) kX11 dX11_read_48 (shT_0 hX) rfl (by decide) fl_X11_36 ?_
        refine i_getR C (k := 2) kX5 dX11_read_51 (shT_5 hX) rfl (by decide) fl_X11_360 ?_
        refine i_iload_n C dX11_read_54 rfl (q := 1) rfl ?_
        refine i_bipush C dX11_read_55 kB_30 ?_
        refine i_imul C dX11_read_57 ?_
        refine i_iload C dX11_read_58 (q := 4) rfl ?_
        refine i_iadd C dX11_read_60 ?_
        refine i_ald C dX11_read_61 (shT_8 hX) (fun v7 => ?_)
        exact i_iret C hq dX11_read_62
      · refine i_ldc C dX11_read_42 kc_X11_200 kI_m1000000012 ?_
        refine i_goto (tgt := 62) C dX11_read_44 (by decide) ?_
        exact i_iret C hq dX11_read_62
    · refine i_iload_n C dX11_read_24 rfl (q := 3) rfl ?_
      exact i_iret C hq dX11_read_25
  · refine i_ldc C dX11_read_7 kc_X11_74 kI_m1000000001 ?_
    exact i_iret C hq dX11_read_9
set_option maxRecDepth 100000 in
set_option maxHeartbeats 4000000 in
theorem c_X11_copy (l : Launch) (G : Gx) {K : Kx} (hK : K = kP) {x1 : Int} {x2 : Int} {x3 : Int} {x4 : Int} {x5 : Int} {M : Mem} {res : Int × Mem} (hM : OkM M) (ha : okS [aR 0, aI x1, aI x2, aI x3, aI x4, aI x5]) (hF : pTop_copy x1 x2 x3 x4 x5 M = some res) : Ct l G K yX11_copy (wsM yX11_copy cX11_copy 6 (some .int)) rmX11_copy [aR 0, aI x1, aI x2, aI x3, aI x4, aI x5] M (some (aI res.1)) res.2 := by
  refine ct_of RX11 (by decide +kernel) rfl (hK ▸ kP_ok) hM ha (Nat.le_of_ble_eq_true rfl) hF ?_
  intro X C hl hG hX0 hN hR hq
  have hX : xK X = kP := hX0.trans hK
  show Im X 0 0 0 [(0, aR 0), (1, aI x1), (2, aI x2), (3, aI x3), (4, aI x4), (5, aI x5)] [] M res (pTop_copy x1 x2 x3 x4 x5 M)
  unfold pTop_copy
  have hRj : 1 ≤ (xR X).frames ∧ 60 ≤ (xR X).locals := by rw [hR]; exact ⟨Nat.le_of_ble_eq_true rfl, Nat.le_of_ble_eq_true rfl⟩
  have hRm : ∀ {rm : Room} {ny : Nat}, RmOk rmX11_copy rm ny → RmOk (xR X) rm ny := fun h => by rw [hR]; exact h
  refine i_iload_n C dX11_copy_0 rfl (q := 1) rfl ?_
  refine i_cI (kc' := 0) (ks' := 0) 0 0 1 (fun q hq hM hS => crS C (as := [aI x1]) dX11_copy_1.1 ml_X11_70 cal_X11_isSide st_X11_isSide (hRm ⟨Nat.le_of_ble_eq_true rfl, Nat.le_of_ble_eq_true rfl⟩) rfl (Nat.le_of_ble_eq_true rfl) (c_X11_isSide (xl X) (xG X) hX hM ⟨hS.1, trivial⟩ hq)) (Nat.le_of_ble_eq_true rfl) (Nat.le_of_ble_eq_true rfl) rfl rfl rfl (fun v2 M1 => ?_)
  refine i_if_eq (tgt := 14) C dX11_copy_4 (by decide) ?_ ?_
  · refine i_ldc C dX11_copy_14 kc_X11_74 kI_m1000000001 ?_
    exact i_iret C hq dX11_copy_16
  · refine i_iload_n C dX11_copy_7 rfl (q := 3) rfl ?_
    refine i_cI (kc' := 0) (ks' := 0) 0 0 1 (fun q hq hM hS => crS C (as := [aI x3]) dX11_copy_8.1 ml_X11_70 cal_X11_isSide st_X11_isSide (hRm ⟨Nat.le_of_ble_eq_true rfl, Nat.le_of_ble_eq_true rfl⟩) rfl (Nat.le_of_ble_eq_true rfl) (c_X11_isSide (xl X) (xG X) hX hM ⟨hS.1, trivial⟩ hq)) (Nat.le_of_ble_eq_true rfl) (Nat.le_of_ble_eq_true rfl) rfl rfl rfl (fun v4 M3 => ?_)
    refine i_if_ne (tgt := 17) C dX11_copy_11 (by decide) ?_ ?_
    · refine i_aload_n C dX11_copy_17 rfl (q := 0) rfl ?_
      refine i_getR C (k := 5) kX11 dX11_copy_18 (shT_0 hX) rfl (by decide) fl_X11_36 ?_
      refine i_getR C (k := 0) kX5 dX11_copy_21 (shT_5 hX) rfl (by decide) fl_X11_355 ?_
      refine i_iload_n C dX11_copy_24 rfl (q := 1) rfl ?_
      refine i_ald C dX11_copy_25 (shT_6 hX) (fun v5 => ?_)
      refine i_if_lt (tgt := 41) C dX11_copy_26 (by decide) ?_ ?_
      · refine i_ldc_w C dX11_copy_41 kc_X11_366 kI_m1000000011 ?_
        exact i_iret C hq dX11_copy_44
      · refine i_aload_n C dX11_copy_29 rfl (q := 0) rfl ?_
        refine i_getR C (k := 5) kX11 dX11_copy_30 (shT_0 hX) rfl (by decide) fl_X11_36 ?_
        refine i_getR C (k := 0) kX5 dX11_copy_33 (shT_5 hX) rfl (by decide) fl_X11_355 ?_
        refine i_iload_n C dX11_copy_36 rfl (q := 3) rfl ?_
        refine i_ald C dX11_copy_37 (shT_6 hX) (fun v6 => ?_)
        refine i_if_ge (tgt := 45) C dX11_copy_38 (by decide) ?_ ?_
        · refine i_aload_n C dX11_copy_45 rfl (q := 0) rfl ?_
          refine i_getR C (k := 5) kX11 dX11_copy_46 (shT_0 hX) rfl (by decide) fl_X11_36 ?_
          refine i_getR C (k := 0) kX5 dX11_copy_49 (shT_5 hX) rfl (by decide) fl_X11_355 ?_
          refine i_iload_n C dX11_copy_52 rfl (q := 1) rfl ?_
          refine i_ald C dX11_copy_53 (shT_6 hX) (fun v7 => ?_)
          refine i_aload_n C dX11_copy_54 rfl (q := 0) rfl ?_
          refine i_getR C (k := 5) kX11 dX11_copy_55 (shT_0 hX) rfl (by decide) fl_X11_36 ?_
          refine i_getR C (k := 0) kX5 dX11_copy_58 (shT_5 hX) rfl (by decide) fl_X11_355 ?_
          refine i_iload_n C dX11_copy_61 rfl (q := 3) rfl ?_
          refine i_ald C dX11_copy_62 (shT_6 hX) (fun v8 => ?_)
          refine i_icmp_eq (tgt := 69) C dX11_copy_63 (by decide) ?_ ?_
          · refine i_aload_n C dX11_copy_69 rfl (q := 0) rfl ?_
            refine i_getR C (k := 5) kX11 dX11_copy_70 (shT_0 hX) rfl (by decide) fl_X11_36 ?_
            refine i_iload_n C dX11_copy_73 rfl (q := 1) rfl ?_
            refine i_iload_n C dX11_copy_74 rfl (q := 2) rfl ?_
            refine i_iload C dX11_copy_75 (q := 5) rfl ?_
            refine i_cI (kc' := 0) (ks' := 0) 0 0 4 (fun q hq hM hS => crV C (as := [aI x1, aI x2, aI x5]) dX11_copy_77.1 kX5 (shT_5 hX) ml_X11_367 cal_X5_holds cv_X5_holds (hRm ⟨Nat.le_of_ble_eq_true rfl, Nat.le_of_ble_eq_true rfl⟩) rfl (Nat.le_of_ble_eq_true rfl) (c_X5_holds (xl X) (xG X) hX hM ⟨hS.2.2.2.1, hS.2.2.1, hS.2.1, hS.1, trivial⟩ hq)) (Nat.le_of_ble_eq_true rfl) (Nat.le_of_ble_eq_true rfl) rfl rfl rfl (fun v10 M9 => ?_)
            refine i_if_eq (tgt := 98) C dX11_copy_80 (by decide) ?_ ?_
            · refine i_ldc_w C dX11_copy_98 kc_X11_370 kI_m1000000013 ?_
              exact i_iret C hq dX11_copy_101
            · refine i_aload_n C dX11_copy_83 rfl (q := 0) rfl ?_
              refine i_getR C (k := 5) kX11 dX11_copy_84 (shT_0 hX) rfl (by decide) fl_X11_36 ?_
              refine i_iload_n C dX11_copy_87 rfl (q := 3) rfl ?_
              refine i_iload C dX11_copy_88 (q := 4) rfl ?_
              refine i_iload C dX11_copy_90 (q := 5) rfl ?_
              refine i_cI (kc' := 0) (ks' := 0) 0 0 4 (fun q hq hM hS => crV C (as := [aI x3, aI x4, aI x5]) dX11_copy_92.1 kX5 (shT_5 hX) ml_X11_367 cal_X5_holds cv_X5_holds (hRm ⟨Nat.le_of_ble_eq_true rfl, Nat.le_of_ble_eq_true rfl⟩) rfl (Nat.le_of_ble_eq_true rfl) (c_X5_holds (xl X) (xG X) hX hM ⟨hS.2.2.2.1, hS.2.2.1, hS.2.1, hS.1, trivial⟩ hq)) (Nat.le_of_ble_eq_true rfl) (Nat.le_of_ble_eq_true rfl) rfl rfl rfl (fun v12 M11 => ?_)
              refine i_if_ne (tgt := 102) C dX11_copy_95 (by decide) ?_ ?_
              · refine i_aload_n C dX11_copy_102 rfl (q := 0) rfl ?_
                refine i_getR C (k := 5) kX11 dX11_copy_103 (shT_0 hX) rfl (by decide) fl_X11_36 ?_
                refine i_getR C (k := 2) kX5 dX11_copy_106 (shT_5 hX) rfl (by decide) fl_X11_360 ?_
                refine i_iload_n C dX11_copy_109 rfl (q := 1) rfl ?_
                refine i_bipush C dX11_copy_110 kB_30 ?_
                refine i_imul C dX11_copy_112 ?_
                refine i_iload_n C dX11_copy_113 rfl (q := 2) rfl ?_
                refine i_iadd C dX11_copy_114 ?_
                refine i_aload_n C dX11_copy_115 rfl (q := 0) rfl ?_
                refine i_getR C (k := 5) kX11 dX11_copy_116 (shT_0 hX) rfl (by decide) fl_X11_36 ?_
                refine i_getR C (k := 2) kX5 dX11_copy_119 (shT_5 hX) rfl (by decide) fl_X11_360 ?_
                refine i_iload_n C dX11_copy_122 rfl (q := 3) rfl ?_
                refine i_bipush C dX11_copy_123 kB_30 ?_
                refine i_imul C dX11_copy_125 ?_
                refine i_iload C dX11_copy_126 (q := 4) rfl ?_
                refine i_iadd C dX11_copy_128 ?_
                refine i_iload C dX11_copy_129 (q := 5) rfl ?_
                refine i_copy C hRj ml_X11_64 dX11_copy_131 (Nat.le_of_ble_eq_true rfl) (shT_8 hX) (shT_8 hX) (fun M13 => ?_)
                refine i_iload C dX11_copy_134 (q := 5) rfl ?_
                exact i_iret C hq dX11_copy_136
              · refine i_ldc_w C dX11_copy_98 kc_X11_370 kI_m1000000013 ?_
                exact i_iret C hq dX11_copy_101
          · refine i_ldc C dX11_copy_66 kc_X11_200 kI_m1000000012 ?_
            exact i_iret C hq dX11_copy_68
        · refine i_ldc_w C dX11_copy_41 kc_X11_366 kI_m1000000011 ?_
          exact i_iret C hq dX11_copy_44
    · refine i_ldc C dX11_copy_14 kc_X11_74 kI_m1000000001 ?_
      exact i_iret C hq dX11_copy_16
set_option maxRecDepth 100000 in
set_option maxHeartbeats 4000000 in
theorem c_X11_wrong (l : Launch) (G : Gx) {K : Kx} (hK : K = kP) {x1 : Int} {x2 : Int} {M : Mem} {res : Int × Mem} (hM : OkM M) (ha : okS [aR 0, aI x1, aI x2]) (hF : pTop_wrong x1 x2 M = some res) : Ct l G K yX11_wrong (wsM yX11_wrong cX11_wrong 3 (some .int)) rmX11_wrong [aR 0, aI x1, aI x2] M (some (aI res.1)) res.2 := by
  refine ct_of RX11 (by decide +kernel) rfl (hK ▸ kP_ok) hM ha (Nat.le_of_ble_eq_true rfl) hF ?_
  intro X C hl hG hX0 hN hR hq
  have hX : xK X = kP := hX0.trans hK
  show Im X 0 0 0 [(0, aR 0), (1, aI x1), (2, aI x2)] [] M res (pTop_wrong x1 x2 M)
  unfold pTop_wrong
  have hRm : ∀ {rm : Room} {ny : Nat}, RmOk rmX11_wrong rm ny → RmOk (xR X) rm ny := fun h => by rw [hR]; exact h
  refine i_iload_n C dX11_wrong_0 rfl (q := 1) rfl ?_
  refine i_cI (kc' := 0) (ks' := 0) 0 0 1 (fun q hq hM hS => crS C (as := [aI x1]) dX11_wrong_1.1 ml_X11_70 cal_X11_isSide st_X11_isSide (hRm ⟨Nat.le_of_ble_eq_true rfl, Nat.le_of_ble_eq_true rfl⟩) rfl (Nat.le_of_ble_eq_true rfl) (c_X11_isSide (xl X) (xG X) hX hM ⟨hS.1, trivial⟩ hq)) (Nat.le_of_ble_eq_true rfl) (Nat.le_of_ble_eq_true rfl) rfl rfl rfl (fun v2 M1 => ?_)
  refine i_if_eq (tgt := 24) C dX11_wrong_4 (by decide) ?_ ?_
  · refine i_ldc C dX11_wrong_24 kc_X11_74 kI_m1000000001 ?_
    exact i_iret C hq dX11_wrong_26
  · refine i_iload_n C dX11_wrong_7 rfl (q := 2) rfl ?_
    refine i_ldc_w C dX11_wrong_8 kc_X11_282 kI_m1000000005 ?_
    refine i_jn (fun j => ∀  (M4 : Mem), Im X 0 0 27 [(0, aR 0), (1, aI x1), (2, aI x2)] [] M4 res (j  M4)) ?_ (fun j3 hj3 => ?_)
    · intro  M4
      refine i_aload_n C dX11_wrong_27 rfl (q := 0) rfl ?_
      refine i_getR C (k := 0) kX11 dX11_wrong_28 (shT_0 hX) rfl (by decide) fl_X11_12 ?_
      refine i_getR C (k := 5) kX0 dX11_wrong_31 (shP_0 hX isC_100) rfl (by decide) fl_X11_371 ?_
      refine i_iload_n C dX11_wrong_34 rfl (q := 1) rfl ?_
      refine i_iload_n C dX11_wrong_35 rfl (q := 2) rfl ?_
      refine i_cI (kc' := 0) (ks' := 0) 0 0 3 (fun q hq hM hS => crS C (as := [aR (100 + 4), aI x1, aI x2]) dX11_wrong_36.1 ml_X11_96 cal_X11_exchange st_X11_exchange (hRm ⟨Nat.le_of_ble_eq_true rfl, Nat.le_of_ble_eq_true rfl⟩) rfl (Nat.le_of_ble_eq_true rfl) (c_X11_exchange (xl X) (xG X) hX (shP_4 hX isC_100) hM ⟨hS.2.2.1, hS.2.1, hS.1, trivial⟩ hq)) (Nat.le_of_ble_eq_true rfl) (Nat.le_of_ble_eq_true rfl) rfl rfl rfl (fun v6 M5 => ?_)
      exact i_iret C hq dX11_wrong_39
    refine i_icmp_eq (tgt := 27) C dX11_wrong_11 (by decide) ?_ ?_
    · exact (hj3  M1)
    · refine i_iload_n C dX11_wrong_14 rfl (q := 2) rfl ?_
      refine i_iconst C dX11_wrong_15 kI_0 ?_
      refine i_bipush C dX11_wrong_16 kB_29 ?_
      refine i_cI (kc' := 0) (ks' := 0) 0 0 3 (fun q hq hM hS => crS C (as := [aI x2, aI 0, aI 29]) dX11_wrong_18.1 ml_X11_86 cal_X11_within st_X11_within (hRm ⟨Nat.le_of_ble_eq_true rfl, Nat.le_of_ble_eq_true rfl⟩) rfl (Nat.le_of_ble_eq_true rfl) (c_X11_within (xl X) (xG X) hX hM ⟨hS.2.2.1, hS.2.1, hS.1, trivial⟩ hq)) (Nat.le_of_ble_eq_true rfl) (Nat.le_of_ble_eq_true rfl) rfl rfl rfl (fun v8 M7 => ?_)
      refine i_if_ne (tgt := 27) C dX11_wrong_21 (by decide) ?_ ?_
      · exact (hj3  M7)
      · refine i_ldc C dX11_wrong_24 kc_X11_74 kI_m1000000001 ?_
        exact i_iret C hq dX11_wrong_26
set_option maxRecDepth 100000 in
set_option maxHeartbeats 4000000 in
theorem c_X11_owed (l : Launch) (G : Gx) {K : Kx} (hK : K = kP) {x1 : Int} {M : Mem} {res : Int × Mem} (hM : OkM M) (ha : okS [aR 0, aI x1]) (hF : pTop_owed x1 M = some res) : Ct l G K yX11_owed (wsM yX11_owed cX11_owed 4 (some .int)) rmX11_owed [aR 0, aI x1] M (some (aI res.1)) res.2 := by
  refine ct_of RX11 (by decide +kernel) rfl (hK ▸ kP_ok) hM ha (Nat.le_of_ble_eq_true rfl) hF ?_
  intro X C hl hG hX0 hN hR hq
  have hX : xK X = kP := hX0.trans hK
  show Im X 0 0 0 [(0, aR 0), (1, aI x1)] [] M res (pTop_owed x1 M)
  unfold pTop_owed
  have hl3 : 3 < xn X := by rw [hN]; decide
  have hRm : ∀ {rm : Room} {ny : Nat}, RmOk rmX11_owed rm ny → RmOk (xR X) rm ny := fun h => by rw [hR]; exact h
  refine i_iload_n C dX11_owed_0 rfl (q := 1) rfl ?_
  refine i_iconst C dX11_owed_1 kI_0 ?_
  refine i_bipush C dX11_owed_2 kB_29 ?_
  refine i_cI (kc' := 0) (ks' := 0) 0 0 3 (fun q hq hM hS => crS C (as := [aI x1, aI 0, aI 29]) dX11_owed_4.1 ml_X11_86 cal_X11_within st_X11_within (hRm ⟨Nat.le_of_ble_eq_true rfl, Nat.le_of_ble_eq_true rfl⟩) rfl (Nat.le_of_ble_eq_true rfl) (c_X11_within (xl X) (xG X) hX hM ⟨hS.2.2.1, hS.2.1, hS.1, trivial⟩ hq)) (Nat.le_of_ble_eq_true rfl) (Nat.le_of_ble_eq_true rfl) rfl rfl rfl (fun v2 M1 => ?_)
  refine i_if_ne (tgt := 13) C dX11_owed_7 (by decide) ?_ ?_
  · refine i_aload_n C dX11_owed_13 rfl (q := 0) rfl ?_
    refine i_getR C (k := 5) kX11 dX11_owed_14 (shT_0 hX) rfl (by decide) fl_X11_36 ?_
    refine i_iload_n C dX11_owed_17 rfl (q := 1) rfl ?_
    refine i_aload_n C dX11_owed_18 rfl (q := 0) rfl ?_
    refine i_getR C (k := 0) kX11 dX11_owed_19 (shT_0 hX) rfl (by decide) fl_X11_12 ?_
    refine i_cL (kc' := 0) (ks' := 0) 0 0 3 (fun q hq hM hS => crV C (as := [aI x1, aR 100]) dX11_owed_22.1 kX5 (shT_5 hX) ml_X11_374 cal_X5_sumOwed cv_X5_sumOwed (hRm ⟨Nat.le_of_ble_eq_true rfl, Nat.le_of_ble_eq_true rfl⟩) rfl (Nat.le_of_ble_eq_true rfl) (c_X5_sumOwed (xl X) (xG X) hX isC_100 hM ⟨hS.2.2.1, hS.2.1, hS.1, trivial⟩ hq)) (Nat.le_of_ble_eq_true rfl) (Nat.le_of_ble_eq_true rfl) rfl rfl rfl (fun v4 M3 => ?_)
    refine i_lstore_n C dX11_owed_25 rfl hl3 (L' := [(0, aR 0), (1, aI x1), (2, aL v4)]) rfl ?_
    refine i_lload_n C dX11_owed_26 rfl (q := 2) rfl ?_
    refine i_ldc2 C dX11_owed_27 k2_X11_378 kJ_4000000000 ?_
    refine i_lcmp C dX11_owed_30 ?_
    refine i_if_ne (tgt := 40) C dX11_owed_31 (by decide) ?_ ?_
    · refine i_lload_n C dX11_owed_40 rfl (q := 2) rfl ?_
      refine i_l2i C dX11_owed_41 ?_
      exact i_iret C hq dX11_owed_42
    · refine i_ldc_w C dX11_owed_34 kc_X11_282 kI_m1000000005 ?_
      refine i_goto (tgt := 42) C dX11_owed_37 (by decide) ?_
      exact i_iret C hq dX11_owed_42
  · refine i_ldc C dX11_owed_10 kc_X11_74 kI_m1000000001 ?_
    exact i_iret C hq dX11_owed_12
set_option maxRecDepth 100000 in
set_option maxHeartbeats 4000000 in
theorem c_X11_coin (l : Launch) (G : Gx) {K : Kx} (hK : K = kP) {x1 : Int} {x2 : Int} {M : Mem} {res : Int × Mem} (hM : OkM M) (ha : okS [aR 0, aI x1, aI x2]) (hF : pTop_coin x1 x2 M = some res) : Ct l G K yX11_coin (wsM yX11_coin cX11_coin 6 (some .int)) rmX11_coin [aR 0, aI x1, aI x2] M (some (aI res.1)) res.2 := by
  refine ct_of RX11 (by decide +kernel) rfl (hK ▸ kP_ok) hM ha (Nat.le_of_ble_eq_true rfl) hF ?_
  intro X C hl hG hX0 hN hR hq
  have hX : xK X = kP := hX0.trans hK
  show Im X 0 0 0 [(0, aR 0), (1, aI x1), (2, aI x2)] [] M res (pTop_coin x1 x2 M)
  unfold pTop_coin
  have hl4 : 4 < xn X := by rw [hN]; decide
  have hl5 : 5 < xn X := by rw [hN]; decide
  have hRm : ∀ {rm : Room} {ny : Nat}, RmOk rmX11_coin rm ny → RmOk (xR X) rm ny := fun h => by rw [hR]; exact h
  refine i_iload_n C dX11_coin_0 rfl (q := 1) rfl ?_
  refine i_cI (kc' := 0) (ks' := 0) 0 0 1 (fun q hq hM hS => crS C (as := [aI x1]) dX11_coin_1.1 ml_X11_70 cal_X11_isSide st_X11_isSide (hRm ⟨Nat.le_of_ble_eq_true rfl, Nat.le_of_ble_eq_true rfl⟩) rfl (Nat.le_of_ble_eq_true rfl) (c_X11_isSide (xl X) (xG X) hX hM ⟨hS.1, trivial⟩ hq)) (Nat.le_of_ble_eq_true rfl) (Nat.le_of_ble_eq_true rfl) rfl rfl rfl (fun v2 M1 => ?_)
  refine i_if_eq (tgt := 17) C dX11_coin_4 (by decide) ?_ ?_
  · refine i_ldc C dX11_coin_17 kc_X11_74 kI_m1000000001 ?_
    exact i_iret C hq dX11_coin_19
  · refine i_iload_n C dX11_coin_7 rfl (q := 2) rfl ?_
    refine i_iconst C dX11_coin_8 kI_0 ?_
    refine i_bipush C dX11_coin_9 kB_29 ?_
    refine i_cI (kc' := 0) (ks' := 0) 0 0 3 (fun q hq hM hS => crS C (as := [aI x2, aI 0, aI 29]) dX11_coin_11.1 ml_X11_86 cal_X11_within st_X11_within (hRm ⟨Nat.le_of_ble_eq_true rfl, Nat.le_of_ble_eq_true rfl⟩) rfl (Nat.le_of_ble_eq_true rfl) (c_X11_within (xl X) (xG X) hX hM ⟨hS.2.2.1, hS.2.1, hS.1, trivial⟩ hq)) (Nat.le_of_ble_eq_true rfl) (Nat.le_of_ble_eq_true rfl) rfl rfl rfl (fun v4 M3 => ?_)
    refine i_if_ne (tgt := 20) C dX11_coin_14 (by decide) ?_ ?_
    · refine i_aload_n C dX11_coin_20 rfl (q := 0) rfl ?_
      refine i_getR C (k := 5) kX11 dX11_coin_21 (shT_0 hX) rfl (by decide) fl_X11_36 ?_
      refine i_iload_n C dX11_coin_24 rfl (q := 2) rfl ?_
      refine i_aload_n C dX11_coin_25 rfl (q := 0) rfl ?_
      refine i_getR C (k := 0) kX11 dX11_coin_26 (shT_0 hX) rfl (by decide) fl_X11_12 ?_
      refine i_cL (kc' := 0) (ks' := 0) 0 0 3 (fun q hq hM hS => crV C (as := [aI x2, aR 100]) dX11_coin_29.1 kX5 (shT_5 hX) ml_X11_374 cal_X5_sumOwed cv_X5_sumOwed (hRm ⟨Nat.le_of_ble_eq_true rfl, Nat.le_of_ble_eq_true rfl⟩) rfl (Nat.le_of_ble_eq_true rfl) (c_X5_sumOwed (xl X) (xG X) hX isC_100 hM ⟨hS.2.2.1, hS.2.1, hS.1, trivial⟩ hq)) (Nat.le_of_ble_eq_true rfl) (Nat.le_of_ble_eq_true rfl) rfl rfl rfl (fun v6 M5 => ?_)
      refine i_lstore_n C dX11_coin_32 rfl hl4 (L' := [(0, aR 0), (1, aI x1), (2, aI x2), (3, aL v6)]) rfl ?_
      refine i_lload_n C dX11_coin_33 rfl (q := 3) rfl ?_
      refine i_ldc2 C dX11_coin_34 k2_X11_378 kJ_4000000000 ?_
      refine i_lcmp C dX11_coin_37 ?_
      refine i_if_ne (tgt := 45) C dX11_coin_38 (by decide) ?_ ?_
      · refine i_aload_n C dX11_coin_45 rfl (q := 0) rfl ?_
        refine i_getR C (k := 0) kX11 dX11_coin_46 (shT_0 hX) rfl (by decide) fl_X11_12 ?_
        refine i_iload_n C dX11_coin_49 rfl (q := 1) rfl ?_
        refine i_iconst C dX11_coin_50 kI_4 ?_
        refine i_cI (kc' := 0) (ks' := 0) 0 0 3 (fun q hq hM hS => crV C (as := [aI x1, aI 4]) dX11_coin_51.1 kX0 (shP_0 hX isC_100) ml_X11_285 cal_X0_lawOf cv_X0_lawOf (hRm ⟨Nat.le_of_ble_eq_true rfl, Nat.le_of_ble_eq_true rfl⟩) rfl (Nat.le_of_ble_eq_true rfl) (c_X0_lawOf (xl X) (xG X) hX isC_100 hM ⟨hS.2.2.1, hS.2.1, hS.1, trivial⟩ hq)) (Nat.le_of_ble_eq_true rfl) (Nat.le_of_ble_eq_true rfl) rfl rfl rfl (fun v8 M7 => ?_)
        refine i_istore C dX11_coin_54 hl5 (L' := [(0, aR 0), (1, aI x1), (2, aI x2), (3, aL v6), (5, aI v8)]) rfl ?_
        refine i_iload C dX11_coin_56 (q := 4) rfl ?_
        refine i_ldc_w C dX11_coin_58 kc_X11_282 kI_m1000000005 ?_
        refine i_icmp_ne (tgt := 66) C dX11_coin_61 (by decide) ?_ ?_
        · refine i_aload_n C dX11_coin_66 rfl (q := 0) rfl ?_
          refine i_getR C (k := 0) kX11 dX11_coin_67 (shT_0 hX) rfl (by decide) fl_X11_12 ?_
          refine i_getR C (k := 10) kX0 dX11_coin_70 (shP_0 hX isC_100) rfl (by decide) fl_X11_255 ?_
          refine i_lload_n C dX11_coin_73 rfl (q := 3) rfl ?_
          refine i_l2i C dX11_coin_74 ?_
          refine i_iconst C dX11_coin_75 kI_0 ?_
          refine i_iconst C dX11_coin_76 kI_0 ?_
          refine i_iconst C dX11_coin_77 kI_0 ?_
          refine i_cV (kc' := 0) (ks' := 0) 0 0 5 (fun q hq hM hS => crV C (as := [aI (w32 v6), aI 0, aI 0, aI 0]) dX11_coin_78.1 kX4 (shP_37 hX isC_100) ml_X11_300 cal_X4_setNames cv_X4_setNames (hRm ⟨Nat.le_of_ble_eq_true rfl, Nat.le_of_ble_eq_true rfl⟩) rfl (Nat.le_of_ble_eq_true rfl) (c_X4_setNames (xl X) (xG X) hX isC_100 hM ⟨hS.2.2.2.2.1, hS.2.2.2.1, hS.2.2.1, hS.2.1, hS.1, trivial⟩ hq)) (Nat.le_of_ble_eq_true rfl) (Nat.le_of_ble_eq_true rfl) rfl rfl rfl (fun M9 => ?_)
          refine i_aload_n C dX11_coin_81 rfl (q := 0) rfl ?_
          refine i_getR C (k := 0) kX11 dX11_coin_82 (shT_0 hX) rfl (by decide) fl_X11_12 ?_
          refine i_getR C (k := 10) kX0 dX11_coin_85 (shP_0 hX isC_100) rfl (by decide) fl_X11_255 ?_
          refine i_iload C dX11_coin_88 (q := 4) rfl ?_
          refine i_cI (kc' := 0) (ks' := 0) 0 0 2 (fun q hq hM hS => crV C (as := [aI v8]) dX11_coin_90.1 kX4 (shP_37 hX isC_100) ml_X11_304 cal_X4_valueOf cv_X4_valueOf (hRm ⟨Nat.le_of_ble_eq_true rfl, Nat.le_of_ble_eq_true rfl⟩) rfl (Nat.le_of_ble_eq_true rfl) (c_X4_valueOf (xl X) (xG X) hX isC_100 hM ⟨hS.2.1, hS.1, trivial⟩ hq)) (Nat.le_of_ble_eq_true rfl) (Nat.le_of_ble_eq_true rfl) rfl rfl rfl (fun v11 M10 => ?_)
          exact i_iret C hq dX11_coin_93
        · refine i_iconst C dX11_coin_64 kI_0 ?_
          exact i_iret C hq dX11_coin_65
      · refine i_ldc_w C dX11_coin_41 kc_X11_282 kI_m1000000005 ?_
        exact i_iret C hq dX11_coin_44
    · refine i_ldc C dX11_coin_17 kc_X11_74 kI_m1000000001 ?_
      exact i_iret C hq dX11_coin_19
set_option maxRecDepth 100000 in
set_option maxHeartbeats 4000000 in
theorem c_X11_rule (l : Launch) (G : Gx) {K : Kx} (hK : K = kP) {x1 : Int} {x2 : Int} {M : Mem} {res : Int × Mem} (hM : OkM M) (ha : okS [aR 0, aI x1, aI x2]) (hF : pTop_rule x1 x2 M = some res) : Ct l G K yX11_rule (wsM yX11_rule cX11_rule 3 (some .int)) rmX11_rule [aR 0, aI x1, aI x2] M (some (aI res.1)) res.2 := by
  refine ct_of RX11 (by decide +kernel) rfl (hK ▸ kP_ok) hM ha (Nat.le_of_ble_eq_true rfl) hF ?_
  intro X C hl hG hX0 hN hR hq
  have hX : xK X = kP := hX0.trans hK
  show Im X 0 0 0 [(0, aR 0), (1, aI x1), (2, aI x2)] [] M res (pTop_rule x1 x2 M)
  unfold pTop_rule
  have hRm : ∀ {rm : Room} {ny : Nat}, RmOk rmX11_rule rm ny → RmOk (xR X) rm ny := fun h => by rw [hR]; exact h
  refine i_iload_n C dX11_rule_0 rfl (q := 1) rfl ?_
  refine i_iconst C dX11_rule_1 kI_0 ?_
  refine i_iconst C dX11_rule_2 kI_1 ?_
  refine i_cI (kc' := 0) (ks' := 0) 0 0 3 (fun q hq hM hS => crS C (as := [aI x1, aI 0, aI 1]) dX11_rule_3.1 ml_X11_86 cal_X11_within st_X11_within (hRm ⟨Nat.le_of_ble_eq_true rfl, Nat.le_of_ble_eq_true rfl⟩) rfl (Nat.le_of_ble_eq_true rfl) (c_X11_within (xl X) (xG X) hX hM ⟨hS.2.2.1, hS.2.1, hS.1, trivial⟩ hq)) (Nat.le_of_ble_eq_true rfl) (Nat.le_of_ble_eq_true rfl) rfl rfl rfl (fun v2 M1 => ?_)
  refine i_if_eq (tgt := 29) C dX11_rule_6 (by decide) ?_ ?_
  · refine i_ldc C dX11_rule_29 kc_X11_74 kI_m1000000001 ?_
    exact i_iret C hq dX11_rule_31
  · refine i_iload_n C dX11_rule_9 rfl (q := 2) rfl ?_
    refine i_iconst C dX11_rule_10 kI_0 ?_
    refine i_iload_n C dX11_rule_11 rfl (q := 1) rfl ?_
    refine i_jn (fun j => ∀ (p3 : Int) (M5 : Mem), Im X 0 0 23 [(0, aR 0), (1, aI x1), (2, aI x2)] [aI p3, aI 0, aI x2] M5 res (j p3 M5)) ?_ (fun j4 hj4 => ?_)
    · intro p3 M5
      refine i_cI (kc' := 0) (ks' := 0) 0 0 3 (fun q hq hM hS => crS C (as := [aI x2, aI 0, aI p3]) dX11_rule_23.1 ml_X11_86 cal_X11_within st_X11_within (hRm ⟨Nat.le_of_ble_eq_true rfl, Nat.le_of_ble_eq_true rfl⟩) rfl (Nat.le_of_ble_eq_true rfl) (c_X11_within (xl X) (xG X) hX hM ⟨hS.2.2.1, hS.2.1, hS.1, trivial⟩ hq)) (Nat.le_of_ble_eq_true rfl) (Nat.le_of_ble_eq_true rfl) rfl rfl rfl (fun v7 M6 => ?_)
      refine i_if_ne (tgt := 32) C dX11_rule_26 (by decide) ?_ ?_
      · refine i_aload_n C dX11_rule_32 rfl (q := 0) rfl ?_
        refine i_getR C (k := 0) kX11 dX11_rule_33 (shT_0 hX) rfl (by decide) fl_X11_12 ?_
        refine i_getR C (k := 6) kX0 dX11_rule_36 (shP_0 hX isC_100) rfl (by decide) fl_X11_380 ?_
        refine i_iload_n C dX11_rule_39 rfl (q := 1) rfl ?_
        refine i_iload_n C dX11_rule_40 rfl (q := 2) rfl ?_
        refine i_cI (kc' := 0) (ks' := 0) 0 0 3 (fun q hq hM hS => crS C (as := [aR (100 + 5), aI x1, aI x2]) dX11_rule_41.1 ml_X11_96 cal_X11_exchange st_X11_exchange (hRm ⟨Nat.le_of_ble_eq_true rfl, Nat.le_of_ble_eq_true rfl⟩) rfl (Nat.le_of_ble_eq_true rfl) (c_X11_exchange (xl X) (xG X) hX (shP_5 hX isC_100) hM ⟨hS.2.2.1, hS.2.1, hS.1, trivial⟩ hq)) (Nat.le_of_ble_eq_true rfl) (Nat.le_of_ble_eq_true rfl) rfl rfl rfl (fun v9 M8 => ?_)
        exact i_iret C hq dX11_rule_44
      · refine i_ldc C dX11_rule_29 kc_X11_74 kI_m1000000001 ?_
        exact i_iret C hq dX11_rule_31
    refine i_if_ne (tgt := 20) C dX11_rule_12 (by decide) ?_ ?_
    · refine i_sipush C dX11_rule_20 kS_999 ?_
      exact (hj4 999 M1)
    · refine i_bipush C dX11_rule_15 kB_100 ?_
      refine i_goto (tgt := 23) C dX11_rule_17 (by decide) ?_
      exact (hj4 100 M1)
set_option maxRecDepth 100000 in
set_option maxHeartbeats 4000000 in
theorem c_X11_feast (l : Launch) (G : Gx) {K : Kx} (hK : K = kP) {x1 : Int} {x2 : Int} {x3 : Int} {M : Mem} {res : Int × Mem} (hM : OkM M) (ha : okS [aR 0, aI x1, aI x2, aI x3]) (hF : pTop_feast x1 x2 x3 M = some res) : Ct l G K yX11_feast (wsM yX11_feast cX11_feast 4 (some .int)) rmX11_feast [aR 0, aI x1, aI x2, aI x3] M (some (aI res.1)) res.2 := by
  refine ct_of RX11 (by decide +kernel) rfl (hK ▸ kP_ok) hM ha (Nat.le_of_ble_eq_true rfl) hF ?_
  intro X C hl hG hX0 hN hR hq
  have hX : xK X = kP := hX0.trans hK
  show Im X 0 0 0 [(0, aR 0), (1, aI x1), (2, aI x2), (3, aI x3)] [] M res (pTop_feast x1 x2 x3 M)
  unfold pTop_feast
  have hRm : ∀ {rm : Room} {ny : Nat}, RmOk rmX11_feast rm ny → RmOk (xR X) rm ny := fun h => by rw [hR]; exact h
  refine i_iload_n C dX11_feast_0 rfl (q := 1) rfl ?_
  refine i_iconst C dX11_feast_1 kI_0 ?_
  refine i_bipush C dX11_feast_2 kB_7 ?_
  refine i_cI (kc' := 0) (ks' := 0) 0 0 3 (fun q hq hM hS => crS C (as := [aI x1, aI 0, aI 7]) dX11_feast_4.1 ml_X11_86 cal_X11_within st_X11_within (hRm ⟨Nat.le_of_ble_eq_true rfl, Nat.le_of_ble_eq_true rfl⟩) rfl (Nat.le_of_ble_eq_true rfl) (c_X11_within (xl X) (xG X) hX hM ⟨hS.2.2.1, hS.2.1, hS.1, trivial⟩ hq)) (Nat.le_of_ble_eq_true rfl) (Nat.le_of_ble_eq_true rfl) rfl rfl rfl (fun v2 M1 => ?_)
  refine i_if_eq (tgt := 30) C dX11_feast_7 (by decide) ?_ ?_
  · refine i_ldc C dX11_feast_30 kc_X11_74 kI_m1000000001 ?_
    exact i_iret C hq dX11_feast_32
  · refine i_iload_n C dX11_feast_10 rfl (q := 2) rfl ?_
    refine i_iconst C dX11_feast_11 kI_0 ?_
    refine i_bipush C dX11_feast_12 kB_12 ?_
    refine i_cI (kc' := 0) (ks' := 0) 0 0 3 (fun q hq hM hS => crS C (as := [aI x2, aI 0, aI 12]) dX11_feast_14.1 ml_X11_86 cal_X11_within st_X11_within (hRm ⟨Nat.le_of_ble_eq_true rfl, Nat.le_of_ble_eq_true rfl⟩) rfl (Nat.le_of_ble_eq_true rfl) (c_X11_within (xl X) (xG X) hX hM ⟨hS.2.2.1, hS.2.1, hS.1, trivial⟩ hq)) (Nat.le_of_ble_eq_true rfl) (Nat.le_of_ble_eq_true rfl) rfl rfl rfl (fun v4 M3 => ?_)
    refine i_if_eq (tgt := 30) C dX11_feast_17 (by decide) ?_ ?_
    · refine i_ldc C dX11_feast_30 kc_X11_74 kI_m1000000001 ?_
      exact i_iret C hq dX11_feast_32
    · refine i_iload_n C dX11_feast_20 rfl (q := 3) rfl ?_
      refine i_iconst C dX11_feast_21 kI_0 ?_
      refine i_bipush C dX11_feast_22 kB_99 ?_
      refine i_cI (kc' := 0) (ks' := 0) 0 0 3 (fun q hq hM hS => crS C (as := [aI x3, aI 0, aI 99]) dX11_feast_24.1 ml_X11_86 cal_X11_within st_X11_within (hRm ⟨Nat.le_of_ble_eq_true rfl, Nat.le_of_ble_eq_true rfl⟩) rfl (Nat.le_of_ble_eq_true rfl) (c_X11_within (xl X) (xG X) hX hM ⟨hS.2.2.1, hS.2.1, hS.1, trivial⟩ hq)) (Nat.le_of_ble_eq_true rfl) (Nat.le_of_ble_eq_true rfl) rfl rfl rfl (fun v6 M5 => ?_)
      refine i_if_ne (tgt := 33) C dX11_feast_27 (by decide) ?_ ?_
      · refine i_aload_n C dX11_feast_33 rfl (q := 0) rfl ?_
        refine i_getR C (k := 0) kX11 dX11_feast_34 (shT_0 hX) rfl (by decide) fl_X11_12 ?_
        refine i_getR C (k := 12) kX0 dX11_feast_37 (shP_0 hX isC_100) rfl (by decide) fl_X11_383 ?_
        refine i_getR C (k := 0) kX2 dX11_feast_40 (shP_53 hX isC_100) rfl (by decide) fl_X11_387 ?_
        refine i_iload_n C dX11_feast_43 rfl (q := 1) rfl ?_
        refine i_bipush C dX11_feast_44 kB_13 ?_
        refine i_imul C dX11_feast_46 ?_
        refine i_iload_n C dX11_feast_47 rfl (q := 2) rfl ?_
        refine i_iadd C dX11_feast_48 ?_
        refine i_iload_n C dX11_feast_49 rfl (q := 3) rfl ?_
        refine i_cI (kc' := 0) (ks' := 0) 0 0 3 (fun q hq hM hS => crS C (as := [aR (100 + 54), aI (w32 ((w32 (x1 * 13)) + x2)), aI x3]) dX11_feast_50.1 ml_X11_96 cal_X11_exchange st_X11_exchange (hRm ⟨Nat.le_of_ble_eq_true rfl, Nat.le_of_ble_eq_true rfl⟩) rfl (Nat.le_of_ble_eq_true rfl) (c_X11_exchange (xl X) (xG X) hX (shP_54 hX isC_100) hM ⟨hS.2.2.1, hS.2.1, hS.1, trivial⟩ hq)) (Nat.le_of_ble_eq_true rfl) (Nat.le_of_ble_eq_true rfl) rfl rfl rfl (fun v8 M7 => ?_)
        exact i_iret C hq dX11_feast_53
      · refine i_ldc C dX11_feast_30 kc_X11_74 kI_m1000000001 ?_
        exact i_iret C hq dX11_feast_32
set_option maxRecDepth 100000 in
set_option maxHeartbeats 4000000 in
theorem c_X11_waiting (l : Launch) (G : Gx) {K : Kx} (hK : K = kP) {x1 : Int} {M : Mem} {res : Int × Mem} (hM : OkM M) (ha : okS [aR 0, aI x1]) (hF : pTop_waiting x1 M = some res) : Ct l G K yX11_waiting (wsM yX11_waiting cX11_waiting 2 (some .int)) rmX11_waiting [aR 0, aI x1] M (some (aI res.1)) res.2 := by
  refine ct_of RX11 (by decide +kernel) rfl (hK ▸ kP_ok) hM ha (Nat.le_of_ble_eq_true rfl) hF ?_
  intro X C hl hG hX0 hN hR hq
  have hX : xK X = kP := hX0.trans hK
  show Im X 0 0 0 [(0, aR 0), (1, aI x1)] [] M res (pTop_waiting x1 M)
  unfold pTop_waiting
  have hRm : ∀ {rm : Room} {ny : Nat}, RmOk rmX11_waiting rm ny → RmOk (xR X) rm ny := fun h => by rw [hR]; exact h
  refine i_iload_n C dX11_waiting_0 rfl (q := 1) rfl ?_
  refine i_iconst C dX11_waiting_1 kI_1 ?_
  refine i_sipush C dX11_waiting_2 kS_255 ?_
  refine i_cI (kc' := 0) (ks' := 0) 0 0 3 (fun q hq hM hS => crS C (as := [aI x1, aI 1, aI 255]) dX11_waiting_5.1 ml_X11_86 cal_X11_within st_X11_within (hRm ⟨Nat.le_of_ble_eq_true rfl, Nat.le_of_ble_eq_true rfl⟩) rfl (Nat.le_of_ble_eq_true rfl) (c_X11_within (xl X) (xG X) hX hM ⟨hS.2.2.1, hS.2.1, hS.1, trivial⟩ hq)) (Nat.le_of_ble_eq_true rfl) (Nat.le_of_ble_eq_true rfl) rfl rfl rfl (fun v2 M1 => ?_)
  refine i_if_eq (tgt := 25) C dX11_waiting_8 (by decide) ?_ ?_
  · refine i_ldc C dX11_waiting_25 kc_X11_74 kI_m1000000001 ?_
    exact i_iret C hq dX11_waiting_27
  · refine i_aload_n C dX11_waiting_11 rfl (q := 0) rfl ?_
    refine i_getR C (k := 0) kX11 dX11_waiting_12 (shT_0 hX) rfl (by decide) fl_X11_12 ?_
    refine i_getR C (k := 12) kX0 dX11_waiting_15 (shP_0 hX isC_100) rfl (by decide) fl_X11_383 ?_
    refine i_iload_n C dX11_waiting_18 rfl (q := 1) rfl ?_
    refine i_cI (kc' := 0) (ks' := 0) 0 0 2 (fun q hq hM hS => crV C (as := [aI x1]) dX11_waiting_19.1 kX2 (shP_53 hX isC_100) ml_X11_392 cal_X2_waitOf cv_X2_waitOf (hRm ⟨Nat.le_of_ble_eq_true rfl, Nat.le_of_ble_eq_true rfl⟩) rfl (Nat.le_of_ble_eq_true rfl) (c_X2_waitOf (xl X) (xG X) hX isC_100 hM ⟨hS.2.1, hS.1, trivial⟩ hq)) (Nat.le_of_ble_eq_true rfl) (Nat.le_of_ble_eq_true rfl) rfl rfl rfl (fun v4 M3 => ?_)
    refine i_goto (tgt := 27) C dX11_waiting_22 (by decide) ?_
    exact i_iret C hq dX11_waiting_27
set_option maxRecDepth 100000 in
set_option maxHeartbeats 4000000 in
theorem c_X11_gates (l : Launch) (G : Gx) {K : Kx} (hK : K = kP) {x1 : Int} {M : Mem} {res : Int × Mem} (hM : OkM M) (ha : okS [aR 0, aI x1]) (hF : pTop_gates x1 M = some res) : Ct l G K yX11_gates (wsM yX11_gates cX11_gates 2 (some .int)) rmX11_gates [aR 0, aI x1] M (some (aI res.1)) res.2 := by
  refine ct_of RX11 (by decide +kernel) rfl (hK ▸ kP_ok) hM ha (Nat.le_of_ble_eq_true rfl) hF ?_
  intro X C hl hG hX0 hN hR hq
  have hX : xK X = kP := hX0.trans hK
  show Im X 0 0 0 [(0, aR 0), (1, aI x1)] [] M res (pTop_gates x1 M)
  unfold pTop_gates
  have hRm : ∀ {rm : Room} {ny : Nat}, RmOk rmX11_gates rm ny → RmOk (xR X) rm ny := fun h => by rw [hR]; exact h
  refine i_iload_n C dX11_gates_0 rfl (q := 1) rfl ?_
  refine i_iconst C dX11_gates_1 kI_1 ?_
  refine i_bipush C dX11_gates_2 kB_8 ?_
  refine i_cI (kc' := 0) (ks' := 0) 0 0 3 (fun q hq hM hS => crS C (as := [aI x1, aI 1, aI 8]) dX11_gates_4.1 ml_X11_86 cal_X11_within st_X11_within (hRm ⟨Nat.le_of_ble_eq_true rfl, Nat.le_of_ble_eq_true rfl⟩) rfl (Nat.le_of_ble_eq_true rfl) (c_X11_within (xl X) (xG X) hX hM ⟨hS.2.2.1, hS.2.1, hS.1, trivial⟩ hq)) (Nat.le_of_ble_eq_true rfl) (Nat.le_of_ble_eq_true rfl) rfl rfl rfl (fun v2 M1 => ?_)
  refine i_if_eq (tgt := 24) C dX11_gates_7 (by decide) ?_ ?_
  · refine i_ldc C dX11_gates_24 kc_X11_74 kI_m1000000001 ?_
    exact i_iret C hq dX11_gates_26
  · refine i_aload_n C dX11_gates_10 rfl (q := 0) rfl ?_
    refine i_getR C (k := 0) kX11 dX11_gates_11 (shT_0 hX) rfl (by decide) fl_X11_12 ?_
    refine i_getR C (k := 12) kX0 dX11_gates_14 (shP_0 hX isC_100) rfl (by decide) fl_X11_383 ?_
    refine i_iload_n C dX11_gates_17 rfl (q := 1) rfl ?_
    refine i_cI (kc' := 0) (ks' := 0) 0 0 2 (fun q hq hM hS => crV C (as := [aI x1]) dX11_gates_18.1 kX2 (shP_53 hX isC_100) ml_X11_395 cal_X2_bestSet cv_X2_bestSet (hRm ⟨Nat.le_of_ble_eq_true rfl, Nat.le_of_ble_eq_true rfl⟩) rfl (Nat.le_of_ble_eq_true rfl) (c_X2_bestSet (xl X) (xG X) hX isC_100 hM ⟨hS.2.1, hS.1, trivial⟩ hq)) (Nat.le_of_ble_eq_true rfl) (Nat.le_of_ble_eq_true rfl) rfl rfl rfl (fun v4 M3 => ?_)
    refine i_goto (tgt := 26) C dX11_gates_21 (by decide) ?_
    exact i_iret C hq dX11_gates_26
set_option maxRecDepth 100000 in
set_option maxHeartbeats 4000000 in
theorem c_X11_clause (l : Launch) (G : Gx) {K : Kx} (hK : K = kP) {x1 : Int} {x2 : Int} {x3 : Int} {M : Mem} {res : Int × Mem} (hM : OkM M) (ha : okS [aR 0, aI x1, aI x2, aI x3]) (hF : pTop_clause x1 x2 x3 M = some res) : Ct l G K yX11_clause (wsM yX11_clause cX11_clause 4 (some .int)) rmX11_clause [aR 0, aI x1, aI x2, aI x3] M (some (aI res.1)) res.2 := by
  refine ct_of RX11 (by decide +kernel) rfl (hK ▸ kP_ok) hM ha (Nat.le_of_ble_eq_true rfl) hF ?_
  intro X C hl hG hX0 hN hR hq
  have hX : xK X = kP := hX0.trans hK
  show Im X 0 0 0 [(0, aR 0), (1, aI x1), (2, aI x2), (3, aI x3)] [] M res (pTop_clause x1 x2 x3 M)
  unfold pTop_clause
  have hRm : ∀ {rm : Room} {ny : Nat}, RmOk rmX11_clause rm ny → RmOk (xR X) rm ny := fun h => by rw [hR]; exact h
  refine i_iload_n C dX11_clause_0 rfl (q := 1) rfl ?_
  refine i_bipush C dX11_clause_1 kB_m99 ?_
  refine i_bipush C dX11_clause_3 kB_99 ?_
  refine i_cI (kc' := 0) (ks' := 0) 0 0 3 (fun q hq hM hS => crS C (as := [aI x1, aI (-99), aI 99]) dX11_clause_5.1 ml_X11_86 cal_X11_within st_X11_within (hRm ⟨Nat.le_of_ble_eq_true rfl, Nat.le_of_ble_eq_true rfl⟩) rfl (Nat.le_of_ble_eq_true rfl) (c_X11_within (xl X) (xG X) hX hM ⟨hS.2.2.1, hS.2.1, hS.1, trivial⟩ hq)) (Nat.le_of_ble_eq_true rfl) (Nat.le_of_ble_eq_true rfl) rfl rfl rfl (fun v2 M1 => ?_)
  refine i_if_eq (tgt := 32) C dX11_clause_8 (by decide) ?_ ?_
  · refine i_ldc C dX11_clause_32 kc_X11_74 kI_m1000000001 ?_
    exact i_iret C hq dX11_clause_34
  · refine i_iload_n C dX11_clause_11 rfl (q := 2) rfl ?_
    refine i_bipush C dX11_clause_12 kB_m99 ?_
    refine i_bipush C dX11_clause_14 kB_99 ?_
    refine i_cI (kc' := 0) (ks' := 0) 0 0 3 (fun q hq hM hS => crS C (as := [aI x2, aI (-99), aI 99]) dX11_clause_16.1 ml_X11_86 cal_X11_within st_X11_within (hRm ⟨Nat.le_of_ble_eq_true rfl, Nat.le_of_ble_eq_true rfl⟩) rfl (Nat.le_of_ble_eq_true rfl) (c_X11_within (xl X) (xG X) hX hM ⟨hS.2.2.1, hS.2.1, hS.1, trivial⟩ hq)) (Nat.le_of_ble_eq_true rfl) (Nat.le_of_ble_eq_true rfl) rfl rfl rfl (fun v4 M3 => ?_)
    refine i_if_eq (tgt := 32) C dX11_clause_19 (by decide) ?_ ?_
    · refine i_ldc C dX11_clause_32 kc_X11_74 kI_m1000000001 ?_
      exact i_iret C hq dX11_clause_34
    · refine i_iload_n C dX11_clause_22 rfl (q := 3) rfl ?_
      refine i_iconst C dX11_clause_23 kI_0 ?_
      refine i_bipush C dX11_clause_24 kB_99 ?_
      refine i_cI (kc' := 0) (ks' := 0) 0 0 3 (fun q hq hM hS => crS C (as := [aI x3, aI 0, aI 99]) dX11_clause_26.1 ml_X11_86 cal_X11_within st_X11_within (hRm ⟨Nat.le_of_ble_eq_true rfl, Nat.le_of_ble_eq_true rfl⟩) rfl (Nat.le_of_ble_eq_true rfl) (c_X11_within (xl X) (xG X) hX hM ⟨hS.2.2.1, hS.2.1, hS.1, trivial⟩ hq)) (Nat.le_of_ble_eq_true rfl) (Nat.le_of_ble_eq_true rfl) rfl rfl rfl (fun v6 M5 => ?_)
      refine i_if_ne (tgt := 35) C dX11_clause_29 (by decide) ?_ ?_
      · refine i_aload_n C dX11_clause_35 rfl (q := 0) rfl ?_
        refine i_getR C (k := 0) kX11 dX11_clause_36 (shT_0 hX) rfl (by decide) fl_X11_12 ?_
        refine i_getR C (k := 13) kX0 dX11_clause_39 (shP_0 hX isC_100) rfl (by decide) fl_X11_398 ?_
        refine i_getI C (k := 0) kX1 dX11_clause_42 (shP_57 hX isC_100) rfl (by decide) fl_X11_402 rfl ?_
        refine i_bipush C dX11_clause_45 kB_7 ?_
        refine i_icmp_ne (tgt := 53) C dX11_clause_47 (by decide) ?_ ?_
        · refine i_aload_n C dX11_clause_53 rfl (q := 0) rfl ?_
          refine i_getR C (k := 0) kX11 dX11_clause_54 (shT_0 hX) rfl (by decide) fl_X11_12 ?_
          refine i_getR C (k := 13) kX0 dX11_clause_57 (shP_0 hX isC_100) rfl (by decide) fl_X11_398 ?_
          refine i_iload_n C dX11_clause_60 rfl (q := 1) rfl ?_
          refine i_iload_n C dX11_clause_61 rfl (q := 2) rfl ?_
          refine i_iload_n C dX11_clause_62 rfl (q := 3) rfl ?_
          refine i_cI (kc' := 0) (ks' := 0) 0 0 4 (fun q hq hM hS => crV C (as := [aI x1, aI x2, aI x3]) dX11_clause_63.1 kX1 (shP_57 hX isC_100) ml_X11_405 cal_X1_addClause cv_X1_addClause (hRm ⟨Nat.le_of_ble_eq_true rfl, Nat.le_of_ble_eq_true rfl⟩) rfl (Nat.le_of_ble_eq_true rfl) (c_X1_addClause (xl X) (xG X) hX isC_100 hM ⟨hS.2.2.2.1, hS.2.2.1, hS.2.1, hS.1, trivial⟩ hq)) (Nat.le_of_ble_eq_true rfl) (Nat.le_of_ble_eq_true rfl) rfl rfl rfl (fun v8 M7 => ?_)
          exact i_iret C hq dX11_clause_66
        · refine i_ldc C dX11_clause_50 kc_X11_78 kI_m1000000003 ?_
          exact i_iret C hq dX11_clause_52
      · refine i_ldc C dX11_clause_32 kc_X11_74 kI_m1000000001 ?_
        exact i_iret C hq dX11_clause_34
set_option maxRecDepth 100000 in
set_option maxHeartbeats 4000000 in
theorem c_X11_plan (l : Launch) (G : Gx) {K : Kx} (hK : K = kP) {x1 : Int} {x2 : Int} {M : Mem} {res : Int × Mem} (hM : OkM M) (ha : okS [aR 0, aI x1, aI x2]) (hF : pTop_plan x1 x2 M = some res) : Ct l G K yX11_plan (wsM yX11_plan cX11_plan 3 (some .int)) rmX11_plan [aR 0, aI x1, aI x2] M (some (aI res.1)) res.2 := by
  refine ct_of RX11 (by decide +kernel) rfl (hK ▸ kP_ok) hM ha (Nat.le_of_ble_eq_true rfl) hF ?_
  intro X C hl hG hX0 hN hR hq
  have hX : xK X = kP := hX0.trans hK
  show Im X 0 0 0 [(0, aR 0), (1, aI x1), (2, aI x2)] [] M res (pTop_plan x1 x2 M)
  unfold pTop_plan
  have hRm : ∀ {rm : Room} {ny : Nat}, RmOk rmX11_plan rm ny → RmOk (xR X) rm ny := fun h => by rw [hR]; exact h
  refine i_iload_n C dX11_plan_0 rfl (q := 1) rfl ?_
  refine i_iconst C dX11_plan_1 kI_1 ?_
  refine i_sipush C dX11_plan_2 kS_999 ?_
  refine i_cI (kc' := 0) (ks' := 0) 0 0 3 (fun q hq hM hS => crS C (as := [aI x1, aI 1, aI 999]) dX11_plan_5.1 ml_X11_86 cal_X11_within st_X11_within (hRm ⟨Nat.le_of_ble_eq_true rfl, Nat.le_of_ble_eq_true rfl⟩) rfl (Nat.le_of_ble_eq_true rfl) (c_X11_within (xl X) (xG X) hX hM ⟨hS.2.2.1, hS.2.1, hS.1, trivial⟩ hq)) (Nat.le_of_ble_eq_true rfl) (Nat.le_of_ble_eq_true rfl) rfl rfl rfl (fun v2 M1 => ?_)
  refine i_if_eq (tgt := 22) C dX11_plan_8 (by decide) ?_ ?_
  · refine i_ldc C dX11_plan_22 kc_X11_74 kI_m1000000001 ?_
    exact i_iret C hq dX11_plan_24
  · refine i_iload_n C dX11_plan_11 rfl (q := 2) rfl ?_
    refine i_iconst C dX11_plan_12 kI_1 ?_
    refine i_sipush C dX11_plan_13 kS_20000 ?_
    refine i_cI (kc' := 0) (ks' := 0) 0 0 3 (fun q hq hM hS => crS C (as := [aI x2, aI 1, aI 20000]) dX11_plan_16.1 ml_X11_86 cal_X11_within st_X11_within (hRm ⟨Nat.le_of_ble_eq_true rfl, Nat.le_of_ble_eq_true rfl⟩) rfl (Nat.le_of_ble_eq_true rfl) (c_X11_within (xl X) (xG X) hX hM ⟨hS.2.2.1, hS.2.1, hS.1, trivial⟩ hq)) (Nat.le_of_ble_eq_true rfl) (Nat.le_of_ble_eq_true rfl) rfl rfl rfl (fun v4 M3 => ?_)
    refine i_if_ne (tgt := 25) C dX11_plan_19 (by decide) ?_ ?_
    · refine i_aload_n C dX11_plan_25 rfl (q := 0) rfl ?_
      refine i_getR C (k := 0) kX11 dX11_plan_26 (shT_0 hX) rfl (by decide) fl_X11_12 ?_
      refine i_getR C (k := 13) kX0 dX11_plan_29 (shP_0 hX isC_100) rfl (by decide) fl_X11_398 ?_
      refine i_iload_n C dX11_plan_32 rfl (q := 1) rfl ?_
      refine i_iload_n C dX11_plan_33 rfl (q := 2) rfl ?_
      refine i_aload_n C dX11_plan_34 rfl (q := 0) rfl ?_
      refine i_getR C (k := 0) kX11 dX11_plan_35 (shT_0 hX) rfl (by decide) fl_X11_12 ?_
      refine i_getR C (k := 6) kX0 dX11_plan_38 (shP_0 hX isC_100) rfl (by decide) fl_X11_380 ?_
      refine i_iconst C dX11_plan_41 kI_1 ?_
      refine i_ald C dX11_plan_42 (shP_5 hX isC_100) (fun v5 => ?_)
      refine i_cI (kc' := 0) (ks' := 0) 0 0 4 (fun q hq hM hS => crV C (as := [aI x1, aI x2, aI v5]) dX11_plan_43.1 kX1 (shP_57 hX isC_100) ml_X11_408 cal_X1_soonest cv_X1_soonest (hRm ⟨Nat.le_of_ble_eq_true rfl, Nat.le_of_ble_eq_true rfl⟩) rfl (Nat.le_of_ble_eq_true rfl) (c_X1_soonest (xl X) (xG X) hX isC_100 hM ⟨hS.2.2.2.1, hS.2.2.1, hS.2.1, hS.1, trivial⟩ hq)) (Nat.le_of_ble_eq_true rfl) (Nat.le_of_ble_eq_true rfl) rfl rfl rfl (fun v7 M6 => ?_)
      exact i_iret C hq dX11_plan_46
    · refine i_ldc C dX11_plan_22 kc_X11_74 kI_m1000000001 ?_
      exact i_iret C hq dX11_plan_24
set_option maxRecDepth 100000 in
set_option maxHeartbeats 4000000 in
theorem c_X11_planned (l : Launch) (G : Gx) {K : Kx} (hK : K = kP) {x1 : Int} {x2 : Int} {M : Mem} {res : Int × Mem} (hM : OkM M) (ha : okS [aR 0, aI x1, aI x2]) (hF : pTop_planned x1 x2 M = some res) : Ct l G K yX11_planned (wsM yX11_planned cX11_planned 4 (some .int)) rmX11_planned [aR 0, aI x1, aI x2] M (some (aI res.1)) res.2 := by
  refine ct_of RX11 (by decide +kernel) rfl (hK ▸ kP_ok) hM ha (Nat.le_of_ble_eq_true rfl) hF ?_
  intro X C hl hG hX0 hN hR hq
  have hX : xK X = kP := hX0.trans hK
  show Im X 0 0 0 [(0, aR 0), (1, aI x1), (2, aI x2)] [] M res (pTop_planned x1 x2 M)
  unfold pTop_planned
  have hl3 : 3 < xn X := by rw [hN]; decide
  have hRm : ∀ {rm : Room} {ny : Nat}, RmOk rmX11_planned rm ny → RmOk (xR X) rm ny := fun h => by rw [hR]; exact h
  refine i_iload_n C dX11_planned_0 rfl (q := 1) rfl ?_
  refine i_iconst C dX11_planned_1 kI_1 ?_
  refine i_sipush C dX11_planned_2 kS_999 ?_
  refine i_cI (kc' := 0) (ks' := 0) 0 0 3 (fun q hq hM hS => crS C (as := [aI x1, aI 1, aI 999]) dX11_planned_5.1 ml_X11_86 cal_X11_within st_X11_within (hRm ⟨Nat.le_of_ble_eq_true rfl, Nat.le_of_ble_eq_true rfl⟩) rfl (Nat.le_of_ble_eq_true rfl) (c_X11_within (xl X) (xG X) hX hM ⟨hS.2.2.1, hS.2.1, hS.1, trivial⟩ hq)) (Nat.le_of_ble_eq_true rfl) (Nat.le_of_ble_eq_true rfl) rfl rfl rfl (fun v2 M1 => ?_)
  refine i_if_eq (tgt := 15) C dX11_planned_8 (by decide) ?_ ?_
  · refine i_ldc C dX11_planned_15 kc_X11_74 kI_m1000000001 ?_
    exact i_iret C hq dX11_planned_17
  · refine i_iload_n C dX11_planned_11 rfl (q := 2) rfl ?_
    refine i_if_ge (tgt := 18) C dX11_planned_12 (by decide) ?_ ?_
    · refine i_aload_n C dX11_planned_18 rfl (q := 0) rfl ?_
      refine i_getR C (k := 0) kX11 dX11_planned_19 (shT_0 hX) rfl (by decide) fl_X11_12 ?_
      refine i_getR C (k := 13) kX0 dX11_planned_22 (shP_0 hX isC_100) rfl (by decide) fl_X11_398 ?_
      refine i_iload_n C dX11_planned_25 rfl (q := 1) rfl ?_
      refine i_sipush C dX11_planned_26 kS_20000 ?_
      refine i_aload_n C dX11_planned_29 rfl (q := 0) rfl ?_
      refine i_getR C (k := 0) kX11 dX11_planned_30 (shT_0 hX) rfl (by decide) fl_X11_12 ?_
      refine i_getR C (k := 6) kX0 dX11_planned_33 (shP_0 hX isC_100) rfl (by decide) fl_X11_380 ?_
      refine i_iconst C dX11_planned_36 kI_1 ?_
      refine i_ald C dX11_planned_37 (shP_5 hX isC_100) (fun v3 => ?_)
      refine i_cI (kc' := 0) (ks' := 0) 0 0 4 (fun q hq hM hS => crV C (as := [aI x1, aI 20000, aI v3]) dX11_planned_38.1 kX1 (shP_57 hX isC_100) ml_X11_408 cal_X1_soonest cv_X1_soonest (hRm ⟨Nat.le_of_ble_eq_true rfl, Nat.le_of_ble_eq_true rfl⟩) rfl (Nat.le_of_ble_eq_true rfl) (c_X1_soonest (xl X) (xG X) hX isC_100 hM ⟨hS.2.2.2.1, hS.2.2.1, hS.2.1, hS.1, trivial⟩ hq)) (Nat.le_of_ble_eq_true rfl) (Nat.le_of_ble_eq_true rfl) rfl rfl rfl (fun v5 M4 => ?_)
      refine i_istore_n C dX11_planned_41 rfl hl3 (L' := [(0, aR 0), (1, aI x1), (2, aI x2), (3, aI v5)]) rfl ?_
      refine i_iload_n C dX11_planned_42 rfl (q := 3) rfl ?_
      refine i_if_ge (tgt := 48) C dX11_planned_43 (by decide) ?_ ?_
      · refine i_iload_n C dX11_planned_48 rfl (q := 2) rfl ?_
        refine i_iload_n C dX11_planned_49 rfl (q := 3) rfl ?_
        refine i_icmp_ge (tgt := 68) C dX11_planned_50 (by decide) ?_ ?_
        · refine i_ldc_w C dX11_planned_68 kc_X11_282 kI_m1000000005 ?_
          exact i_iret C hq dX11_planned_71
        · refine i_aload_n C dX11_planned_53 rfl (q := 0) rfl ?_
          refine i_getR C (k := 0) kX11 dX11_planned_54 (shT_0 hX) rfl (by decide) fl_X11_12 ?_
          refine i_getR C (k := 13) kX0 dX11_planned_57 (shP_0 hX isC_100) rfl (by decide) fl_X11_398 ?_
          refine i_getR C (k := 4) kX1 dX11_planned_60 (shP_57 hX isC_100) rfl (by decide) fl_X11_411 ?_
          refine i_iload_n C dX11_planned_63 rfl (q := 2) rfl ?_
          refine i_ald C dX11_planned_64 (shP_61 hX isC_100) (fun v6 => ?_)
          refine i_goto (tgt := 71) C dX11_planned_65 (by decide) ?_
          exact i_iret C hq dX11_planned_71
      · refine i_iload_n C dX11_planned_46 rfl (q := 3) rfl ?_
        exact i_iret C hq dX11_planned_47
    · refine i_ldc C dX11_planned_15 kc_X11_74 kI_m1000000001 ?_
      exact i_iret C hq dX11_planned_17
set_option maxRecDepth 100000 in
set_option maxHeartbeats 4000000 in
theorem c_X11_tell (l : Launch) (G : Gx) {K : Kx} (hK : K = kP) {x1 : Int} {M : Mem} {res : Int × Mem} (hM : OkM M) (ha : okS [aR 0, aI x1]) (hF : pTop_tell x1 M = some res) : Ct l G K yX11_tell (wsM yX11_tell cX11_tell 2 (some .int)) rmX11_tell [aR 0, aI x1] M (some (aI res.1)) res.2 := by
  refine ct_of RX11 (by decide +kernel) rfl (hK ▸ kP_ok) hM ha (Nat.le_of_ble_eq_true rfl) hF ?_
  intro X C hl hG hX0 hN hR hq
  have hX : xK X = kP := hX0.trans hK
  show Im X 0 0 0 [(0, aR 0), (1, aI x1)] [] M res (pTop_tell x1 M)
  unfold pTop_tell
  refine i_aload_n C dX11_tell_0 rfl (q := 0) rfl ?_
  refine i_getI C (k := 8) kX11 dX11_tell_1 (shT_0 hX) rfl (by decide) fl_X11_51 rfl ?_
  refine i_bipush C dX11_tell_4 kB_60 ?_
  refine i_icmp_ne (tgt := 12) C dX11_tell_6 (by decide) ?_ ?_
  · refine i_aload_n C dX11_tell_12 rfl (q := 0) rfl ?_
    refine i_getR C (k := 7) kX11 dX11_tell_13 (shT_0 hX) rfl (by decide) fl_X11_47 ?_
    refine i_aload_n C dX11_tell_16 rfl (q := 0) rfl ?_
    refine i_dup C dX11_tell_17 rfl ?_
    refine i_getI C (k := 8) kX11 dX11_tell_18 (shT_0 hX) rfl (by decide) fl_X11_51 rfl ?_
    refine i_dup_x1 C dX11_tell_21 rfl rfl ?_
    refine i_iconst C dX11_tell_22 kI_1 ?_
    refine i_iadd C dX11_tell_23 ?_
    refine i_putI C (k := 8) kX11 dX11_tell_24 (shT_0 hX) rfl (by decide) fl_X11_51 rfl rfl rfl rfl (fun M1 => ?_)
    refine i_iload_n C dX11_tell_27 rfl (q := 1) rfl ?_
    refine i_ast C dX11_tell_28 (shT_13 hX) (fun M2 => ?_)
    refine i_aload_n C dX11_tell_29 rfl (q := 0) rfl ?_
    refine i_getI C (k := 8) kX11 dX11_tell_30 (shT_0 hX) rfl (by decide) fl_X11_51 rfl ?_
    exact i_iret C hq dX11_tell_33
  · refine i_ldc C dX11_tell_9 kc_X11_78 kI_m1000000003 ?_
    exact i_iret C hq dX11_tell_11
set_option maxRecDepth 100000 in
set_option maxHeartbeats 4000000 in
theorem w_X11_orderRows_29 {X : Xc} (C : Cx X RX11 cX11_orderRows (some .int)) (hX : xK X = kP) (hN : xn X = 6) (hR : xR X = rmX11_orderRows) {res : Int × Mem} (hq : Rq X (some (aI res.1)) res.2) (y2 : Int) {k95 : Mem → Option (Int × Mem)} (hk95 : ∀ (M : Mem), Im X 0 0 95 [(2, aI y2)] [] M res (k95 M)) : ∀ (n : Nat) (u3 : Int) (u4 : Int) (M : Mem), Im X 0 0 29 [(0, aR 0), (2, aI y2), (3, aI u3), (4, aI u4)] [] M res (lpX11_orderRows_29 y2 k95 n u3 u4 M) := by
  have hl2 : 2 < xn X := by rw [hN]; decide
  have hl3 : 3 < xn X := by rw [hN]; decide
  have hl4 : 4 < xn X := by rw [hN]; decide
  have hl5 : 5 < xn X := by rw [hN]; decide
  have hRm : ∀ {rm : Room} {ny : Nat}, RmOk rmX11_orderRows rm ny → RmOk (xR X) rm ny := fun h => by rw [hR]; exact h
  intro n
  induction n with
  | zero => intro _ _ _; exact i_none
  | succ n ih =>
    intro u3 u4 M
    unfold lpX11_orderRows_29
    refine i_iload C dX11_orderRows_29 (q := 3) rfl ?_
    refine i_iload_n C dX11_orderRows_31 rfl (q := 1) rfl ?_
    refine i_icmp_ge (tgt := 95) C dX11_orderRows_32 (by decide) ?_ ?_
    · exact i_sub [1] rfl (hk95  M)
    · refine i_aload_n C dX11_orderRows_35 rfl (q := 0) rfl ?_
      refine i_getR C (k := 0) kX11 dX11_orderRows_36 (shT_0 hX) rfl (by decide) fl_X11_12 ?_
      refine i_getR C (k := 13) kX0 dX11_orderRows_39 (shP_0 hX isC_100) rfl (by decide) fl_X11_398 ?_
      refine i_getR C (k := 4) kX1 dX11_orderRows_42 (shP_57 hX isC_100) rfl (by decide) fl_X11_411 ?_
      refine i_iload C dX11_orderRows_45 (q := 3) rfl ?_
      refine i_ald C dX11_orderRows_47 (shP_61 hX isC_100) (fun v4 => ?_)
      refine i_istore C dX11_orderRows_48 hl5 (L' := [(0, aR 0), (2, aI y2), (3, aI u3), (4, aI u4), (5, aI v4)]) rfl ?_
      refine i_iload_n C dX11_orderRows_50 rfl (q := 2) rfl ?_
      refine i_aload_n C dX11_orderRows_51 rfl (q := 0) rfl ?_
      refine i_getR C (k := 0) kX11 dX11_orderRows_52 (shT_0 hX) rfl (by decide) fl_X11_12 ?_
      refine i_getR C (k := 13) kX0 dX11_orderRows_55 (shP_0 hX isC_100) rfl (by decide) fl_X11_398 ?_
      refine i_getR C (k := 3) kX1 dX11_orderRows_58 (shP_57 hX isC_100) rfl (by decide) fl_X11_423 ?_
      refine i_iload C dX11_orderRows_61 (q := 4) rfl ?_
      refine i_ald C dX11_orderRows_63 (shP_60 hX isC_100) (fun v5 => ?_)
      refine i_iadd C dX11_orderRows_64 ?_
      refine i_nm (fun v6 => ?_)
      refine i_istore_n C dX11_orderRows_65 rfl hl3 (L' := [(0, aR 0), (2, aI y2), (3, aI v6), (4, aI u4), (5, aI v4)]) rfl ?_
      refine i_aload_n C dX11_orderRows_66 rfl (q := 0) rfl ?_
      refine i_getR C (k := 9) kX11 dX11_orderRows_67 (shT_0 hX) rfl (by decide) fl_X11_55 ?_
      refine i_iconst C dX11_orderRows_70 kI_2 ?_
      refine i_iload C dX11_orderRows_71 (q := 3) rfl ?_
      refine i_imul C dX11_orderRows_73 ?_
      refine i_iload C dX11_orderRows_74 (q := 4) rfl ?_
      refine i_ast C dX11_orderRows_76 (shT_14 hX) (fun M7 => ?_)
      refine i_aload_n C dX11_orderRows_77 rfl (q := 0) rfl ?_
      refine i_getR C (k := 9) kX11 dX11_orderRows_78 (shT_0 hX) rfl (by decide) fl_X11_55 ?_
      refine i_iconst C dX11_orderRows_81 kI_2 ?_
      refine i_iload C dX11_orderRows_82 (q := 3) rfl ?_
      refine i_imul C dX11_orderRows_84 ?_
      refine i_iconst C dX11_orderRows_85 kI_1 ?_
      refine i_iadd C dX11_orderRows_86 ?_
      refine i_iload_n C dX11_orderRows_87 rfl (q := 2) rfl ?_
      refine i_ast C dX11_orderRows_88 (shT_14 hX) (fun M8 => ?_)
      refine i_iincN (L' := fun v9 => [(0, aR 0), (2, aI y2), (3, aI v6), (4, aI v9), (5, aI v4)]) C dX11_orderRows_89 (q := 3) rfl hl4 (fun _ => rfl) (fun v9 => ?_)
      refine i_goto (tgt := 29) C dX11_orderRows_92 (by decide) ?_
      exact i_sub [0, 1, 2, 3] rfl (ih v6 v9 M8)
set_option maxRecDepth 100000 in
set_option maxHeartbeats 4000000 in
theorem c_X11_orderRows (l : Launch) (G : Gx) {K : Kx} (hK : K = kP) {x1 : Int} {M : Mem} {res : Int × Mem} (hM : OkM M) (ha : okS [aR 0, aI x1]) (hF : pTop_orderRows x1 M = some res) : Ct l G K yX11_orderRows (wsM yX11_orderRows cX11_orderRows 6 (some .int)) rmX11_orderRows [aR 0, aI x1] M (some (aI res.1)) res.2 := by
  refine ct_of RX11 (by decide +kernel) rfl (hK ▸ kP_ok) hM ha (Nat.le_of_ble_eq_true rfl) hF ?_
  intro X C hl hG hX0 hN hR hq
  have hX : xK X = kP := hX0.trans hK
  show Im X 0 0 0 [(0, aR 0), (1, aI x1)] [] M res (pTop_orderRows x1 M)
  unfold pTop_orderRows
  have hl2 : 2 < xn X := by rw [hN]; decide
  have hl3 : 3 < xn X := by rw [hN]; decide
  have hl4 : 4 < xn X := by rw [hN]; decide
  have hl5 : 5 < xn X := by rw [hN]; decide
  have hRm : ∀ {rm : Room} {ny : Nat}, RmOk rmX11_orderRows rm ny → RmOk (xR X) rm ny := fun h => by rw [hR]; exact h
  refine i_aload_n C dX11_orderRows_0 rfl (q := 0) rfl ?_
  refine i_getR C (k := 0) kX11 dX11_orderRows_1 (shT_0 hX) rfl (by decide) fl_X11_12 ?_
  refine i_getR C (k := 13) kX0 dX11_orderRows_4 (shP_0 hX isC_100) rfl (by decide) fl_X11_398 ?_
  refine i_iload_n C dX11_orderRows_7 rfl (q := 1) rfl ?_
  refine i_sipush C dX11_orderRows_8 kS_20000 ?_
  refine i_aload_n C dX11_orderRows_11 rfl (q := 0) rfl ?_
  refine i_getR C (k := 0) kX11 dX11_orderRows_12 (shT_0 hX) rfl (by decide) fl_X11_12 ?_
  refine i_getR C (k := 6) kX0 dX11_orderRows_15 (shP_0 hX isC_100) rfl (by decide) fl_X11_380 ?_
  refine i_iconst C dX11_orderRows_18 kI_1 ?_
  refine i_ald C dX11_orderRows_19 (shP_5 hX isC_100) (fun v1 => ?_)
  refine i_cI (kc' := 0) (ks' := 0) 0 0 4 (fun q hq hM hS => crV C (as := [aI x1, aI 20000, aI v1]) dX11_orderRows_20.1 kX1 (shP_57 hX isC_100) ml_X11_408 cal_X1_soonest cv_X1_soonest (hRm ⟨Nat.le_of_ble_eq_true rfl, Nat.le_of_ble_eq_true rfl⟩) rfl (Nat.le_of_ble_eq_true rfl) (c_X1_soonest (xl X) (xG X) hX isC_100 hM ⟨hS.2.2.2.1, hS.2.2.1, hS.2.1, hS.1, trivial⟩ hq)) (Nat.le_of_ble_eq_true rfl) (Nat.le_of_ble_eq_true rfl) rfl rfl rfl (fun v3 M2 => ?_)
  refine i_istore_n C dX11_orderRows_23 rfl hl2 (L' := [(0, aR 0), (1, aI x1), (2, aI v3)]) rfl ?_
  refine i_iconst C dX11_orderRows_24 kI_0 ?_
  refine i_istore_n C dX11_orderRows_25 rfl hl3 (L' := [(0, aR 0), (1, aI x1), (2, aI v3), (3, aI 0)]) rfl ?_
  refine i_iconst C dX11_orderRows_26 kI_0 ?_
  refine i_istore C dX11_orderRows_27 hl4 (L' := [(0, aR 0), (1, aI x1), (2, aI v3), (3, aI 0), (4, aI 0)]) rfl ?_
  refine i_sub [0, 2, 3, 4] rfl (w_X11_orderRows_29 C hX hN hR hq v3 (fun M10 => ?_) FU 0 0 M2)
  refine i_iload_n C dX11_orderRows_95 rfl (q := 0) rfl ?_
  refine i_if_ge (tgt := 103) C dX11_orderRows_96 (by decide) ?_ ?_
  · refine i_iconst C dX11_orderRows_103 kI_2 ?_
    refine i_iload_n C dX11_orderRows_104 rfl (q := 0) rfl ?_
    refine i_imul C dX11_orderRows_105 ?_
    exact i_iret C hq dX11_orderRows_106
  · refine i_iload_n C dX11_orderRows_99 rfl (q := 0) rfl ?_
    refine i_goto (tgt := 106) C dX11_orderRows_100 (by decide) ?_
    exact i_iret C hq dX11_orderRows_106
set_option maxRecDepth 100000 in
set_option maxHeartbeats 4000000 in
theorem w_X11_dayRows_23 {X : Xc} (C : Cx X RX11 cX11_dayRows (some .int)) (hX : xK X = kP) (hN : xn X = 3) (hR : xR X = rmX11_dayRows) {res : Int × Mem} (hq : Rq X (some (aI res.1)) res.2) (y1 : Int) : ∀ (n : Nat) (u2 : Int) (M : Mem), Im X 0 0 23 [(0, aR 0), (1, aI y1), (2, aI u2)] [] M res (lpX11_dayRows_23 y1 n u2 M) := by
  have hl2 : 2 < xn X := by rw [hN]; decide
  have hRm : ∀ {rm : Room} {ny : Nat}, RmOk rmX11_dayRows rm ny → RmOk (xR X) rm ny := fun h => by rw [hR]; exact h
  intro n
  induction n with
  | zero => intro _ _; exact i_none
  | succ n ih =>
    intro u2 M
    unfold lpX11_dayRows_23
    refine i_iload_n C dX11_dayRows_23 rfl (q := 2) rfl ?_
    refine i_iload_n C dX11_dayRows_24 rfl (q := 1) rfl ?_
    refine i_icmp_ge (tgt := 76) C dX11_dayRows_25 (by decide) ?_ ?_
    · refine i_iconst C dX11_dayRows_76 kI_2 ?_
      refine i_iload_n C dX11_dayRows_77 rfl (q := 1) rfl ?_
      refine i_imul C dX11_dayRows_78 ?_
      exact i_iret C hq dX11_dayRows_79
    · refine i_aload_n C dX11_dayRows_28 rfl (q := 0) rfl ?_
      refine i_getR C (k := 2) kX11 dX11_dayRows_29 (shT_0 hX) rfl (by decide) fl_X11_19 ?_
      refine i_cV (kc' := 0) (ks' := 0) 0 0 1 (fun q hq hM hS => crV C (as := []) dX11_dayRows_32.1 kX0 (shP_0 hX isC_300) ml_X11_242 cal_X0_passHour cv_X0_passHour (hRm ⟨Nat.le_of_ble_eq_true rfl, Nat.le_of_ble_eq_true rfl⟩) rfl (Nat.le_of_ble_eq_true rfl) (c_X0_passHour (xl X) (xG X) hX isC_300 hM ⟨hS.1, trivial⟩ hq)) (Nat.le_of_ble_eq_true rfl) (Nat.le_of_ble_eq_true rfl) rfl rfl rfl (fun M2 => ?_)
      refine i_aload_n C dX11_dayRows_35 rfl (q := 0) rfl ?_
      refine i_getR C (k := 9) kX11 dX11_dayRows_36 (shT_0 hX) rfl (by decide) fl_X11_55 ?_
      refine i_iconst C dX11_dayRows_39 kI_2 ?_
      refine i_iload_n C dX11_dayRows_40 rfl (q := 2) rfl ?_
      refine i_imul C dX11_dayRows_41 ?_
      refine i_aload_n C dX11_dayRows_42 rfl (q := 0) rfl ?_
      refine i_getR C (k := 2) kX11 dX11_dayRows_43 (shT_0 hX) rfl (by decide) fl_X11_19 ?_
      refine i_getR C (k := 7) kX0 dX11_dayRows_46 (shP_0 hX isC_300) rfl (by decide) fl_X11_100 ?_
      refine i_getI C (k := 8) kX6 dX11_dayRows_49 (shP_6 hX isC_300) rfl (by decide) fl_X11_430 rfl ?_
      refine i_ast C dX11_dayRows_52 (shT_14 hX) (fun M3 => ?_)
      refine i_aload_n C dX11_dayRows_53 rfl (q := 0) rfl ?_
      refine i_getR C (k := 9) kX11 dX11_dayRows_54 (shT_0 hX) rfl (by decide) fl_X11_55 ?_
      refine i_iconst C dX11_dayRows_57 kI_2 ?_
      refine i_iload_n C dX11_dayRows_58 rfl (q := 2) rfl ?_
      refine i_imul C dX11_dayRows_59 ?_
      refine i_iconst C dX11_dayRows_60 kI_1 ?_
      refine i_iadd C dX11_dayRows_61 ?_
      refine i_aload_n C dX11_dayRows_62 rfl (q := 0) rfl ?_
      refine i_getR C (k := 2) kX11 dX11_dayRows_63 (shT_0 hX) rfl (by decide) fl_X11_19 ?_
      refine i_cI (kc' := 0) (ks' := 0) 0 0 1 (fun q hq hM hS => crV C (as := []) dX11_dayRows_66.1 kX0 (shP_0 hX isC_300) ml_X11_433 cal_X0_visitors cv_X0_visitors (hRm ⟨Nat.le_of_ble_eq_true rfl, Nat.le_of_ble_eq_true rfl⟩) rfl (Nat.le_of_ble_eq_true rfl) (c_X0_visitors (xl X) (xG X) hX isC_300 hM ⟨hS.1, trivial⟩ hq)) (Nat.le_of_ble_eq_true rfl) (Nat.le_of_ble_eq_true rfl) rfl rfl rfl (fun v5 M4 => ?_)
      refine i_ast C dX11_dayRows_69 (shT_14 hX) (fun M6 => ?_)
      refine i_iincN (L' := fun v7 => [(0, aR 0), (1, aI y1), (2, aI v7)]) C dX11_dayRows_70 (q := 2) rfl hl2 (fun _ => rfl) (fun v7 => ?_)
      refine i_goto (tgt := 23) C dX11_dayRows_73 (by decide) ?_
      exact (ih v7 M6)
set_option maxRecDepth 100000 in
set_option maxHeartbeats 4000000 in
theorem c_X11_dayRows (l : Launch) (G : Gx) {K : Kx} (hK : K = kP) {x1 : Int} {M : Mem} {res : Int × Mem} (hM : OkM M) (ha : okS [aR 0, aI x1]) (hF : pTop_dayRows x1 M = some res) : Ct l G K yX11_dayRows (wsM yX11_dayRows cX11_dayRows 3 (some .int)) rmX11_dayRows [aR 0, aI x1] M (some (aI res.1)) res.2 := by
  refine ct_of RX11 (by decide +kernel) rfl (hK ▸ kP_ok) hM ha (Nat.le_of_ble_eq_true rfl) hF ?_
  intro X C hl hG hX0 hN hR hq
  have hX : xK X = kP := hX0.trans hK
  show Im X 0 0 0 [(0, aR 0), (1, aI x1)] [] M res (pTop_dayRows x1 M)
  unfold pTop_dayRows
  have hl2 : 2 < xn X := by rw [hN]; decide
  have hRm : ∀ {rm : Room} {ny : Nat}, RmOk rmX11_dayRows rm ny → RmOk (xR X) rm ny := fun h => by rw [hR]; exact h
  refine i_aload_n C dX11_dayRows_0 rfl (q := 0) rfl ?_
  refine i_getI C (k := 3) kX11 dX11_dayRows_1 (shT_0 hX) rfl (by decide) fl_X11_22 rfl ?_
  refine i_if_ne (tgt := 10) C dX11_dayRows_4 (by decide) ?_ ?_
  · refine i_aload_n C dX11_dayRows_10 rfl (q := 0) rfl ?_
    refine i_getR C (k := 2) kX11 dX11_dayRows_11 (shT_0 hX) rfl (by decide) fl_X11_19 ?_
    refine i_aload_n C dX11_dayRows_14 rfl (q := 0) rfl ?_
    refine i_getR C (k := 1) kX11 dX11_dayRows_15 (shT_0 hX) rfl (by decide) fl_X11_16 ?_
    refine i_cV (kc' := 0) (ks' := 0) 0 0 2 (fun q hq hM hS => crV C (as := [aR 200]) dX11_dayRows_18.1 kX0 (shP_0 hX isC_300) ml_X11_426 cal_X0_become cv_X0_become (hRm ⟨Nat.le_of_ble_eq_true rfl, Nat.le_of_ble_eq_true rfl⟩) rfl (Nat.le_of_ble_eq_true rfl) (c_X0_become (xl X) (xG X) hX isC_300 isC_200 hM ⟨hS.2.1, hS.1, trivial⟩ hq)) (Nat.le_of_ble_eq_true rfl) (Nat.le_of_ble_eq_true rfl) rfl rfl rfl (fun M1 => ?_)
    refine i_iconst C dX11_dayRows_21 kI_0 ?_
    refine i_istore_n C dX11_dayRows_22 rfl hl2 (L' := [(0, aR 0), (1, aI x1), (2, aI 0)]) rfl ?_
    exact (w_X11_dayRows_23 C hX hN hR hq x1 FU 0 M1)
  · refine i_ldc C dX11_dayRows_7 kc_X11_140 kI_m1000000002 ?_
    exact i_iret C hq dX11_dayRows_9
set_option maxRecDepth 100000 in
set_option maxHeartbeats 4000000 in
theorem w_X11_firstOff_2 {X : Xc} (C : Cx X RX11 cX11_firstOff (some .int)) (hX : xK X = kP) (hN : xn X = 4) (hR : xR X = rmX11_firstOff) {res : Int × Mem} (hq : Rq X (some (aI res.1)) res.2) (y1 : Int) (y2 : Int) {k37 : Mem → Option (Int × Mem)} (hk37 : ∀ (M : Mem), Im X 0 0 37 [(1, aI y1), (2, aI y2)] [] M res (k37 M)) : ∀ (n : Nat) (u3 : Int) (M : Mem), Im X 0 0 2 [(0, aR 0), (1, aI y1), (2, aI y2), (3, aI u3)] [] M res (lpX11_firstOff_2 y1 y2 k37 n u3 M) := by
  have hl3 : 3 < xn X := by rw [hN]; decide
  intro n
  induction n with
  | zero => intro _ _; exact i_none
  | succ n ih =>
    intro u3 M
    unfold lpX11_firstOff_2
    refine i_iload_n C dX11_firstOff_2 rfl (q := 3) rfl ?_
    refine i_iload_n C dX11_firstOff_3 rfl (q := 1) rfl ?_
    refine i_icmp_ge (tgt := 37) C dX11_firstOff_4 (by decide) ?_ ?_
    · exact i_sub [1, 2] rfl (hk37  M)
    · refine i_iload_n C dX11_firstOff_7 rfl (q := 3) rfl ?_
      refine i_iload_n C dX11_firstOff_8 rfl (q := 2) rfl ?_
      refine i_icmp_ge (tgt := 37) C dX11_firstOff_9 (by decide) ?_ ?_
      · exact i_sub [1, 2] rfl (hk37  M)
      · refine i_aload_n C dX11_firstOff_12 rfl (q := 0) rfl ?_
        refine i_getR C (k := 7) kX11 dX11_firstOff_13 (shT_0 hX) rfl (by decide) fl_X11_47 ?_
        refine i_iload_n C dX11_firstOff_16 rfl (q := 3) rfl ?_
        refine i_ald C dX11_firstOff_17 (shT_13 hX) (fun v1 => ?_)
        refine i_aload_n C dX11_firstOff_18 rfl (q := 0) rfl ?_
        refine i_getR C (k := 9) kX11 dX11_firstOff_19 (shT_0 hX) rfl (by decide) fl_X11_55 ?_
        refine i_iload_n C dX11_firstOff_22 rfl (q := 3) rfl ?_
        refine i_ald C dX11_firstOff_23 (shT_14 hX) (fun v2 => ?_)
        refine i_icmp_eq (tgt := 31) C dX11_firstOff_24 (by decide) ?_ ?_
        · refine i_iincN (L' := fun v3 => [(0, aR 0), (1, aI y1), (2, aI y2), (3, aI v3)]) C dX11_firstOff_31 (q := 3) rfl hl3 (fun _ => rfl) (fun v3 => ?_)
          refine i_goto (tgt := 2) C dX11_firstOff_34 (by decide) ?_
          exact (ih v3 M)
        · refine i_iconst C dX11_firstOff_27 kI_1 ?_
          refine i_iload_n C dX11_firstOff_28 rfl (q := 3) rfl ?_
          refine i_iadd C dX11_firstOff_29 ?_
          exact i_iret C hq dX11_firstOff_30
set_option maxRecDepth 100000 in
set_option maxHeartbeats 4000000 in
theorem c_X11_firstOff (l : Launch) (G : Gx) {K : Kx} (hK : K = kP) {x1 : Int} {x2 : Int} {M : Mem} {res : Int × Mem} (hM : OkM M) (ha : okS [aR 0, aI x1, aI x2]) (hF : pTop_firstOff x1 x2 M = some res) : Ct l G K yX11_firstOff (wsM yX11_firstOff cX11_firstOff 4 (some .int)) rmX11_firstOff [aR 0, aI x1, aI x2] M (some (aI res.1)) res.2 := by
  refine ct_of RX11 (by decide +kernel) rfl (hK ▸ kP_ok) hM ha (Nat.le_of_ble_eq_true rfl) hF ?_
  intro X C hl hG hX0 hN hR hq
  have hX : xK X = kP := hX0.trans hK
  show Im X 0 0 0 [(0, aR 0), (1, aI x1), (2, aI x2)] [] M res (pTop_firstOff x1 x2 M)
  unfold pTop_firstOff
  have hl3 : 3 < xn X := by rw [hN]; decide
  have hRj : 1 ≤ (xR X).frames ∧ 60 ≤ (xR X).locals := by rw [hR]; exact ⟨Nat.le_of_ble_eq_true rfl, Nat.le_of_ble_eq_true rfl⟩
  refine i_iconst C dX11_firstOff_0 kI_0 ?_
  refine i_istore_n C dX11_firstOff_1 rfl hl3 (L' := [(0, aR 0), (1, aI x1), (2, aI x2), (3, aI 0)]) rfl ?_
  refine (w_X11_firstOff_2 C hX hN hR hq x1 x2 (fun M4 => ?_) FU 0 M)
  refine i_iload_n C dX11_firstOff_37 rfl (q := 0) rfl ?_
  refine i_iload_n C dX11_firstOff_38 rfl (q := 1) rfl ?_
  refine i_icmp_ne (tgt := 46) C dX11_firstOff_39 (by decide) ?_ ?_
  · refine i_iconst C dX11_firstOff_46 kI_1 ?_
    refine i_iload_n C dX11_firstOff_47 rfl (q := 0) rfl ?_
    refine i_iload_n C dX11_firstOff_48 rfl (q := 1) rfl ?_
    refine i_mmin C hRj ml_X11_58 dX11_firstOff_49 (Nat.le_of_ble_eq_true rfl) ?_
    refine i_iadd C dX11_firstOff_52 ?_
    exact i_iret C hq dX11_firstOff_53
  · refine i_iconst C dX11_firstOff_42 kI_0 ?_
    refine i_goto (tgt := 53) C dX11_firstOff_43 (by decide) ?_
    exact i_iret C hq dX11_firstOff_53
set_option maxRecDepth 100000 in
set_option maxHeartbeats 4000000 in
theorem c_X11_check (l : Launch) (G : Gx) {K : Kx} (hK : K = kP) {x1 : Int} {x2 : Int} {M : Mem} {res : Int × Mem} (hM : OkM M) (ha : okS [aR 0, aI x1, aI x2]) (hF : pTop_check x1 x2 M = some res) : Ct l G K yX11_check (wsM yX11_check cX11_check 5 (some .int)) rmX11_check [aR 0, aI x1, aI x2] M (some (aI res.1)) res.2 := by
  refine ct_of RX11 (by decide +kernel) rfl (hK ▸ kP_ok) hM ha (Nat.le_of_ble_eq_true rfl) hF ?_
  intro X C hl hG hX0 hN hR hq
  have hX : xK X = kP := hX0.trans hK
  show Im X 0 0 0 [(0, aR 0), (1, aI x1), (2, aI x2)] [] M res (pTop_check x1 x2 M)
  unfold pTop_check
  have hl3 : 3 < xn X := by rw [hN]; decide
  have hl4 : 4 < xn X := by rw [hN]; decide
  have hRm : ∀ {rm : Room} {ny : Nat}, RmOk rmX11_check rm ny → RmOk (xR X) rm ny := fun h => by rw [hR]; exact h
  refine i_aload_n C dX11_check_0 rfl (q := 0) rfl ?_
  refine i_getI C (k := 8) kX11 dX11_check_1 (shT_0 hX) rfl (by decide) fl_X11_51 rfl ?_
  refine i_nm (fun v1 => ?_)
  refine i_istore_n C dX11_check_4 rfl hl3 (L' := [(0, aR 0), (1, aI x1), (2, aI x2), (3, aI v1)]) rfl ?_
  refine i_aload_n C dX11_check_5 rfl (q := 0) rfl ?_
  refine i_iconst C dX11_check_6 kI_0 ?_
  refine i_putI C (k := 8) kX11 dX11_check_7 (shT_0 hX) rfl (by decide) fl_X11_51 rfl rfl rfl rfl (fun M2 => ?_)
  refine i_iload_n C dX11_check_10 rfl (q := 1) rfl ?_
  refine i_iconst C dX11_check_11 kI_0 ?_
  refine i_iconst C dX11_check_12 kI_1 ?_
  refine i_cI (kc' := 0) (ks' := 0) 0 0 3 (fun q hq hM hS => crS C (as := [aI x1, aI 0, aI 1]) dX11_check_13.1 ml_X11_86 cal_X11_within st_X11_within (hRm ⟨Nat.le_of_ble_eq_true rfl, Nat.le_of_ble_eq_true rfl⟩) rfl (Nat.le_of_ble_eq_true rfl) (c_X11_within (xl X) (xG X) hX hM ⟨hS.2.2.1, hS.2.1, hS.1, trivial⟩ hq)) (Nat.le_of_ble_eq_true rfl) (Nat.le_of_ble_eq_true rfl) rfl rfl rfl (fun v4 M3 => ?_)
  refine i_if_eq (tgt := 39) C dX11_check_16 (by decide) ?_ ?_
  · refine i_ldc C dX11_check_39 kc_X11_74 kI_m1000000001 ?_
    exact i_iret C hq dX11_check_41
  · refine i_iload_n C dX11_check_19 rfl (q := 2) rfl ?_
    refine i_iconst C dX11_check_20 kI_1 ?_
    refine i_iload_n C dX11_check_21 rfl (q := 1) rfl ?_
    refine i_jn (fun j => ∀ (p5 : Int) (M7 : Mem), Im X 0 0 33 [(0, aR 0), (1, aI x1), (2, aI x2), (3, aI v1)] [aI p5, aI 1, aI x2] M7 res (j p5 M7)) ?_ (fun j6 hj6 => ?_)
    · intro p5 M7
      refine i_cI (kc' := 0) (ks' := 0) 0 0 3 (fun q hq hM hS => crS C (as := [aI x2, aI 1, aI p5]) dX11_check_33.1 ml_X11_86 cal_X11_within st_X11_within (hRm ⟨Nat.le_of_ble_eq_true rfl, Nat.le_of_ble_eq_true rfl⟩) rfl (Nat.le_of_ble_eq_true rfl) (c_X11_within (xl X) (xG X) hX hM ⟨hS.2.2.1, hS.2.1, hS.1, trivial⟩ hq)) (Nat.le_of_ble_eq_true rfl) (Nat.le_of_ble_eq_true rfl) rfl rfl rfl (fun v9 M8 => ?_)
      refine i_if_ne (tgt := 42) C dX11_check_36 (by decide) ?_ ?_
      · refine i_iload_n C dX11_check_42 rfl (q := 1) rfl ?_
        refine i_jn (fun j => ∀ (p10 : Int) (M12 : Mem), Im X 0 0 59 [(0, aR 0), (3, aI v1)] [aI p10] M12 res (j p10 M12)) ?_ (fun j11 hj11 => ?_)
        · intro p10 M12
          refine i_istore C dX11_check_59 hl4 (L' := [(0, aR 0), (3, aI v1), (4, aI p10)]) rfl ?_
          refine i_iload C dX11_check_61 (q := 2) rfl ?_
          refine i_if_ge (tgt := 71) C dX11_check_63 (by decide) ?_ ?_
          · refine i_aload_n C dX11_check_71 rfl (q := 0) rfl ?_
            refine i_iload_n C dX11_check_72 rfl (q := 1) rfl ?_
            refine i_iload C dX11_check_73 (q := 2) rfl ?_
            refine i_cI (kc' := 0) (ks' := 0) 0 0 3 (fun q hq hM hS => crV C (as := [aI v1, aI p10]) dX11_check_75.1 kX11 (shT_0 hX) ml_X11_420 cal_X11_firstOff cv_X11_firstOff (hRm ⟨Nat.le_of_ble_eq_true rfl, Nat.le_of_ble_eq_true rfl⟩) rfl (Nat.le_of_ble_eq_true rfl) (c_X11_firstOff (xl X) (xG X) hX hM ⟨hS.2.2.1, hS.2.1, hS.1, trivial⟩ hq)) (Nat.le_of_ble_eq_true rfl) (Nat.le_of_ble_eq_true rfl) rfl rfl rfl (fun v14 M13 => ?_)
            exact i_iret C hq dX11_check_78
          · refine i_iload C dX11_check_66 (q := 2) rfl ?_
            refine i_goto (tgt := 78) C dX11_check_68 (by decide) ?_
            exact i_iret C hq dX11_check_78
        refine i_if_ne (tgt := 54) C dX11_check_43 (by decide) ?_ ?_
        · refine i_aload_n C dX11_check_54 rfl (q := 0) rfl ?_
          refine i_iload_n C dX11_check_55 rfl (q := 2) rfl ?_
          refine i_cI (kc' := 0) (ks' := 0) 0 0 2 (fun q hq hM hS => crV C (as := [aI x2]) dX11_check_56.1 kX11 (shT_0 hX) ml_X11_417 cal_X11_dayRows cv_X11_dayRows (hRm ⟨Nat.le_of_ble_eq_true rfl, Nat.le_of_ble_eq_true rfl⟩) rfl (Nat.le_of_ble_eq_true rfl) (c_X11_dayRows (xl X) (xG X) hX hM ⟨hS.2.1, hS.1, trivial⟩ hq)) (Nat.le_of_ble_eq_true rfl) (Nat.le_of_ble_eq_true rfl) rfl rfl rfl (fun v16 M15 => ?_)
          exact i_sub [0, 3] rfl (hj11 v16 M15)
        · refine i_aload_n C dX11_check_46 rfl (q := 0) rfl ?_
          refine i_iload_n C dX11_check_47 rfl (q := 2) rfl ?_
          refine i_cI (kc' := 0) (ks' := 0) 0 0 2 (fun q hq hM hS => crV C (as := [aI x2]) dX11_check_48.1 kX11 (shT_0 hX) ml_X11_414 cal_X11_orderRows cv_X11_orderRows (hRm ⟨Nat.le_of_ble_eq_true rfl, Nat.le_of_ble_eq_true rfl⟩) rfl (Nat.le_of_ble_eq_true rfl) (c_X11_orderRows (xl X) (xG X) hX hM ⟨hS.2.1, hS.1, trivial⟩ hq)) (Nat.le_of_ble_eq_true rfl) (Nat.le_of_ble_eq_true rfl) rfl rfl rfl (fun v18 M17 => ?_)
          refine i_goto (tgt := 59) C dX11_check_51 (by decide) ?_
          exact i_sub [0, 3] rfl (hj11 v18 M17)
      · refine i_ldc C dX11_check_39 kc_X11_74 kI_m1000000001 ?_
        exact i_iret C hq dX11_check_41
    refine i_if_ne (tgt := 31) C dX11_check_22 (by decide) ?_ ?_
    · refine i_bipush C dX11_check_31 kB_24 ?_
      exact (hj6 24 M3)
    · refine i_sipush C dX11_check_25 kS_999 ?_
      refine i_goto (tgt := 33) C dX11_check_28 (by decide) ?_
      exact (hj6 999 M3)
set_option maxRecDepth 100000 in
set_option maxHeartbeats 4000000 in
theorem c_X11_keep (l : Launch) (G : Gx) {K : Kx} (hK : K = kP) {M : Mem} {res : Int × Mem} (hM : OkM M) (ha : okS [aR 0]) (hF : pTop_keep M = some res) : Ct l G K yX11_keep (wsM yX11_keep cX11_keep 1 (some .int)) rmX11_keep [aR 0] M (some (aI res.1)) res.2 := by
  refine ct_of RX11 (by decide +kernel) rfl (hK ▸ kP_ok) hM ha (Nat.le_of_ble_eq_true rfl) hF ?_
  intro X C hl hG hX0 hN hR hq
  have hX : xK X = kP := hX0.trans hK
  show Im X 0 0 0 [(0, aR 0)] [] M res (pTop_keep  M)
  unfold pTop_keep
  have hRm : ∀ {rm : Room} {ny : Nat}, RmOk rmX11_keep rm ny → RmOk (xR X) rm ny := fun h => by rw [hR]; exact h
  refine i_aload_n C dX11_keep_0 rfl (q := 0) rfl ?_
  refine i_getR C (k := 1) kX11 dX11_keep_1 (shT_0 hX) rfl (by decide) fl_X11_16 ?_
  refine i_aload_n C dX11_keep_4 rfl (q := 0) rfl ?_
  refine i_getR C (k := 0) kX11 dX11_keep_5 (shT_0 hX) rfl (by decide) fl_X11_12 ?_
  refine i_cV (kc' := 0) (ks' := 0) 0 0 2 (fun q hq hM hS => crV C (as := [aR 100]) dX11_keep_8.1 kX0 (shP_0 hX isC_200) ml_X11_426 cal_X0_become cv_X0_become (hRm ⟨Nat.le_of_ble_eq_true rfl, Nat.le_of_ble_eq_true rfl⟩) rfl (Nat.le_of_ble_eq_true rfl) (c_X0_become (xl X) (xG X) hX isC_200 isC_100 hM ⟨hS.2.1, hS.1, trivial⟩ hq)) (Nat.le_of_ble_eq_true rfl) (Nat.le_of_ble_eq_true rfl) rfl rfl rfl (fun M1 => ?_)
  refine i_aload_n C dX11_keep_11 rfl (q := 0) rfl ?_
  refine i_iconst C dX11_keep_12 kI_1 ?_
  refine i_putI C (k := 3) kX11 dX11_keep_13 (shT_0 hX) rfl (by decide) fl_X11_22 rfl (by decide) (by decide) rfl (fun M2 => ?_)
  refine i_aload_n C dX11_keep_16 rfl (q := 0) rfl ?_
  refine i_getR C (k := 0) kX11 dX11_keep_17 (shT_0 hX) rfl (by decide) fl_X11_12 ?_
  refine i_getI C (k := 0) kX0 dX11_keep_20 (shP_0 hX isC_100) rfl (by decide) fl_X11_227 rfl ?_
  exact i_iret C hq dX11_keep_23
set_option maxRecDepth 100000 in
set_option maxHeartbeats 4000000 in
theorem c_X11_back (l : Launch) (G : Gx) {K : Kx} (hK : K = kP) {M : Mem} {res : Int × Mem} (hM : OkM M) (ha : okS [aR 0]) (hF : pTop_back M = some res) : Ct l G K yX11_back (wsM yX11_back cX11_back 1 (some .int)) rmX11_back [aR 0] M (some (aI res.1)) res.2 := by
  refine ct_of RX11 (by decide +kernel) rfl (hK ▸ kP_ok) hM ha (Nat.le_of_ble_eq_true rfl) hF ?_
  intro X C hl hG hX0 hN hR hq
  have hX : xK X = kP := hX0.trans hK
  show Im X 0 0 0 [(0, aR 0)] [] M res (pTop_back  M)
  unfold pTop_back
  have hRm : ∀ {rm : Room} {ny : Nat}, RmOk rmX11_back rm ny → RmOk (xR X) rm ny := fun h => by rw [hR]; exact h
  refine i_aload_n C dX11_back_0 rfl (q := 0) rfl ?_
  refine i_getI C (k := 3) kX11 dX11_back_1 (shT_0 hX) rfl (by decide) fl_X11_22 rfl ?_
  refine i_if_ne (tgt := 10) C dX11_back_4 (by decide) ?_ ?_
  · refine i_aload_n C dX11_back_10 rfl (q := 0) rfl ?_
    refine i_getR C (k := 0) kX11 dX11_back_11 (shT_0 hX) rfl (by decide) fl_X11_12 ?_
    refine i_aload_n C dX11_back_14 rfl (q := 0) rfl ?_
    refine i_getR C (k := 1) kX11 dX11_back_15 (shT_0 hX) rfl (by decide) fl_X11_16 ?_
    refine i_cV (kc' := 0) (ks' := 0) 0 0 2 (fun q hq hM hS => crV C (as := [aR 200]) dX11_back_18.1 kX0 (shP_0 hX isC_100) ml_X11_426 cal_X0_become cv_X0_become (hRm ⟨Nat.le_of_ble_eq_true rfl, Nat.le_of_ble_eq_true rfl⟩) rfl (Nat.le_of_ble_eq_true rfl) (c_X0_become (xl X) (xG X) hX isC_100 isC_200 hM ⟨hS.2.1, hS.1, trivial⟩ hq)) (Nat.le_of_ble_eq_true rfl) (Nat.le_of_ble_eq_true rfl) rfl rfl rfl (fun M1 => ?_)
    refine i_aload_n C dX11_back_21 rfl (q := 0) rfl ?_
    refine i_getR C (k := 0) kX11 dX11_back_22 (shT_0 hX) rfl (by decide) fl_X11_12 ?_
    refine i_getI C (k := 0) kX0 dX11_back_25 (shP_0 hX isC_100) rfl (by decide) fl_X11_227 rfl ?_
    exact i_iret C hq dX11_back_28
  · refine i_ldc C dX11_back_7 kc_X11_140 kI_m1000000002 ?_
    exact i_iret C hq dX11_back_9
set_option maxRecDepth 100000 in
set_option maxHeartbeats 4000000 in
theorem c_X11_count (l : Launch) (G : Gx) {K : Kx} (hK : K = kP) {x1 : Int} {M : Mem} {res : Int × Mem} (hM : OkM M) (ha : okS [aR 0, aI x1]) (hF : pTop_count x1 M = some res) : Ct l G K yX11_count (wsM yX11_count cX11_count 2 (some .int)) rmX11_count [aR 0, aI x1] M (some (aI res.1)) res.2 := by
  refine ct_of RX11 (by decide +kernel) rfl (hK ▸ kP_ok) hM ha (Nat.le_of_ble_eq_true rfl) hF ?_
  intro X C hl hG hX0 hN hR hq
  have hX : xK X = kP := hX0.trans hK
  show Im X 0 0 0 [(0, aR 0), (1, aI x1)] [] M res (pTop_count x1 M)
  unfold pTop_count
  have hRm : ∀ {rm : Room} {ny : Nat}, RmOk rmX11_count rm ny → RmOk (xR X) rm ny := fun h => by rw [hR]; exact h
  refine i_iload_n C dX11_count_0 rfl (q := 1) rfl ?_
  refine i_split (fun e1 => ?_) (fun e1 => ?_)
  · refine i_tswIn (tgt := 76) C dX11_count_1 e1 (by decide) (by decide) rfl (by decide) ?_
    refine i_aload_n C dX11_count_76 rfl (q := 0) rfl ?_
    refine i_getR C (k := 0) kX11 dX11_count_77 (shT_0 hX) rfl (by decide) fl_X11_12 ?_
    refine i_getI C (k := 1) kX0 dX11_count_80 (shP_0 hX isC_100) rfl (by decide) fl_X11_75 rfl ?_
    exact i_iret C hq dX11_count_83
  refine i_split (fun e2 => ?_) (fun e2 => ?_)
  · refine i_tswIn (tgt := 84) C dX11_count_1 e2 (by decide) (by decide) rfl (by decide) ?_
    refine i_aload_n C dX11_count_84 rfl (q := 0) rfl ?_
    refine i_getR C (k := 0) kX11 dX11_count_85 (shT_0 hX) rfl (by decide) fl_X11_12 ?_
    refine i_getR C (k := 7) kX0 dX11_count_88 (shP_0 hX isC_100) rfl (by decide) fl_X11_100 ?_
    refine i_getI C (k := 0) kX6 dX11_count_91 (shP_6 hX isC_100) rfl (by decide) fl_X11_104 rfl ?_
    exact i_iret C hq dX11_count_94
  refine i_split (fun e5 => ?_) (fun e5 => ?_)
  · refine i_tswIn (tgt := 95) C dX11_count_1 e5 (by decide) (by decide) rfl (by decide) ?_
    refine i_aload_n C dX11_count_95 rfl (q := 0) rfl ?_
    refine i_getR C (k := 0) kX11 dX11_count_96 (shT_0 hX) rfl (by decide) fl_X11_12 ?_
    refine i_getR C (k := 7) kX0 dX11_count_99 (shP_0 hX isC_100) rfl (by decide) fl_X11_100 ?_
    refine i_getI C (k := 9) kX6 dX11_count_102 (shP_6 hX isC_100) rfl (by decide) fl_X11_131 rfl ?_
    refine i_cI (kc' := 0) (ks' := 0) 0 0 1 (fun q hq hM hS => crS C (as := [aI (M (100 + 6) 9)]) dX11_count_105.1 ml_X11_436 cal_J6_bitCount_0f7a4 st_J6_bitCount_0f7a4 (hRm ⟨Nat.le_of_ble_eq_true rfl, Nat.le_of_ble_eq_true rfl⟩) rfl (Nat.le_of_ble_eq_true rfl) (c_J6_bitCount_0f7a4 (xl X) (xG X) hX hM ⟨hS.1, trivial⟩ hq)) (Nat.le_of_ble_eq_true rfl) (Nat.le_of_ble_eq_true rfl) rfl rfl rfl (fun v4 M3 => ?_)
    exact i_iret C hq dX11_count_108
  refine i_split (fun e6 => ?_) (fun e6 => ?_)
  · refine i_tswIn (tgt := 109) C dX11_count_1 e6 (by decide) (by decide) rfl (by decide) ?_
    refine i_aload_n C dX11_count_109 rfl (q := 0) rfl ?_
    refine i_getR C (k := 0) kX11 dX11_count_110 (shT_0 hX) rfl (by decide) fl_X11_12 ?_
    refine i_getR C (k := 7) kX0 dX11_count_113 (shP_0 hX isC_100) rfl (by decide) fl_X11_100 ?_
    refine i_getI C (k := 8) kX6 dX11_count_116 (shP_6 hX isC_100) rfl (by decide) fl_X11_430 rfl ?_
    exact i_iret C hq dX11_count_119
  refine i_split (fun e7 => ?_) (fun e7 => ?_)
  · refine i_tswIn (tgt := 120) C dX11_count_1 e7 (by decide) (by decide) rfl (by decide) ?_
    refine i_aload_n C dX11_count_120 rfl (q := 0) rfl ?_
    refine i_getR C (k := 0) kX11 dX11_count_121 (shT_0 hX) rfl (by decide) fl_X11_12 ?_
    refine i_getR C (k := 8) kX0 dX11_count_124 (shP_0 hX isC_100) rfl (by decide) fl_X11_151 ?_
    refine i_getI C (k := 0) kX9 dX11_count_127 (shP_15 hX isC_100) rfl (by decide) fl_X11_155 rfl ?_
    exact i_iret C hq dX11_count_130
  refine i_split (fun e10 => ?_) (fun e10 => ?_)
  · refine i_tswIn (tgt := 131) C dX11_count_1 e10 (by decide) (by decide) rfl (by decide) ?_
    refine i_aload_n C dX11_count_131 rfl (q := 0) rfl ?_
    refine i_getR C (k := 0) kX11 dX11_count_132 (shT_0 hX) rfl (by decide) fl_X11_12 ?_
    refine i_getR C (k := 8) kX0 dX11_count_135 (shP_0 hX isC_100) rfl (by decide) fl_X11_151 ?_
    refine i_cI (kc' := 0) (ks' := 0) 0 0 1 (fun q hq hM hS => crV C (as := []) dX11_count_138.1 kX9 (shP_15 hX isC_100) ml_X11_441 cal_X9_openPasses cv_X9_openPasses (hRm ⟨Nat.le_of_ble_eq_true rfl, Nat.le_of_ble_eq_true rfl⟩) rfl (Nat.le_of_ble_eq_true rfl) (c_X9_openPasses (xl X) (xG X) hX isC_100 hM ⟨hS.1, trivial⟩ hq)) (Nat.le_of_ble_eq_true rfl) (Nat.le_of_ble_eq_true rfl) rfl rfl rfl (fun v9 M8 => ?_)
    exact i_iret C hq dX11_count_141
  refine i_split (fun e11 => ?_) (fun e11 => ?_)
  · refine i_tswIn (tgt := 142) C dX11_count_1 e11 (by decide) (by decide) rfl (by decide) ?_
    refine i_aload_n C dX11_count_142 rfl (q := 0) rfl ?_
    refine i_getR C (k := 0) kX11 dX11_count_143 (shT_0 hX) rfl (by decide) fl_X11_12 ?_
    refine i_getR C (k := 10) kX0 dX11_count_146 (shP_0 hX isC_100) rfl (by decide) fl_X11_255 ?_
    refine i_getI C (k := 0) kX4 dX11_count_149 (shP_37 hX isC_100) rfl (by decide) fl_X11_259 rfl ?_
    exact i_iret C hq dX11_count_152
  refine i_split (fun e12 => ?_) (fun e12 => ?_)
  · refine i_tswIn (tgt := 153) C dX11_count_1 e12 (by decide) (by decide) rfl (by decide) ?_
    refine i_aload_n C dX11_count_153 rfl (q := 0) rfl ?_
    refine i_getR C (k := 0) kX11 dX11_count_154 (shT_0 hX) rfl (by decide) fl_X11_12 ?_
    refine i_getR C (k := 9) kX0 dX11_count_157 (shP_0 hX isC_100) rfl (by decide) fl_X11_218 ?_
    refine i_getI C (k := 0) kX7 dX11_count_160 (shP_30 hX isC_100) rfl (by decide) fl_X11_222 rfl ?_
    exact i_iret C hq dX11_count_163
  refine i_split (fun e13 => ?_) (fun e13 => ?_)
  · refine i_tswIn (tgt := 164) C dX11_count_1 e13 (by decide) (by decide) rfl (by decide) ?_
    refine i_aload_n C dX11_count_164 rfl (q := 0) rfl ?_
    refine i_getR C (k := 0) kX11 dX11_count_165 (shT_0 hX) rfl (by decide) fl_X11_12 ?_
    refine i_getR C (k := 9) kX0 dX11_count_168 (shP_0 hX isC_100) rfl (by decide) fl_X11_218 ?_
    refine i_getI C (k := 4) kX7 dX11_count_171 (shP_30 hX isC_100) rfl (by decide) fl_X11_233 rfl ?_
    exact i_iret C hq dX11_count_174
  refine i_split (fun e14 => ?_) (fun e14 => ?_)
  · refine i_tswIn (tgt := 175) C dX11_count_1 e14 (by decide) (by decide) rfl (by decide) ?_
    refine i_aload_n C dX11_count_175 rfl (q := 0) rfl ?_
    refine i_getR C (k := 0) kX11 dX11_count_176 (shT_0 hX) rfl (by decide) fl_X11_12 ?_
    refine i_getR C (k := 13) kX0 dX11_count_179 (shP_0 hX isC_100) rfl (by decide) fl_X11_398 ?_
    refine i_getI C (k := 0) kX1 dX11_count_182 (shP_57 hX isC_100) rfl (by decide) fl_X11_402 rfl ?_
    exact i_iret C hq dX11_count_185
  refine i_split (fun e15 => ?_) (fun e15 => ?_)
  · refine i_tswIn (tgt := 186) C dX11_count_1 e15 (by decide) (by decide) rfl (by decide) ?_
    refine i_aload_n C dX11_count_186 rfl (q := 0) rfl ?_
    refine i_getI C (k := 8) kX11 dX11_count_187 (shT_0 hX) rfl (by decide) fl_X11_51 rfl ?_
    exact i_iret C hq dX11_count_190
  refine i_split (fun e16 => ?_) (fun e16 => ?_)
  · refine i_tswIn (tgt := 191) C dX11_count_1 e16 (by decide) (by decide) rfl (by decide) ?_
    refine i_aload_n C dX11_count_191 rfl (q := 0) rfl ?_
    refine i_getR C (k := 4) kX11 dX11_count_192 (shT_0 hX) rfl (by decide) fl_X11_29 ?_
    refine i_getI C (k := 0) kX8 dX11_count_195 (shT_1 hX) rfl (by decide) fl_X11_245 rfl ?_
    exact i_iret C hq dX11_count_198
  refine i_split (fun e17 => ?_) (fun e17 => ?_)
  · refine i_tswIn (tgt := 199) C dX11_count_1 e17 (by decide) (by decide) rfl (by decide) ?_
    refine i_aload_n C dX11_count_199 rfl (q := 0) rfl ?_
    refine i_getR C (k := 0) kX11 dX11_count_200 (shT_0 hX) rfl (by decide) fl_X11_12 ?_
    refine i_getI C (k := 0) kX0 dX11_count_203 (shP_0 hX isC_100) rfl (by decide) fl_X11_227 rfl ?_
    exact i_iret C hq dX11_count_206
  refine i_split (fun e19 => ?_) (fun e19 => ?_)
  · refine i_tswIn (tgt := 207) C dX11_count_1 e19 (by decide) (by decide) rfl (by decide) ?_
    refine i_aload_n C dX11_count_207 rfl (q := 0) rfl ?_
    refine i_getR C (k := 0) kX11 dX11_count_208 (shT_0 hX) rfl (by decide) fl_X11_12 ?_
    refine i_getR C (k := 11) kX0 dX11_count_211 (shP_0 hX isC_100) rfl (by decide) fl_X11_323 ?_
    refine i_getR C (k := 0) kX3 dX11_count_214 (shP_47 hX isC_100) rfl (by decide) fl_X11_327 ?_
    refine i_iconst C dX11_count_217 kI_0 ?_
    refine i_ald C dX11_count_218 (shP_48 hX isC_100) (fun v18 => ?_)
    exact i_iret C hq dX11_count_219
  refine i_split (fun e21 => ?_) (fun e21 => ?_)
  · refine i_tswIn (tgt := 220) C dX11_count_1 e21 (by decide) (by decide) rfl (by decide) ?_
    refine i_aload_n C dX11_count_220 rfl (q := 0) rfl ?_
    refine i_getR C (k := 0) kX11 dX11_count_221 (shT_0 hX) rfl (by decide) fl_X11_12 ?_
    refine i_getR C (k := 11) kX0 dX11_count_224 (shP_0 hX isC_100) rfl (by decide) fl_X11_323 ?_
    refine i_getR C (k := 0) kX3 dX11_count_227 (shP_47 hX isC_100) rfl (by decide) fl_X11_327 ?_
    refine i_iconst C dX11_count_230 kI_1 ?_
    refine i_ald C dX11_count_231 (shP_48 hX isC_100) (fun v20 => ?_)
    exact i_iret C hq dX11_count_232
  refine i_tswOut (tgt := 233) C dX11_count_1 (by omega) (by decide) ?_
  refine i_ldc C dX11_count_233 kc_X11_74 kI_m1000000001 ?_
  exact i_iret C hq dX11_count_235
