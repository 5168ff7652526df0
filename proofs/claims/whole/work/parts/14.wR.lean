set_option maxRecDepth 100000 in
set_option maxHeartbeats 4000000 in
theorem c_X12_isIn (l : Launch) (G : Gx) {K : Kx} (hK : K = kR) {x0 : Int} {x2 : Int} {x4 : Int} {M : Mem} {res : Int × Mem} (hM : OkM M) (ha : okS [aL x0, aL x2, aL x4]) (hF : rM_isIn x0 x2 x4 M = some res) : Ct l G K yX12_isIn (wsM yX12_isIn cX12_isIn 6 (some .boolean)) rmX12_isIn [aL x0, aL x2, aL x4] M (some (aI res.1)) res.2 := by
  refine ct_of RX12 (by decide +kernel) rfl (hK ▸ kR_ok) hM ha (Nat.le_of_ble_eq_true rfl) hF ?_
  intro X C hl hG hX hN hR hq
  have hX : xK X = kR := hX.trans hK
  show Im X 0 0 0 [(0, aL x0), (2, aL x2), (4, aL x4)] [] M res (rM_isIn x0 x2 x4 M)
  unfold rM_isIn
  refine i_lload_n C dX12_isIn_0 rfl (q := 0) rfl ?_
  refine i_lload_n C dX12_isIn_1 rfl (q := 1) rfl ?_
  refine i_lcmp C dX12_isIn_2 ?_
  refine i_if_lt (tgt := 17) C dX12_isIn_3 (by decide) ?_ ?_
  · refine i_iconst C dX12_isIn_17 kI_0 ?_
    exact i_zret C hq dX12_isIn_18 (Or.inl rfl)
  · refine i_lload_n C dX12_isIn_6 rfl (q := 0) rfl ?_
    refine i_lload C dX12_isIn_7 (q := 2) rfl ?_
    refine i_lcmp C dX12_isIn_9 ?_
    refine i_if_gt (tgt := 17) C dX12_isIn_10 (by decide) ?_ ?_
    · refine i_iconst C dX12_isIn_17 kI_0 ?_
      exact i_zret C hq dX12_isIn_18 (Or.inl rfl)
    · refine i_iconst C dX12_isIn_13 kI_1 ?_
      refine i_goto (tgt := 18) C dX12_isIn_14 (by decide) ?_
      exact i_zret C hq dX12_isIn_18 (Or.inr rfl)
set_option maxRecDepth 100000 in
set_option maxHeartbeats 4000000 in
theorem c_X12_orNone (l : Launch) (G : Gx) {K : Kx} (hK : K = kR) {x0 : Int} {M : Mem} {res : Int × Mem} (hM : OkM M) (ha : okS [aI x0]) (hF : rM_orNone x0 M = some res) : Ct l G K yX12_orNone (wsM yX12_orNone cX12_orNone 1 (some .int)) rmX12_orNone [aI x0] M (some (aI res.1)) res.2 := by
  refine ct_of RX12 (by decide +kernel) rfl (hK ▸ kR_ok) hM ha (Nat.le_of_ble_eq_true rfl) hF ?_
  intro X C hl hG hX hN hR hq
  have hX : xK X = kR := hX.trans hK
  show Im X 0 0 0 [(0, aI x0)] [] M res (rM_orNone x0 M)
  unfold rM_orNone
  refine i_iload_n C dX12_orNone_0 rfl (q := 0) rfl ?_
  refine i_if_ge (tgt := 9) C dX12_orNone_1 (by decide) ?_ ?_
  · refine i_iload_n C dX12_orNone_9 rfl (q := 0) rfl ?_
    exact i_iret C hq dX12_orNone_10
  · refine i_ldc C dX12_orNone_4 kc_X12_77 kI_m1000000005 ?_
    refine i_goto (tgt := 10) C dX12_orNone_6 (by decide) ?_
    exact i_iret C hq dX12_orNone_10
set_option maxRecDepth 100000 in
set_option maxHeartbeats 4000000 in
theorem c_X12_least (l : Launch) (G : Gx) {K : Kx} (hK : K = kR) {x0 : Int} {x1 : Int} {M : Mem} {res : Int × Mem} (hM : OkM M) (ha : okS [aI x0, aI x1]) (hF : rM_least x0 x1 M = some res) : Ct l G K yX12_least (wsM yX12_least cX12_least 2 (some .int)) rmX12_least [aI x0, aI x1] M (some (aI res.1)) res.2 := by
  refine ct_of RX12 (by decide +kernel) rfl (hK ▸ kR_ok) hM ha (Nat.le_of_ble_eq_true rfl) hF ?_
  intro X C hl hG hX hN hR hq
  have hX : xK X = kR := hX.trans hK
  show Im X 0 0 0 [(0, aI x0), (1, aI x1)] [] M res (rM_least x0 x1 M)
  unfold rM_least
  refine i_iload_n C dX12_least_0 rfl (q := 0) rfl ?_
  refine i_iload_n C dX12_least_1 rfl (q := 1) rfl ?_
  refine i_icmp_ge (tgt := 9) C dX12_least_2 (by decide) ?_ ?_
  · refine i_iload_n C dX12_least_9 rfl (q := 1) rfl ?_
    exact i_iret C hq dX12_least_10
  · refine i_iload_n C dX12_least_5 rfl (q := 0) rfl ?_
    refine i_goto (tgt := 10) C dX12_least_6 (by decide) ?_
    exact i_iret C hq dX12_least_10
set_option maxRecDepth 100000 in
set_option maxHeartbeats 4000000 in
theorem c_X12_size (l : Launch) (G : Gx) {K : Kx} (hK : K = kR) {x0 : Int} {M : Mem} {res : Int × Mem} (hM : OkM M) (ha : okS [aI x0]) (hF : rM_size x0 M = some res) : Ct l G K yX12_size (wsM yX12_size cX12_size 1 (some .int)) rmX12_size [aI x0] M (some (aI res.1)) res.2 := by
  refine ct_of RX12 (by decide +kernel) rfl (hK ▸ kR_ok) hM ha (Nat.le_of_ble_eq_true rfl) hF ?_
  intro X C hl hG hX hN hR hq
  have hX : xK X = kR := hX.trans hK
  show Im X 0 0 0 [(0, aI x0)] [] M res (rM_size x0 M)
  unfold rM_size
  refine i_iload_n C dX12_size_0 rfl (q := 0) rfl ?_
  refine i_if_ge (tgt := 9) C dX12_size_1 (by decide) ?_ ?_
  · refine i_iload_n C dX12_size_9 rfl (q := 0) rfl ?_
    exact i_iret C hq dX12_size_10
  · refine i_iload_n C dX12_size_4 rfl (q := 0) rfl ?_
    refine i_ineg C dX12_size_5 ?_
    refine i_goto (tgt := 10) C dX12_size_6 (by decide) ?_
    exact i_iret C hq dX12_size_10
set_option maxRecDepth 100000 in
set_option maxHeartbeats 4000000 in
theorem c_X12_becomes (l : Launch) (G : Gx) {K : Kx} (hK : K = kR) {x1 : Int} {x2 : Int} {M : Mem} {res : Int × Mem} (hM : OkM M) (ha : okS [aR 0, aI x1, aI x2]) (hF : rM_becomes x1 x2 M = some res) : Ct l G K yX12_becomes (wsM yX12_becomes cX12_becomes 4 (some .int)) rmX12_becomes [aR 0, aI x1, aI x2] M (some (aI res.1)) res.2 := by
  refine ct_of RX12 (by decide +kernel) rfl (hK ▸ kR_ok) hM ha (Nat.le_of_ble_eq_true rfl) hF ?_
  intro X C hl hG hX hN hR hq
  have hX : xK X = kR := hX.trans hK
  show Im X 0 0 0 [(0, aR 0), (1, aI x1), (2, aI x2)] [] M res (rM_becomes x1 x2 M)
  unfold rM_becomes
  have hl3 : 3 < xn X := by rw [hN]; decide
  refine i_aload_n C dX12_becomes_0 rfl (q := 0) rfl ?_
  refine i_getR C (k := 0) kX12 dX12_becomes_1 (shR_0 hX) rfl (by decide) fl_X12_7 ?_
  refine i_iload_n C dX12_becomes_4 rfl (q := 1) rfl ?_
  refine i_ald C dX12_becomes_5 (shR_1 hX) (fun v1 => ?_)
  refine i_istore_n C dX12_becomes_6 rfl hl3 (L' := [(0, aR 0), (1, aI x1), (2, aI x2), (3, aI v1)]) rfl ?_
  refine i_aload_n C dX12_becomes_7 rfl (q := 0) rfl ?_
  refine i_getR C (k := 0) kX12 dX12_becomes_8 (shR_0 hX) rfl (by decide) fl_X12_7 ?_
  refine i_iload_n C dX12_becomes_11 rfl (q := 1) rfl ?_
  refine i_iload_n C dX12_becomes_12 rfl (q := 2) rfl ?_
  refine i_ast C dX12_becomes_13 (shR_1 hX) (fun M2 => ?_)
  refine i_iload_n C dX12_becomes_14 rfl (q := 3) rfl ?_
  exact i_iret C hq dX12_becomes_15
set_option maxRecDepth 100000 in
set_option maxHeartbeats 4000000 in
theorem c_X12_cellAt (l : Launch) (G : Gx) {K : Kx} (hK : K = kR) {x1 : Int} {M : Mem} {res : Int × Mem} (hM : OkM M) (ha : okS [aR 0, aI x1]) (hF : rM_cellAt x1 M = some res) : Ct l G K yX12_cellAt (wsM yX12_cellAt cX12_cellAt 2 (some .int)) rmX12_cellAt [aR 0, aI x1] M (some (aI res.1)) res.2 := by
  refine ct_of RX12 (by decide +kernel) rfl (hK ▸ kR_ok) hM ha (Nat.le_of_ble_eq_true rfl) hF ?_
  intro X C hl hG hX hN hR hq
  have hX : xK X = kR := hX.trans hK
  show Im X 0 0 0 [(0, aR 0), (1, aI x1)] [] M res (rM_cellAt x1 M)
  unfold rM_cellAt
  refine i_bipush C dX12_cellAt_0 kB_20 ?_
  refine i_iconst C dX12_cellAt_2 kI_3 ?_
  refine i_iload_n C dX12_cellAt_3 rfl (q := 1) rfl ?_
  refine i_imul C dX12_cellAt_4 ?_
  refine i_iadd C dX12_cellAt_5 ?_
  exact i_iret C hq dX12_cellAt_6
set_option maxRecDepth 100000 in
set_option maxHeartbeats 4000000 in
theorem c_X12_personAt (l : Launch) (G : Gx) {K : Kx} (hK : K = kR) {x1 : Int} {M : Mem} {res : Int × Mem} (hM : OkM M) (ha : okS [aR 0, aI x1]) (hF : rM_personAt x1 M = some res) : Ct l G K yX12_personAt (wsM yX12_personAt cX12_personAt 2 (some .int)) rmX12_personAt [aR 0, aI x1] M (some (aI res.1)) res.2 := by
  refine ct_of RX12 (by decide +kernel) rfl (hK ▸ kR_ok) hM ha (Nat.le_of_ble_eq_true rfl) hF ?_
  intro X C hl hG hX hN hR hq
  have hX : xK X = kR := hX.trans hK
  show Im X 0 0 0 [(0, aR 0), (1, aI x1)] [] M res (rM_personAt x1 M)
  unfold rM_personAt
  refine i_bipush C dX12_personAt_0 kB_70 ?_
  refine i_bipush C dX12_personAt_2 kB_8 ?_
  refine i_iload_n C dX12_personAt_4 rfl (q := 1) rfl ?_
  refine i_imul C dX12_personAt_5 ?_
  refine i_iadd C dX12_personAt_6 ?_
  exact i_iret C hq dX12_personAt_7
set_option maxRecDepth 100000 in
set_option maxHeartbeats 4000000 in
theorem c_X12_tieAt (l : Launch) (G : Gx) {K : Kx} (hK : K = kR) {x1 : Int} {M : Mem} {res : Int × Mem} (hM : OkM M) (ha : okS [aR 0, aI x1]) (hF : rM_tieAt x1 M = some res) : Ct l G K yX12_tieAt (wsM yX12_tieAt cX12_tieAt 2 (some .int)) rmX12_tieAt [aR 0, aI x1] M (some (aI res.1)) res.2 := by
  refine ct_of RX12 (by decide +kernel) rfl (hK ▸ kR_ok) hM ha (Nat.le_of_ble_eq_true rfl) hF ?_
  intro X C hl hG hX hN hR hq
  have hX : xK X = kR := hX.trans hK
  show Im X 0 0 0 [(0, aR 0), (1, aI x1)] [] M res (rM_tieAt x1 M)
  unfold rM_tieAt
  refine i_sipush C dX12_tieAt_0 kS_230 ?_
  refine i_bipush C dX12_tieAt_3 kB_10 ?_
  refine i_iload_n C dX12_tieAt_5 rfl (q := 1) rfl ?_
  refine i_imul C dX12_tieAt_6 ?_
  refine i_iadd C dX12_tieAt_7 ?_
  exact i_iret C hq dX12_tieAt_8
set_option maxRecDepth 100000 in
set_option maxHeartbeats 4000000 in
theorem c_X12_textAt (l : Launch) (G : Gx) {K : Kx} (hK : K = kR) {x1 : Int} {M : Mem} {res : Int × Mem} (hM : OkM M) (ha : okS [aR 0, aI x1]) (hF : rM_textAt x1 M = some res) : Ct l G K yX12_textAt (wsM yX12_textAt cX12_textAt 2 (some .int)) rmX12_textAt [aR 0, aI x1] M (some (aI res.1)) res.2 := by
  refine ct_of RX12 (by decide +kernel) rfl (hK ▸ kR_ok) hM ha (Nat.le_of_ble_eq_true rfl) hF ?_
  intro X C hl hG hX hN hR hq
  have hX : xK X = kR := hX.trans hK
  show Im X 0 0 0 [(0, aR 0), (1, aI x1)] [] M res (rM_textAt x1 M)
  unfold rM_textAt
  refine i_sipush C dX12_textAt_0 kS_1310 ?_
  refine i_sipush C dX12_textAt_3 kS_200 ?_
  refine i_iload_n C dX12_textAt_6 rfl (q := 1) rfl ?_
  refine i_imul C dX12_textAt_7 ?_
  refine i_iadd C dX12_textAt_8 ?_
  exact i_iret C hq dX12_textAt_9
set_option maxRecDepth 100000 in
set_option maxHeartbeats 4000000 in
theorem c_X12_isCell (l : Launch) (G : Gx) {K : Kx} (hK : K = kR) {x1 : Int} {M : Mem} {res : Int × Mem} (hM : OkM M) (ha : okS [aR 0, aI x1]) (hF : rM_isCell x1 M = some res) : Ct l G K yX12_isCell (wsM yX12_isCell cX12_isCell 2 (some .boolean)) rmX12_isCell [aR 0, aI x1] M (some (aI res.1)) res.2 := by
  refine ct_of RX12 (by decide +kernel) rfl (hK ▸ kR_ok) hM ha (Nat.le_of_ble_eq_true rfl) hF ?_
  intro X C hl hG hX hN hR hq
  have hX : xK X = kR := hX.trans hK
  show Im X 0 0 0 [(0, aR 0), (1, aI x1)] [] M res (rM_isCell x1 M)
  unfold rM_isCell
  have hRm : ∀ {rm : Room} {ny : Nat}, RmOk rmX12_isCell rm ny → RmOk (xR X) rm ny := fun h => by rw [hR]; exact h
  refine i_iload_n C dX12_isCell_0 rfl (q := 1) rfl ?_
  refine i_i2l C dX12_isCell_1 ?_
  refine i_lconst C dX12_isCell_2 kL_0 ?_
  refine i_aload_n C dX12_isCell_3 rfl (q := 0) rfl ?_
  refine i_getR C (k := 0) kX12 dX12_isCell_4 (shR_0 hX) rfl (by decide) fl_X12_7 ?_
  refine i_iconst C dX12_isCell_7 kI_1 ?_
  refine i_ald C dX12_isCell_8 (shR_1 hX) (fun v1 => ?_)
  refine i_iconst C dX12_isCell_9 kI_1 ?_
  refine i_isub C dX12_isCell_10 ?_
  refine i_i2l C dX12_isCell_11 ?_
  refine i_cI (kc' := 0) (ks' := 0) 0 0 3 (fun q hq hM hS => crS C (as := [aL x1, aL 0, aL (w32 (v1 - 1))]) dX12_isCell_12.1 ml_X12_78 cal_X12_isIn st_X12_isIn (hRm ⟨Nat.le_of_ble_eq_true rfl, Nat.le_of_ble_eq_true rfl⟩) rfl (Nat.le_of_ble_eq_true rfl) (c_X12_isIn (xl X) (xG X) hX hM ⟨hS.2.2.1, hS.2.1, hS.1, trivial⟩ hq)) (Nat.le_of_ble_eq_true rfl) (Nat.le_of_ble_eq_true rfl) rfl rfl rfl rfl (fun v3 M2 => ?_)
  exact i_zretQ C hq dX12_isCell_15
set_option maxRecDepth 100000 in
set_option maxHeartbeats 4000000 in
theorem c_X12_isPerson (l : Launch) (G : Gx) {K : Kx} (hK : K = kR) {x1 : Int} {M : Mem} {res : Int × Mem} (hM : OkM M) (ha : okS [aR 0, aI x1]) (hF : rM_isPerson x1 M = some res) : Ct l G K yX12_isPerson (wsM yX12_isPerson cX12_isPerson 2 (some .boolean)) rmX12_isPerson [aR 0, aI x1] M (some (aI res.1)) res.2 := by
  refine ct_of RX12 (by decide +kernel) rfl (hK ▸ kR_ok) hM ha (Nat.le_of_ble_eq_true rfl) hF ?_
  intro X C hl hG hX hN hR hq
  have hX : xK X = kR := hX.trans hK
  show Im X 0 0 0 [(0, aR 0), (1, aI x1)] [] M res (rM_isPerson x1 M)
  unfold rM_isPerson
  have hRm : ∀ {rm : Room} {ny : Nat}, RmOk rmX12_isPerson rm ny → RmOk (xR X) rm ny := fun h => by rw [hR]; exact h
  refine i_iload_n C dX12_isPerson_0 rfl (q := 1) rfl ?_
  refine i_i2l C dX12_isPerson_1 ?_
  refine i_lconst C dX12_isPerson_2 kL_0 ?_
  refine i_aload_n C dX12_isPerson_3 rfl (q := 0) rfl ?_
  refine i_getR C (k := 0) kX12 dX12_isPerson_4 (shR_0 hX) rfl (by decide) fl_X12_7 ?_
  refine i_iconst C dX12_isPerson_7 kI_2 ?_
  refine i_ald C dX12_isPerson_8 (shR_1 hX) (fun v1 => ?_)
  refine i_iconst C dX12_isPerson_9 kI_1 ?_
  refine i_isub C dX12_isPerson_10 ?_
  refine i_i2l C dX12_isPerson_11 ?_
  refine i_cI (kc' := 0) (ks' := 0) 0 0 3 (fun q hq hM hS => crS C (as := [aL x1, aL 0, aL (w32 (v1 - 1))]) dX12_isPerson_12.1 ml_X12_78 cal_X12_isIn st_X12_isIn (hRm ⟨Nat.le_of_ble_eq_true rfl, Nat.le_of_ble_eq_true rfl⟩) rfl (Nat.le_of_ble_eq_true rfl) (c_X12_isIn (xl X) (xG X) hX hM ⟨hS.2.2.1, hS.2.1, hS.1, trivial⟩ hq)) (Nat.le_of_ble_eq_true rfl) (Nat.le_of_ble_eq_true rfl) rfl rfl rfl rfl (fun v3 M2 => ?_)
  exact i_zretQ C hq dX12_isPerson_15
set_option maxRecDepth 100000 in
set_option maxHeartbeats 4000000 in
theorem c_X12_isTie (l : Launch) (G : Gx) {K : Kx} (hK : K = kR) {x1 : Int} {M : Mem} {res : Int × Mem} (hM : OkM M) (ha : okS [aR 0, aI x1]) (hF : rM_isTie x1 M = some res) : Ct l G K yX12_isTie (wsM yX12_isTie cX12_isTie 2 (some .boolean)) rmX12_isTie [aR 0, aI x1] M (some (aI res.1)) res.2 := by
  refine ct_of RX12 (by decide +kernel) rfl (hK ▸ kR_ok) hM ha (Nat.le_of_ble_eq_true rfl) hF ?_
  intro X C hl hG hX hN hR hq
  have hX : xK X = kR := hX.trans hK
  show Im X 0 0 0 [(0, aR 0), (1, aI x1)] [] M res (rM_isTie x1 M)
  unfold rM_isTie
  have hRm : ∀ {rm : Room} {ny : Nat}, RmOk rmX12_isTie rm ny → RmOk (xR X) rm ny := fun h => by rw [hR]; exact h
  refine i_iload_n C dX12_isTie_0 rfl (q := 1) rfl ?_
  refine i_i2l C dX12_isTie_1 ?_
  refine i_lconst C dX12_isTie_2 kL_0 ?_
  refine i_aload_n C dX12_isTie_3 rfl (q := 0) rfl ?_
  refine i_getR C (k := 0) kX12 dX12_isTie_4 (shR_0 hX) rfl (by decide) fl_X12_7 ?_
  refine i_iconst C dX12_isTie_7 kI_3 ?_
  refine i_ald C dX12_isTie_8 (shR_1 hX) (fun v1 => ?_)
  refine i_iconst C dX12_isTie_9 kI_1 ?_
  refine i_isub C dX12_isTie_10 ?_
  refine i_i2l C dX12_isTie_11 ?_
  refine i_cI (kc' := 0) (ks' := 0) 0 0 3 (fun q hq hM hS => crS C (as := [aL x1, aL 0, aL (w32 (v1 - 1))]) dX12_isTie_12.1 ml_X12_78 cal_X12_isIn st_X12_isIn (hRm ⟨Nat.le_of_ble_eq_true rfl, Nat.le_of_ble_eq_true rfl⟩) rfl (Nat.le_of_ble_eq_true rfl) (c_X12_isIn (xl X) (xG X) hX hM ⟨hS.2.2.1, hS.2.1, hS.1, trivial⟩ hq)) (Nat.le_of_ble_eq_true rfl) (Nat.le_of_ble_eq_true rfl) rfl rfl rfl rfl (fun v3 M2 => ?_)
  exact i_zretQ C hq dX12_isTie_15
set_option maxRecDepth 100000 in
set_option maxHeartbeats 4000000 in
theorem c_X12_isText (l : Launch) (G : Gx) {K : Kx} (hK : K = kR) {x1 : Int} {M : Mem} {res : Int × Mem} (hM : OkM M) (ha : okS [aR 0, aI x1]) (hF : rM_isText x1 M = some res) : Ct l G K yX12_isText (wsM yX12_isText cX12_isText 2 (some .boolean)) rmX12_isText [aR 0, aI x1] M (some (aI res.1)) res.2 := by
  refine ct_of RX12 (by decide +kernel) rfl (hK ▸ kR_ok) hM ha (Nat.le_of_ble_eq_true rfl) hF ?_
  intro X C hl hG hX hN hR hq
  have hX : xK X = kR := hX.trans hK
  show Im X 0 0 0 [(0, aR 0), (1, aI x1)] [] M res (rM_isText x1 M)
  unfold rM_isText
  have hRm : ∀ {rm : Room} {ny : Nat}, RmOk rmX12_isText rm ny → RmOk (xR X) rm ny := fun h => by rw [hR]; exact h
  refine i_iload_n C dX12_isText_0 rfl (q := 1) rfl ?_
  refine i_i2l C dX12_isText_1 ?_
  refine i_lconst C dX12_isText_2 kL_0 ?_
  refine i_aload_n C dX12_isText_3 rfl (q := 0) rfl ?_
  refine i_getR C (k := 0) kX12 dX12_isText_4 (shR_0 hX) rfl (by decide) fl_X12_7 ?_
  refine i_iconst C dX12_isText_7 kI_4 ?_
  refine i_ald C dX12_isText_8 (shR_1 hX) (fun v1 => ?_)
  refine i_iconst C dX12_isText_9 kI_1 ?_
  refine i_isub C dX12_isText_10 ?_
  refine i_i2l C dX12_isText_11 ?_
  refine i_cI (kc' := 0) (ks' := 0) 0 0 3 (fun q hq hM hS => crS C (as := [aL x1, aL 0, aL (w32 (v1 - 1))]) dX12_isText_12.1 ml_X12_78 cal_X12_isIn st_X12_isIn (hRm ⟨Nat.le_of_ble_eq_true rfl, Nat.le_of_ble_eq_true rfl⟩) rfl (Nat.le_of_ble_eq_true rfl) (c_X12_isIn (xl X) (xG X) hX hM ⟨hS.2.2.1, hS.2.1, hS.1, trivial⟩ hq)) (Nat.le_of_ble_eq_true rfl) (Nat.le_of_ble_eq_true rfl) rfl rfl rfl rfl (fun v3 M2 => ?_)
  exact i_zretQ C hq dX12_isText_15
set_option maxRecDepth 100000 in
set_option maxHeartbeats 4000000 in
theorem c_X12_isSide (l : Launch) (G : Gx) {K : Kx} (hK : K = kR) {x0 : Int} {M : Mem} {res : Int × Mem} (hM : OkM M) (ha : okS [aI x0]) (hF : rM_isSide x0 M = some res) : Ct l G K yX12_isSide (wsM yX12_isSide cX12_isSide 1 (some .boolean)) rmX12_isSide [aI x0] M (some (aI res.1)) res.2 := by
  refine ct_of RX12 (by decide +kernel) rfl (hK ▸ kR_ok) hM ha (Nat.le_of_ble_eq_true rfl) hF ?_
  intro X C hl hG hX hN hR hq
  have hX : xK X = kR := hX.trans hK
  show Im X 0 0 0 [(0, aI x0)] [] M res (rM_isSide x0 M)
  unfold rM_isSide
  have hRm : ∀ {rm : Room} {ny : Nat}, RmOk rmX12_isSide rm ny → RmOk (xR X) rm ny := fun h => by rw [hR]; exact h
  refine i_iload_n C dX12_isSide_0 rfl (q := 0) rfl ?_
  refine i_i2l C dX12_isSide_1 ?_
  refine i_lconst C dX12_isSide_2 kL_0 ?_
  refine i_lconst C dX12_isSide_3 kL_1 ?_
  refine i_cI (kc' := 0) (ks' := 0) 0 0 3 (fun q hq hM hS => crS C (as := [aL x0, aL 0, aL 1]) dX12_isSide_4.1 ml_X12_78 cal_X12_isIn st_X12_isIn (hRm ⟨Nat.le_of_ble_eq_true rfl, Nat.le_of_ble_eq_true rfl⟩) rfl (Nat.le_of_ble_eq_true rfl) (c_X12_isIn (xl X) (xG X) hX hM ⟨hS.2.2.1, hS.2.1, hS.1, trivial⟩ hq)) (Nat.le_of_ble_eq_true rfl) (Nat.le_of_ble_eq_true rfl) rfl rfl rfl rfl (fun v2 M1 => ?_)
  exact i_zretQ C hq dX12_isSide_7
set_option maxRecDepth 100000 in
set_option maxHeartbeats 4000000 in
theorem c_X12_isOf (l : Launch) (G : Gx) {K : Kx} (hK : K = kR) {x1 : Int} {x2 : Int} {M : Mem} {res : Int × Mem} (hM : OkM M) (ha : okS [aR 0, aI x1, aI x2]) (hF : rM_isOf x1 x2 M = some res) : Ct l G K yX12_isOf (wsM yX12_isOf cX12_isOf 3 (some .boolean)) rmX12_isOf [aR 0, aI x1, aI x2] M (some (aI res.1)) res.2 := by
  refine ct_of RX12 (by decide +kernel) rfl (hK ▸ kR_ok) hM ha (Nat.le_of_ble_eq_true rfl) hF ?_
  intro X C hl hG hX hN hR hq
  have hX : xK X = kR := hX.trans hK
  show Im X 0 0 0 [(0, aR 0), (1, aI x1), (2, aI x2)] [] M res (rM_isOf x1 x2 M)
  unfold rM_isOf
  have hRm : ∀ {rm : Room} {ny : Nat}, RmOk rmX12_isOf rm ny → RmOk (xR X) rm ny := fun h => by rw [hR]; exact h
  refine i_aload_n C dX12_isOf_0 rfl (q := 0) rfl ?_
  refine i_iload_n C dX12_isOf_1 rfl (q := 1) rfl ?_
  refine i_cI (kc' := 0) (ks' := 0) 0 0 2 (fun q hq hM hS => crV C (as := [aI x1]) dX12_isOf_2.1 kX12 (shR_0 hX) ml_X12_82 cal_X12_isTie cv_X12_isTie (hRm ⟨Nat.le_of_ble_eq_true rfl, Nat.le_of_ble_eq_true rfl⟩) rfl (Nat.le_of_ble_eq_true rfl) (c_X12_isTie (xl X) (xG X) hX hM ⟨hS.2.1, hS.1, trivial⟩ hq)) (Nat.le_of_ble_eq_true rfl) (Nat.le_of_ble_eq_true rfl) rfl rfl rfl rfl (fun v2 M1 => ?_)
  refine i_if_eq (tgt := 26) C dX12_isOf_5 (by decide) ?_ ?_
  · refine i_iconst C dX12_isOf_26 kI_0 ?_
    exact i_zret C hq dX12_isOf_27 (Or.inl rfl)
  · refine i_aload_n C dX12_isOf_8 rfl (q := 0) rfl ?_
    refine i_getR C (k := 0) kX12 dX12_isOf_9 (shR_0 hX) rfl (by decide) fl_X12_7 ?_
    refine i_aload_n C dX12_isOf_12 rfl (q := 0) rfl ?_
    refine i_iload_n C dX12_isOf_13 rfl (q := 1) rfl ?_
    refine i_cI (kc' := 0) (ks' := 0) 0 0 2 (fun q hq hM hS => crV C (as := [aI x1]) dX12_isOf_14.1 kX12 (shR_0 hX) ml_X12_86 cal_X12_tieAt cv_X12_tieAt (hRm ⟨Nat.le_of_ble_eq_true rfl, Nat.le_of_ble_eq_true rfl⟩) rfl (Nat.le_of_ble_eq_true rfl) (c_X12_tieAt (xl X) (xG X) hX hM ⟨hS.2.1, hS.1, trivial⟩ hq)) (Nat.le_of_ble_eq_true rfl) (Nat.le_of_ble_eq_true rfl) rfl rfl rfl rfl (fun v4 M3 => ?_)
    refine i_ald C dX12_isOf_17 (shR_1 hX) (fun v5 => ?_)
    refine i_iload_n C dX12_isOf_18 rfl (q := 2) rfl ?_
    refine i_icmp_ne (tgt := 26) C dX12_isOf_19 (by decide) ?_ ?_
    · refine i_iconst C dX12_isOf_26 kI_0 ?_
      exact i_zret C hq dX12_isOf_27 (Or.inl rfl)
    · refine i_iconst C dX12_isOf_22 kI_1 ?_
      refine i_goto (tgt := 27) C dX12_isOf_23 (by decide) ?_
      exact i_zret C hq dX12_isOf_27 (Or.inr rfl)
set_option maxRecDepth 100000 in
set_option maxHeartbeats 4000000 in
theorem c_X12_sideOf (l : Launch) (G : Gx) {K : Kx} (hK : K = kR) {x1 : Int} {M : Mem} {res : Int × Mem} (hM : OkM M) (ha : okS [aR 0, aI x1]) (hF : rM_sideOf x1 M = some res) : Ct l G K yX12_sideOf (wsM yX12_sideOf cX12_sideOf 2 (some .int)) rmX12_sideOf [aR 0, aI x1] M (some (aI res.1)) res.2 := by
  refine ct_of RX12 (by decide +kernel) rfl (hK ▸ kR_ok) hM ha (Nat.le_of_ble_eq_true rfl) hF ?_
  intro X C hl hG hX hN hR hq
  have hX : xK X = kR := hX.trans hK
  show Im X 0 0 0 [(0, aR 0), (1, aI x1)] [] M res (rM_sideOf x1 M)
  unfold rM_sideOf
  have hRm : ∀ {rm : Room} {ny : Nat}, RmOk rmX12_sideOf rm ny → RmOk (xR X) rm ny := fun h => by rw [hR]; exact h
  refine i_aload_n C dX12_sideOf_0 rfl (q := 0) rfl ?_
  refine i_getR C (k := 0) kX12 dX12_sideOf_1 (shR_0 hX) rfl (by decide) fl_X12_7 ?_
  refine i_aload_n C dX12_sideOf_4 rfl (q := 0) rfl ?_
  refine i_iload_n C dX12_sideOf_5 rfl (q := 1) rfl ?_
  refine i_cI (kc' := 0) (ks' := 0) 0 0 2 (fun q hq hM hS => crV C (as := [aI x1]) dX12_sideOf_6.1 kX12 (shR_0 hX) ml_X12_90 cal_X12_cellAt cv_X12_cellAt (hRm ⟨Nat.le_of_ble_eq_true rfl, Nat.le_of_ble_eq_true rfl⟩) rfl (Nat.le_of_ble_eq_true rfl) (c_X12_cellAt (xl X) (xG X) hX hM ⟨hS.2.1, hS.1, trivial⟩ hq)) (Nat.le_of_ble_eq_true rfl) (Nat.le_of_ble_eq_true rfl) rfl rfl rfl rfl (fun v2 M1 => ?_)
  refine i_iconst C dX12_sideOf_9 kI_0 ?_
  refine i_iadd C dX12_sideOf_10 ?_
  refine i_ald C dX12_sideOf_11 (shR_1 hX) (fun v3 => ?_)
  exact i_iret C hq dX12_sideOf_12
set_option maxRecDepth 100000 in
set_option maxHeartbeats 4000000 in
theorem c_X12_ownSide (l : Launch) (G : Gx) {K : Kx} (hK : K = kR) {x1 : Int} {M : Mem} {res : Int × Mem} (hM : OkM M) (ha : okS [aR 0, aI x1]) (hF : rM_ownSide x1 M = some res) : Ct l G K yX12_ownSide (wsM yX12_ownSide cX12_ownSide 2 (some .int)) rmX12_ownSide [aR 0, aI x1] M (some (aI res.1)) res.2 := by
  refine ct_of RX12 (by decide +kernel) rfl (hK ▸ kR_ok) hM ha (Nat.le_of_ble_eq_true rfl) hF ?_
  intro X C hl hG hX hN hR hq
  have hX : xK X = kR := hX.trans hK
  show Im X 0 0 0 [(0, aR 0), (1, aI x1)] [] M res (rM_ownSide x1 M)
  unfold rM_ownSide
  have hRm : ∀ {rm : Room} {ny : Nat}, RmOk rmX12_ownSide rm ny → RmOk (xR X) rm ny := fun h => by rw [hR]; exact h
  refine i_aload_n C dX12_ownSide_0 rfl (q := 0) rfl ?_
  refine i_aload_n C dX12_ownSide_1 rfl (q := 0) rfl ?_
  refine i_getR C (k := 0) kX12 dX12_ownSide_2 (shR_0 hX) rfl (by decide) fl_X12_7 ?_
  refine i_aload_n C dX12_ownSide_5 rfl (q := 0) rfl ?_
  refine i_iload_n C dX12_ownSide_6 rfl (q := 1) rfl ?_
  refine i_cI (kc' := 0) (ks' := 0) 0 0 2 (fun q hq hM hS => crV C (as := [aI x1]) dX12_ownSide_7.1 kX12 (shR_0 hX) ml_X12_93 cal_X12_personAt cv_X12_personAt (hRm ⟨Nat.le_of_ble_eq_true rfl, Nat.le_of_ble_eq_true rfl⟩) rfl (Nat.le_of_ble_eq_true rfl) (c_X12_personAt (xl X) (xG X) hX hM ⟨hS.2.1, hS.1, trivial⟩ hq)) (Nat.le_of_ble_eq_true rfl) (Nat.le_of_ble_eq_true rfl) rfl rfl rfl rfl (fun v2 M1 => ?_)
  refine i_iconst C dX12_ownSide_10 kI_0 ?_
  refine i_iadd C dX12_ownSide_11 ?_
  refine i_ald C dX12_ownSide_12 (shR_1 hX) (fun v3 => ?_)
  refine i_cI (kc' := 0) (ks' := 0) 0 0 2 (fun q hq hM hS => crV C (as := [aI v3]) dX12_ownSide_13.1 kX12 (shR_0 hX) ml_X12_96 cal_X12_sideOf cv_X12_sideOf (hRm ⟨Nat.le_of_ble_eq_true rfl, Nat.le_of_ble_eq_true rfl⟩) rfl (Nat.le_of_ble_eq_true rfl) (c_X12_sideOf (xl X) (xG X) hX hM ⟨hS.2.1, hS.1, trivial⟩ hq)) (Nat.le_of_ble_eq_true rfl) (Nat.le_of_ble_eq_true rfl) rfl rfl rfl rfl (fun v5 M4 => ?_)
  exact i_iret C hq dX12_ownSide_16
set_option maxRecDepth 100000 in
set_option maxHeartbeats 4000000 in
theorem c_X12_isDead (l : Launch) (G : Gx) {K : Kx} (hK : K = kR) {x1 : Int} {M : Mem} {res : Int × Mem} (hM : OkM M) (ha : okS [aR 0, aI x1]) (hF : rM_isDead x1 M = some res) : Ct l G K yX12_isDead (wsM yX12_isDead cX12_isDead 2 (some .boolean)) rmX12_isDead [aR 0, aI x1] M (some (aI res.1)) res.2 := by
  refine ct_of RX12 (by decide +kernel) rfl (hK ▸ kR_ok) hM ha (Nat.le_of_ble_eq_true rfl) hF ?_
  intro X C hl hG hX hN hR hq
  have hX : xK X = kR := hX.trans hK
  show Im X 0 0 0 [(0, aR 0), (1, aI x1)] [] M res (rM_isDead x1 M)
  unfold rM_isDead
  have hRm : ∀ {rm : Room} {ny : Nat}, RmOk rmX12_isDead rm ny → RmOk (xR X) rm ny := fun h => by rw [hR]; exact h
  refine i_aload_n C dX12_isDead_0 rfl (q := 0) rfl ?_
  refine i_getR C (k := 0) kX12 dX12_isDead_1 (shR_0 hX) rfl (by decide) fl_X12_7 ?_
  refine i_aload_n C dX12_isDead_4 rfl (q := 0) rfl ?_
  refine i_iload_n C dX12_isDead_5 rfl (q := 1) rfl ?_
  refine i_cI (kc' := 0) (ks' := 0) 0 0 2 (fun q hq hM hS => crV C (as := [aI x1]) dX12_isDead_6.1 kX12 (shR_0 hX) ml_X12_93 cal_X12_personAt cv_X12_personAt (hRm ⟨Nat.le_of_ble_eq_true rfl, Nat.le_of_ble_eq_true rfl⟩) rfl (Nat.le_of_ble_eq_true rfl) (c_X12_personAt (xl X) (xG X) hX hM ⟨hS.2.1, hS.1, trivial⟩ hq)) (Nat.le_of_ble_eq_true rfl) (Nat.le_of_ble_eq_true rfl) rfl rfl rfl rfl (fun v2 M1 => ?_)
  refine i_bipush C dX12_isDead_9 kB_7 ?_
  refine i_iadd C dX12_isDead_11 ?_
  refine i_ald C dX12_isDead_12 (shR_1 hX) (fun v3 => ?_)
  refine i_iconst C dX12_isDead_13 kI_1 ?_
  refine i_icmp_ne (tgt := 21) C dX12_isDead_14 (by decide) ?_ ?_
  · refine i_iconst C dX12_isDead_21 kI_0 ?_
    exact i_zret C hq dX12_isDead_22 (Or.inl rfl)
  · refine i_iconst C dX12_isDead_17 kI_1 ?_
    refine i_goto (tgt := 22) C dX12_isDead_18 (by decide) ?_
    exact i_zret C hq dX12_isDead_22 (Or.inr rfl)
set_option maxRecDepth 100000 in
set_option maxHeartbeats 4000000 in
theorem c_X12_waits (l : Launch) (G : Gx) {K : Kx} (hK : K = kR) {x1 : Int} {M : Mem} {res : Int × Mem} (hM : OkM M) (ha : okS [aR 0, aI x1]) (hF : rM_waits x1 M = some res) : Ct l G K yX12_waits (wsM yX12_waits cX12_waits 2 (some .boolean)) rmX12_waits [aR 0, aI x1] M (some (aI res.1)) res.2 := by
  refine ct_of RX12 (by decide +kernel) rfl (hK ▸ kR_ok) hM ha (Nat.le_of_ble_eq_true rfl) hF ?_
  intro X C hl hG hX hN hR hq
  have hX : xK X = kR := hX.trans hK
  show Im X 0 0 0 [(0, aR 0), (1, aI x1)] [] M res (rM_waits x1 M)
  unfold rM_waits
  have hRm : ∀ {rm : Room} {ny : Nat}, RmOk rmX12_waits rm ny → RmOk (xR X) rm ny := fun h => by rw [hR]; exact h
  refine i_aload_n C dX12_waits_0 rfl (q := 0) rfl ?_
  refine i_getR C (k := 0) kX12 dX12_waits_1 (shR_0 hX) rfl (by decide) fl_X12_7 ?_
  refine i_aload_n C dX12_waits_4 rfl (q := 0) rfl ?_
  refine i_iload_n C dX12_waits_5 rfl (q := 1) rfl ?_
  refine i_cI (kc' := 0) (ks' := 0) 0 0 2 (fun q hq hM hS => crV C (as := [aI x1]) dX12_waits_6.1 kX12 (shR_0 hX) ml_X12_93 cal_X12_personAt cv_X12_personAt (hRm ⟨Nat.le_of_ble_eq_true rfl, Nat.le_of_ble_eq_true rfl⟩) rfl (Nat.le_of_ble_eq_true rfl) (c_X12_personAt (xl X) (xG X) hX hM ⟨hS.2.1, hS.1, trivial⟩ hq)) (Nat.le_of_ble_eq_true rfl) (Nat.le_of_ble_eq_true rfl) rfl rfl rfl rfl (fun v2 M1 => ?_)
  refine i_iconst C dX12_waits_9 kI_4 ?_
  refine i_iadd C dX12_waits_10 ?_
  refine i_ald C dX12_waits_11 (shR_1 hX) (fun v3 => ?_)
  refine i_if_lt (tgt := 19) C dX12_waits_12 (by decide) ?_ ?_
  · refine i_iconst C dX12_waits_19 kI_0 ?_
    exact i_zret C hq dX12_waits_20 (Or.inl rfl)
  · refine i_iconst C dX12_waits_15 kI_1 ?_
    refine i_goto (tgt := 20) C dX12_waits_16 (by decide) ?_
    exact i_zret C hq dX12_waits_20 (Or.inr rfl)
set_option maxRecDepth 100000 in
set_option maxHeartbeats 4000000 in
theorem c_X12_day (l : Launch) (G : Gx) {K : Kx} (hK : K = kR) {M : Mem} {res : Int × Mem} (hM : OkM M) (ha : okS [aR 0]) (hF : rM_day M = some res) : Ct l G K yX12_day (wsM yX12_day cX12_day 1 (some .int)) rmX12_day [aR 0] M (some (aI res.1)) res.2 := by
  refine ct_of RX12 (by decide +kernel) rfl (hK ▸ kR_ok) hM ha (Nat.le_of_ble_eq_true rfl) hF ?_
  intro X C hl hG hX hN hR hq
  have hX : xK X = kR := hX.trans hK
  show Im X 0 0 0 [(0, aR 0)] [] M res (rM_day  M)
  unfold rM_day
  refine i_aload_n C dX12_day_0 rfl (q := 0) rfl ?_
  refine i_getR C (k := 0) kX12 dX12_day_1 (shR_0 hX) rfl (by decide) fl_X12_7 ?_
  refine i_iconst C dX12_day_4 kI_0 ?_
  refine i_ald C dX12_day_5 (shR_1 hX) (fun v1 => ?_)
  refine i_bipush C dX12_day_6 kB_24 ?_
  refine i_idiv C dX12_day_8 (by decide) ?_
  exact i_iret C hq dX12_day_9
set_option maxRecDepth 100000 in
set_option maxHeartbeats 4000000 in
theorem c_X12_cell (l : Launch) (G : Gx) {K : Kx} (hK : K = kR) {x1 : Int} {M : Mem} {res : Int × Mem} (hM : OkM M) (ha : okS [aR 0, aI x1]) (hF : rM_cell x1 M = some res) : Ct l G K yX12_cell (wsM yX12_cell cX12_cell 3 (some .int)) rmX12_cell [aR 0, aI x1] M (some (aI res.1)) res.2 := by
  refine ct_of RX12 (by decide +kernel) rfl (hK ▸ kR_ok) hM ha (Nat.le_of_ble_eq_true rfl) hF ?_
  intro X C hl hG hX hN hR hq
  have hX : xK X = kR := hX.trans hK
  show Im X 0 0 0 [(0, aR 0), (1, aI x1)] [] M res (rM_cell x1 M)
  unfold rM_cell
  have hl2 : 2 < xn X := by rw [hN]; decide
  have hRm : ∀ {rm : Room} {ny : Nat}, RmOk rmX12_cell rm ny → RmOk (xR X) rm ny := fun h => by rw [hR]; exact h
  refine i_iload_n C dX12_cell_0 rfl (q := 1) rfl ?_
  refine i_cI (kc' := 0) (ks' := 0) 0 0 1 (fun q hq hM hS => crS C (as := [aI x1]) dX12_cell_1.1 ml_X12_99 cal_X12_isSide st_X12_isSide (hRm ⟨Nat.le_of_ble_eq_true rfl, Nat.le_of_ble_eq_true rfl⟩) rfl (Nat.le_of_ble_eq_true rfl) (c_X12_isSide (xl X) (xG X) hX hM ⟨hS.1, trivial⟩ hq)) (Nat.le_of_ble_eq_true rfl) (Nat.le_of_ble_eq_true rfl) rfl rfl rfl rfl (fun v2 M1 => ?_)
  refine i_if_ne (tgt := 10) C dX12_cell_4 (by decide) ?_ ?_
  · refine i_aload_n C dX12_cell_10 rfl (q := 0) rfl ?_
    refine i_getR C (k := 0) kX12 dX12_cell_11 (shR_0 hX) rfl (by decide) fl_X12_7 ?_
    refine i_iconst C dX12_cell_14 kI_1 ?_
    refine i_ald C dX12_cell_15 (shR_1 hX) (fun v3 => ?_)
    refine i_bipush C dX12_cell_16 kB_16 ?_
    refine i_icmp_ne (tgt := 24) C dX12_cell_18 (by decide) ?_ ?_
    · refine i_aload_n C dX12_cell_24 rfl (q := 0) rfl ?_
      refine i_aload_n C dX12_cell_25 rfl (q := 0) rfl ?_
      refine i_getR C (k := 0) kX12 dX12_cell_26 (shR_0 hX) rfl (by decide) fl_X12_7 ?_
      refine i_iconst C dX12_cell_29 kI_1 ?_
      refine i_ald C dX12_cell_30 (shR_1 hX) (fun v4 => ?_)
      refine i_cI (kc' := 0) (ks' := 0) 0 0 2 (fun q hq hM hS => crV C (as := [aI v4]) dX12_cell_31.1 kX12 (shR_0 hX) ml_X12_90 cal_X12_cellAt cv_X12_cellAt (hRm ⟨Nat.le_of_ble_eq_true rfl, Nat.le_of_ble_eq_true rfl⟩) rfl (Nat.le_of_ble_eq_true rfl) (c_X12_cellAt (xl X) (xG X) hX hM ⟨hS.2.1, hS.1, trivial⟩ hq)) (Nat.le_of_ble_eq_true rfl) (Nat.le_of_ble_eq_true rfl) rfl rfl rfl rfl (fun v6 M5 => ?_)
      refine i_istore_n C dX12_cell_34 rfl hl2 (L' := [(0, aR 0), (1, aI x1), (2, aI v6)]) rfl ?_
      refine i_aload_n C dX12_cell_35 rfl (q := 0) rfl ?_
      refine i_getR C (k := 0) kX12 dX12_cell_36 (shR_0 hX) rfl (by decide) fl_X12_7 ?_
      refine i_iload_n C dX12_cell_39 rfl (q := 2) rfl ?_
      refine i_iconst C dX12_cell_40 kI_0 ?_
      refine i_iadd C dX12_cell_41 ?_
      refine i_iload_n C dX12_cell_42 rfl (q := 1) rfl ?_
      refine i_ast C dX12_cell_43 (shR_1 hX) (fun M7 => ?_)
      refine i_aload_n C dX12_cell_44 rfl (q := 0) rfl ?_
      refine i_getR C (k := 0) kX12 dX12_cell_45 (shR_0 hX) rfl (by decide) fl_X12_7 ?_
      refine i_iload_n C dX12_cell_48 rfl (q := 2) rfl ?_
      refine i_iconst C dX12_cell_49 kI_1 ?_
      refine i_iadd C dX12_cell_50 ?_
      refine i_iconst C dX12_cell_51 kI_0 ?_
      refine i_ast C dX12_cell_52 (shR_1 hX) (fun M8 => ?_)
      refine i_aload_n C dX12_cell_53 rfl (q := 0) rfl ?_
      refine i_getR C (k := 0) kX12 dX12_cell_54 (shR_0 hX) rfl (by decide) fl_X12_7 ?_
      refine i_iload_n C dX12_cell_57 rfl (q := 2) rfl ?_
      refine i_iconst C dX12_cell_58 kI_2 ?_
      refine i_iadd C dX12_cell_59 ?_
      refine i_iconst C dX12_cell_60 kI_0 ?_
      refine i_ast C dX12_cell_61 (shR_1 hX) (fun M9 => ?_)
      refine i_aload_n C dX12_cell_62 rfl (q := 0) rfl ?_
      refine i_getR C (k := 0) kX12 dX12_cell_63 (shR_0 hX) rfl (by decide) fl_X12_7 ?_
      refine i_iconst C dX12_cell_66 kI_1 ?_
      refine i_dup2 C dX12_cell_67 rfl rfl ?_
      refine i_ald C dX12_cell_68 (shR_1 hX) (fun v10 => ?_)
      refine i_iconst C dX12_cell_69 kI_1 ?_
      refine i_iadd C dX12_cell_70 ?_
      refine i_ast C dX12_cell_71 (shR_1 hX) (fun M11 => ?_)
      refine i_aload_n C dX12_cell_72 rfl (q := 0) rfl ?_
      refine i_getR C (k := 0) kX12 dX12_cell_73 (shR_0 hX) rfl (by decide) fl_X12_7 ?_
      refine i_iconst C dX12_cell_76 kI_1 ?_
      refine i_ald C dX12_cell_77 (shR_1 hX) (fun v12 => ?_)
      refine i_iconst C dX12_cell_78 kI_1 ?_
      refine i_isub C dX12_cell_79 ?_
      exact i_iret C hq dX12_cell_80
    · refine i_ldc C dX12_cell_21 kc_X12_103 kI_m1000000003 ?_
      exact i_iret C hq dX12_cell_23
  · refine i_ldc C dX12_cell_7 kc_X12_102 kI_m1000000001 ?_
    exact i_iret C hq dX12_cell_9
set_option maxRecDepth 100000 in
set_option maxHeartbeats 4000000 in
theorem c_X12_water (l : Launch) (G : Gx) {K : Kx} (hK : K = kR) {x1 : Int} {x2 : Int} {x3 : Int} {M : Mem} {res : Int × Mem} (hM : OkM M) (ha : okS [aR 0, aI x1, aI x2, aI x3]) (hF : rM_water x1 x2 x3 M = some res) : Ct l G K yX12_water (wsM yX12_water cX12_water 4 (some .int)) rmX12_water [aR 0, aI x1, aI x2, aI x3] M (some (aI res.1)) res.2 := by
  refine ct_of RX12 (by decide +kernel) rfl (hK ▸ kR_ok) hM ha (Nat.le_of_ble_eq_true rfl) hF ?_
  intro X C hl hG hX hN hR hq
  have hX : xK X = kR := hX.trans hK
  show Im X 0 0 0 [(0, aR 0), (1, aI x1), (2, aI x2), (3, aI x3)] [] M res (rM_water x1 x2 x3 M)
  unfold rM_water
  have hRm : ∀ {rm : Room} {ny : Nat}, RmOk rmX12_water rm ny → RmOk (xR X) rm ny := fun h => by rw [hR]; exact h
  refine i_aload_n C dX12_water_0 rfl (q := 0) rfl ?_
  refine i_iload_n C dX12_water_1 rfl (q := 1) rfl ?_
  refine i_cI (kc' := 0) (ks' := 0) 0 0 2 (fun q hq hM hS => crV C (as := [aI x1]) dX12_water_2.1 kX12 (shR_0 hX) ml_X12_104 cal_X12_isCell cv_X12_isCell (hRm ⟨Nat.le_of_ble_eq_true rfl, Nat.le_of_ble_eq_true rfl⟩) rfl (Nat.le_of_ble_eq_true rfl) (c_X12_isCell (xl X) (xG X) hX hM ⟨hS.2.1, hS.1, trivial⟩ hq)) (Nat.le_of_ble_eq_true rfl) (Nat.le_of_ble_eq_true rfl) rfl rfl rfl rfl (fun v2 M1 => ?_)
  refine i_if_eq (tgt := 57) C dX12_water_5 (by decide) ?_ ?_
  · refine i_ldc C dX12_water_57 kc_X12_102 kI_m1000000001 ?_
    exact i_iret C hq dX12_water_59
  · refine i_iload_n C dX12_water_8 rfl (q := 2) rfl ?_
    refine i_i2l C dX12_water_9 ?_
    refine i_lconst C dX12_water_10 kL_0 ?_
    refine i_lconst C dX12_water_11 kL_1 ?_
    refine i_cI (kc' := 0) (ks' := 0) 0 0 3 (fun q hq hM hS => crS C (as := [aL x2, aL 0, aL 1]) dX12_water_12.1 ml_X12_78 cal_X12_isIn st_X12_isIn (hRm ⟨Nat.le_of_ble_eq_true rfl, Nat.le_of_ble_eq_true rfl⟩) rfl (Nat.le_of_ble_eq_true rfl) (c_X12_isIn (xl X) (xG X) hX hM ⟨hS.2.2.1, hS.2.1, hS.1, trivial⟩ hq)) (Nat.le_of_ble_eq_true rfl) (Nat.le_of_ble_eq_true rfl) rfl rfl rfl rfl (fun v4 M3 => ?_)
    refine i_if_eq (tgt := 57) C dX12_water_15 (by decide) ?_ ?_
    · refine i_ldc C dX12_water_57 kc_X12_102 kI_m1000000001 ?_
      exact i_iret C hq dX12_water_59
    · refine i_iload_n C dX12_water_18 rfl (q := 3) rfl ?_
      refine i_i2l C dX12_water_19 ?_
      refine i_lconst C dX12_water_20 kL_0 ?_
      refine i_iload_n C dX12_water_21 rfl (q := 2) rfl ?_
      refine i_jn (fun j => ∀ (p5 : Int) (M7 : Mem), Im X 0 0 34 [(0, aR 0), (1, aI x1), (2, aI x2), (3, aI x3)] [aL p5, aL 0, aL x3] M7 res (j p5 M7)) ?_ (fun j6 hj6 => ?_)
      · intro p5 M7
        refine i_cI (kc' := 0) (ks' := 0) 0 0 3 (fun q hq hM hS => crS C (as := [aL x3, aL 0, aL p5]) dX12_water_34.1 ml_X12_78 cal_X12_isIn st_X12_isIn (hRm ⟨Nat.le_of_ble_eq_true rfl, Nat.le_of_ble_eq_true rfl⟩) rfl (Nat.le_of_ble_eq_true rfl) (c_X12_isIn (xl X) (xG X) hX hM ⟨hS.2.2.1, hS.2.1, hS.1, trivial⟩ hq)) (Nat.le_of_ble_eq_true rfl) (Nat.le_of_ble_eq_true rfl) rfl rfl rfl rfl (fun v9 M8 => ?_)
        refine i_if_eq (tgt := 57) C dX12_water_37 (by decide) ?_ ?_
        · refine i_ldc C dX12_water_57 kc_X12_102 kI_m1000000001 ?_
          exact i_iret C hq dX12_water_59
        · refine i_aload_n C dX12_water_40 rfl (q := 0) rfl ?_
          refine i_aload_n C dX12_water_41 rfl (q := 0) rfl ?_
          refine i_iload_n C dX12_water_42 rfl (q := 1) rfl ?_
          refine i_cI (kc' := 0) (ks' := 0) 0 0 2 (fun q hq hM hS => crV C (as := [aI x1]) dX12_water_43.1 kX12 (shR_0 hX) ml_X12_90 cal_X12_cellAt cv_X12_cellAt (hRm ⟨Nat.le_of_ble_eq_true rfl, Nat.le_of_ble_eq_true rfl⟩) rfl (Nat.le_of_ble_eq_true rfl) (c_X12_cellAt (xl X) (xG X) hX hM ⟨hS.2.1, hS.1, trivial⟩ hq)) (Nat.le_of_ble_eq_true rfl) (Nat.le_of_ble_eq_true rfl) rfl rfl rfl rfl (fun v11 M10 => ?_)
          refine i_iconst C dX12_water_46 kI_1 ?_
          refine i_iadd C dX12_water_47 ?_
          refine i_iload_n C dX12_water_48 rfl (q := 2) rfl ?_
          refine i_iadd C dX12_water_49 ?_
          refine i_iload_n C dX12_water_50 rfl (q := 3) rfl ?_
          refine i_cI (kc' := 0) (ks' := 0) 0 0 3 (fun q hq hM hS => crV C (as := [aI (w32 ((w32 (v11 + 1)) + x2)), aI x3]) dX12_water_51.1 kX12 (shR_0 hX) ml_X12_111 cal_X12_becomes cv_X12_becomes (hRm ⟨Nat.le_of_ble_eq_true rfl, Nat.le_of_ble_eq_true rfl⟩) rfl (Nat.le_of_ble_eq_true rfl) (c_X12_becomes (xl X) (xG X) hX hM ⟨hS.2.2.1, hS.2.1, hS.1, trivial⟩ hq)) (Nat.le_of_ble_eq_true rfl) (Nat.le_of_ble_eq_true rfl) rfl rfl rfl rfl (fun v13 M12 => ?_)
          refine i_goto (tgt := 59) C dX12_water_54 (by decide) ?_
          exact i_iret C hq dX12_water_59
      refine i_if_ne (tgt := 31) C dX12_water_22 (by decide) ?_ ?_
      · refine i_ldc2 C dX12_water_31 k2_X12_109 kJ_9999 ?_
        exact (hj6 9999 M3)
      · refine i_ldc2 C dX12_water_25 k2_X12_107 kJ_999 ?_
        refine i_goto (tgt := 34) C dX12_water_28 (by decide) ?_
        exact (hj6 999 M3)
set_option maxRecDepth 100000 in
set_option maxHeartbeats 4000000 in
theorem c_X12_person (l : Launch) (G : Gx) {K : Kx} (hK : K = kR) {x1 : Int} {x2 : Int} {x3 : Int} {M : Mem} {res : Int × Mem} (hM : OkM M) (ha : okS [aR 0, aI x1, aI x2, aI x3]) (hF : rM_person x1 x2 x3 M = some res) : Ct l G K yX12_person (wsM yX12_person cX12_person 5 (some .int)) rmX12_person [aR 0, aI x1, aI x2, aI x3] M (some (aI res.1)) res.2 := by
  refine ct_of RX12 (by decide +kernel) rfl (hK ▸ kR_ok) hM ha (Nat.le_of_ble_eq_true rfl) hF ?_
  intro X C hl hG hX hN hR hq
  have hX : xK X = kR := hX.trans hK
  show Im X 0 0 0 [(0, aR 0), (1, aI x1), (2, aI x2), (3, aI x3)] [] M res (rM_person x1 x2 x3 M)
  unfold rM_person
  have hl4 : 4 < xn X := by rw [hN]; decide
  have hRm : ∀ {rm : Room} {ny : Nat}, RmOk rmX12_person rm ny → RmOk (xR X) rm ny := fun h => by rw [hR]; exact h
  refine i_aload_n C dX12_person_0 rfl (q := 0) rfl ?_
  refine i_iload_n C dX12_person_1 rfl (q := 1) rfl ?_
  refine i_cI (kc' := 0) (ks' := 0) 0 0 2 (fun q hq hM hS => crV C (as := [aI x1]) dX12_person_2.1 kX12 (shR_0 hX) ml_X12_104 cal_X12_isCell cv_X12_isCell (hRm ⟨Nat.le_of_ble_eq_true rfl, Nat.le_of_ble_eq_true rfl⟩) rfl (Nat.le_of_ble_eq_true rfl) (c_X12_isCell (xl X) (xG X) hX hM ⟨hS.2.1, hS.1, trivial⟩ hq)) (Nat.le_of_ble_eq_true rfl) (Nat.le_of_ble_eq_true rfl) rfl rfl rfl rfl (fun v2 M1 => ?_)
  refine i_if_eq (tgt := 32) C dX12_person_5 (by decide) ?_ ?_
  · refine i_ldc C dX12_person_32 kc_X12_102 kI_m1000000001 ?_
    exact i_iret C hq dX12_person_34
  · refine i_iload_n C dX12_person_8 rfl (q := 2) rfl ?_
    refine i_i2l C dX12_person_9 ?_
    refine i_lconst C dX12_person_10 kL_0 ?_
    refine i_ldc2 C dX12_person_11 k2_X12_115 kJ_99 ?_
    refine i_cI (kc' := 0) (ks' := 0) 0 0 3 (fun q hq hM hS => crS C (as := [aL x2, aL 0, aL 99]) dX12_person_14.1 ml_X12_78 cal_X12_isIn st_X12_isIn (hRm ⟨Nat.le_of_ble_eq_true rfl, Nat.le_of_ble_eq_true rfl⟩) rfl (Nat.le_of_ble_eq_true rfl) (c_X12_isIn (xl X) (xG X) hX hM ⟨hS.2.2.1, hS.2.1, hS.1, trivial⟩ hq)) (Nat.le_of_ble_eq_true rfl) (Nat.le_of_ble_eq_true rfl) rfl rfl rfl rfl (fun v4 M3 => ?_)
    refine i_if_eq (tgt := 32) C dX12_person_17 (by decide) ?_ ?_
    · refine i_ldc C dX12_person_32 kc_X12_102 kI_m1000000001 ?_
      exact i_iret C hq dX12_person_34
    · refine i_iload_n C dX12_person_20 rfl (q := 3) rfl ?_
      refine i_i2l C dX12_person_21 ?_
      refine i_lconst C dX12_person_22 kL_0 ?_
      refine i_ldc2 C dX12_person_23 k2_X12_117 kJ_3 ?_
      refine i_cI (kc' := 0) (ks' := 0) 0 0 3 (fun q hq hM hS => crS C (as := [aL x3, aL 0, aL 3]) dX12_person_26.1 ml_X12_78 cal_X12_isIn st_X12_isIn (hRm ⟨Nat.le_of_ble_eq_true rfl, Nat.le_of_ble_eq_true rfl⟩) rfl (Nat.le_of_ble_eq_true rfl) (c_X12_isIn (xl X) (xG X) hX hM ⟨hS.2.2.1, hS.2.1, hS.1, trivial⟩ hq)) (Nat.le_of_ble_eq_true rfl) (Nat.le_of_ble_eq_true rfl) rfl rfl rfl rfl (fun v6 M5 => ?_)
      refine i_if_ne (tgt := 35) C dX12_person_29 (by decide) ?_ ?_
      · refine i_aload_n C dX12_person_35 rfl (q := 0) rfl ?_
        refine i_getR C (k := 0) kX12 dX12_person_36 (shR_0 hX) rfl (by decide) fl_X12_7 ?_
        refine i_iconst C dX12_person_39 kI_2 ?_
        refine i_ald C dX12_person_40 (shR_1 hX) (fun v7 => ?_)
        refine i_bipush C dX12_person_41 kB_20 ?_
        refine i_icmp_ne (tgt := 49) C dX12_person_43 (by decide) ?_ ?_
        · refine i_aload_n C dX12_person_49 rfl (q := 0) rfl ?_
          refine i_aload_n C dX12_person_50 rfl (q := 0) rfl ?_
          refine i_getR C (k := 0) kX12 dX12_person_51 (shR_0 hX) rfl (by decide) fl_X12_7 ?_
          refine i_iconst C dX12_person_54 kI_2 ?_
          refine i_ald C dX12_person_55 (shR_1 hX) (fun v8 => ?_)
          refine i_cI (kc' := 0) (ks' := 0) 0 0 2 (fun q hq hM hS => crV C (as := [aI v8]) dX12_person_56.1 kX12 (shR_0 hX) ml_X12_93 cal_X12_personAt cv_X12_personAt (hRm ⟨Nat.le_of_ble_eq_true rfl, Nat.le_of_ble_eq_true rfl⟩) rfl (Nat.le_of_ble_eq_true rfl) (c_X12_personAt (xl X) (xG X) hX hM ⟨hS.2.1, hS.1, trivial⟩ hq)) (Nat.le_of_ble_eq_true rfl) (Nat.le_of_ble_eq_true rfl) rfl rfl rfl rfl (fun v10 M9 => ?_)
          refine i_istore C dX12_person_59 hl4 (L' := [(0, aR 0), (1, aI x1), (2, aI x2), (3, aI x3), (4, aI v10)]) rfl ?_
          refine i_aload_n C dX12_person_61 rfl (q := 0) rfl ?_
          refine i_getR C (k := 0) kX12 dX12_person_62 (shR_0 hX) rfl (by decide) fl_X12_7 ?_
          refine i_iload C dX12_person_65 (q := 4) rfl ?_
          refine i_iconst C dX12_person_67 kI_0 ?_
          refine i_iadd C dX12_person_68 ?_
          refine i_iload_n C dX12_person_69 rfl (q := 1) rfl ?_
          refine i_ast C dX12_person_70 (shR_1 hX) (fun M11 => ?_)
          refine i_aload_n C dX12_person_71 rfl (q := 0) rfl ?_
          refine i_getR C (k := 0) kX12 dX12_person_72 (shR_0 hX) rfl (by decide) fl_X12_7 ?_
          refine i_iload C dX12_person_75 (q := 4) rfl ?_
          refine i_iconst C dX12_person_77 kI_1 ?_
          refine i_iadd C dX12_person_78 ?_
          refine i_iload_n C dX12_person_79 rfl (q := 2) rfl ?_
          refine i_ast C dX12_person_80 (shR_1 hX) (fun M12 => ?_)
          refine i_aload_n C dX12_person_81 rfl (q := 0) rfl ?_
          refine i_getR C (k := 0) kX12 dX12_person_82 (shR_0 hX) rfl (by decide) fl_X12_7 ?_
          refine i_iload C dX12_person_85 (q := 4) rfl ?_
          refine i_iconst C dX12_person_87 kI_2 ?_
          refine i_iadd C dX12_person_88 ?_
          refine i_iload_n C dX12_person_89 rfl (q := 3) rfl ?_
          refine i_ast C dX12_person_90 (shR_1 hX) (fun M13 => ?_)
          refine i_aload_n C dX12_person_91 rfl (q := 0) rfl ?_
          refine i_getR C (k := 0) kX12 dX12_person_92 (shR_0 hX) rfl (by decide) fl_X12_7 ?_
          refine i_iload C dX12_person_95 (q := 4) rfl ?_
          refine i_iconst C dX12_person_97 kI_3 ?_
          refine i_iadd C dX12_person_98 ?_
          refine i_iload_n C dX12_person_99 rfl (q := 1) rfl ?_
          refine i_ast C dX12_person_100 (shR_1 hX) (fun M14 => ?_)
          refine i_aload_n C dX12_person_101 rfl (q := 0) rfl ?_
          refine i_getR C (k := 0) kX12 dX12_person_102 (shR_0 hX) rfl (by decide) fl_X12_7 ?_
          refine i_iload C dX12_person_105 (q := 4) rfl ?_
          refine i_iconst C dX12_person_107 kI_4 ?_
          refine i_iadd C dX12_person_108 ?_
          refine i_iconst C dX12_person_109 kI_m1 ?_
          refine i_ast C dX12_person_110 (shR_1 hX) (fun M15 => ?_)
          refine i_aload_n C dX12_person_111 rfl (q := 0) rfl ?_
          refine i_getR C (k := 0) kX12 dX12_person_112 (shR_0 hX) rfl (by decide) fl_X12_7 ?_
          refine i_iload C dX12_person_115 (q := 4) rfl ?_
          refine i_iconst C dX12_person_117 kI_5 ?_
          refine i_iadd C dX12_person_118 ?_
          refine i_iconst C dX12_person_119 kI_m1 ?_
          refine i_ast C dX12_person_120 (shR_1 hX) (fun M16 => ?_)
          refine i_aload_n C dX12_person_121 rfl (q := 0) rfl ?_
          refine i_getR C (k := 0) kX12 dX12_person_122 (shR_0 hX) rfl (by decide) fl_X12_7 ?_
          refine i_iload C dX12_person_125 (q := 4) rfl ?_
          refine i_bipush C dX12_person_127 kB_6 ?_
          refine i_iadd C dX12_person_129 ?_
          refine i_iconst C dX12_person_130 kI_0 ?_
          refine i_ast C dX12_person_131 (shR_1 hX) (fun M17 => ?_)
          refine i_aload_n C dX12_person_132 rfl (q := 0) rfl ?_
          refine i_getR C (k := 0) kX12 dX12_person_133 (shR_0 hX) rfl (by decide) fl_X12_7 ?_
          refine i_iload C dX12_person_136 (q := 4) rfl ?_
          refine i_bipush C dX12_person_138 kB_7 ?_
          refine i_iadd C dX12_person_140 ?_
          refine i_iconst C dX12_person_141 kI_0 ?_
          refine i_ast C dX12_person_142 (shR_1 hX) (fun M18 => ?_)
          refine i_aload_n C dX12_person_143 rfl (q := 0) rfl ?_
          refine i_getR C (k := 0) kX12 dX12_person_144 (shR_0 hX) rfl (by decide) fl_X12_7 ?_
          refine i_iconst C dX12_person_147 kI_2 ?_
          refine i_dup2 C dX12_person_148 rfl rfl ?_
          refine i_ald C dX12_person_149 (shR_1 hX) (fun v19 => ?_)
          refine i_iconst C dX12_person_150 kI_1 ?_
          refine i_iadd C dX12_person_151 ?_
          refine i_ast C dX12_person_152 (shR_1 hX) (fun M20 => ?_)
          refine i_aload_n C dX12_person_153 rfl (q := 0) rfl ?_
          refine i_getR C (k := 0) kX12 dX12_person_154 (shR_0 hX) rfl (by decide) fl_X12_7 ?_
          refine i_iconst C dX12_person_157 kI_2 ?_
          refine i_ald C dX12_person_158 (shR_1 hX) (fun v21 => ?_)
          refine i_iconst C dX12_person_159 kI_1 ?_
          refine i_isub C dX12_person_160 ?_
          exact i_iret C hq dX12_person_161
        · refine i_ldc C dX12_person_46 kc_X12_103 kI_m1000000003 ?_
          exact i_iret C hq dX12_person_48
      · refine i_ldc C dX12_person_32 kc_X12_102 kI_m1000000001 ?_
        exact i_iret C hq dX12_person_34
set_option maxRecDepth 100000 in
set_option maxHeartbeats 4000000 in
theorem c_X12_is (l : Launch) (G : Gx) {K : Kx} (hK : K = kR) {x1 : Int} {x2 : Int} {M : Mem} {res : Int × Mem} (hM : OkM M) (ha : okS [aR 0, aI x1, aI x2]) (hF : rM_is x1 x2 M = some res) : Ct l G K yX12_is (wsM yX12_is cX12_is 4 (some .int)) rmX12_is [aR 0, aI x1, aI x2] M (some (aI res.1)) res.2 := by
  refine ct_of RX12 (by decide +kernel) rfl (hK ▸ kR_ok) hM ha (Nat.le_of_ble_eq_true rfl) hF ?_
  intro X C hl hG hX hN hR hq
  have hX : xK X = kR := hX.trans hK
  show Im X 0 0 0 [(0, aR 0), (1, aI x1), (2, aI x2)] [] M res (rM_is x1 x2 M)
  unfold rM_is
  have hl3 : 3 < xn X := by rw [hN]; decide
  have hRm : ∀ {rm : Room} {ny : Nat}, RmOk rmX12_is rm ny → RmOk (xR X) rm ny := fun h => by rw [hR]; exact h
  refine i_aload_n C dX12_is_0 rfl (q := 0) rfl ?_
  refine i_iload_n C dX12_is_1 rfl (q := 1) rfl ?_
  refine i_cI (kc' := 0) (ks' := 0) 0 0 2 (fun q hq hM hS => crV C (as := [aI x1]) dX12_is_2.1 kX12 (shR_0 hX) ml_X12_119 cal_X12_isPerson cv_X12_isPerson (hRm ⟨Nat.le_of_ble_eq_true rfl, Nat.le_of_ble_eq_true rfl⟩) rfl (Nat.le_of_ble_eq_true rfl) (c_X12_isPerson (xl X) (xG X) hX hM ⟨hS.2.1, hS.1, trivial⟩ hq)) (Nat.le_of_ble_eq_true rfl) (Nat.le_of_ble_eq_true rfl) rfl rfl rfl rfl (fun v2 M1 => ?_)
  refine i_if_eq (tgt := 20) C dX12_is_5 (by decide) ?_ ?_
  · refine i_ldc C dX12_is_20 kc_X12_102 kI_m1000000001 ?_
    exact i_iret C hq dX12_is_22
  · refine i_iload_n C dX12_is_8 rfl (q := 2) rfl ?_
    refine i_i2l C dX12_is_9 ?_
    refine i_lconst C dX12_is_10 kL_0 ?_
    refine i_ldc2 C dX12_is_11 k2_X12_122 kJ_7 ?_
    refine i_cI (kc' := 0) (ks' := 0) 0 0 3 (fun q hq hM hS => crS C (as := [aL x2, aL 0, aL 7]) dX12_is_14.1 ml_X12_78 cal_X12_isIn st_X12_isIn (hRm ⟨Nat.le_of_ble_eq_true rfl, Nat.le_of_ble_eq_true rfl⟩) rfl (Nat.le_of_ble_eq_true rfl) (c_X12_isIn (xl X) (xG X) hX hM ⟨hS.2.2.1, hS.2.1, hS.1, trivial⟩ hq)) (Nat.le_of_ble_eq_true rfl) (Nat.le_of_ble_eq_true rfl) rfl rfl rfl rfl (fun v4 M3 => ?_)
    refine i_if_ne (tgt := 23) C dX12_is_17 (by decide) ?_ ?_
    · refine i_aload_n C dX12_is_23 rfl (q := 0) rfl ?_
      refine i_iload_n C dX12_is_24 rfl (q := 1) rfl ?_
      refine i_cI (kc' := 0) (ks' := 0) 0 0 2 (fun q hq hM hS => crV C (as := [aI x1]) dX12_is_25.1 kX12 (shR_0 hX) ml_X12_93 cal_X12_personAt cv_X12_personAt (hRm ⟨Nat.le_of_ble_eq_true rfl, Nat.le_of_ble_eq_true rfl⟩) rfl (Nat.le_of_ble_eq_true rfl) (c_X12_personAt (xl X) (xG X) hX hM ⟨hS.2.1, hS.1, trivial⟩ hq)) (Nat.le_of_ble_eq_true rfl) (Nat.le_of_ble_eq_true rfl) rfl rfl rfl rfl (fun v6 M5 => ?_)
      refine i_istore_n C dX12_is_28 rfl hl3 (L' := [(0, aR 0), (1, aI x1), (2, aI x2), (3, aI v6)]) rfl ?_
      refine i_iload_n C dX12_is_29 rfl (q := 2) rfl ?_
      refine i_split (fun e10 => ?_) (fun e10 => ?_)
      · refine i_tswIn (tgt := 64) C dX12_is_30 e10 (by decide) (by decide) rfl (by decide) ?_
        refine i_aload_n C dX12_is_64 rfl (q := 0) rfl ?_
        refine i_getR C (k := 0) kX12 dX12_is_65 (shR_0 hX) rfl (by decide) fl_X12_7 ?_
        refine i_iload_n C dX12_is_68 rfl (q := 3) rfl ?_
        refine i_iconst C dX12_is_69 kI_3 ?_
        refine i_iadd C dX12_is_70 ?_
        refine i_ald C dX12_is_71 (shR_1 hX) (fun v7 => ?_)
        refine i_cI (kc' := 0) (ks' := 0) 0 0 1 (fun q hq hM hS => crS C (as := [aI v7]) dX12_is_72.1 ml_X12_124 cal_X12_orNone st_X12_orNone (hRm ⟨Nat.le_of_ble_eq_true rfl, Nat.le_of_ble_eq_true rfl⟩) rfl (Nat.le_of_ble_eq_true rfl) (c_X12_orNone (xl X) (xG X) hX hM ⟨hS.1, trivial⟩ hq)) (Nat.le_of_ble_eq_true rfl) (Nat.le_of_ble_eq_true rfl) rfl rfl rfl rfl (fun v9 M8 => ?_)
        exact i_iret C hq dX12_is_75
      refine i_split (fun e14 => ?_) (fun e14 => ?_)
      · refine i_tswIn (tgt := 76) C dX12_is_30 e14 (by decide) (by decide) rfl (by decide) ?_
        refine i_aload_n C dX12_is_76 rfl (q := 0) rfl ?_
        refine i_getR C (k := 0) kX12 dX12_is_77 (shR_0 hX) rfl (by decide) fl_X12_7 ?_
        refine i_iload_n C dX12_is_80 rfl (q := 3) rfl ?_
        refine i_iconst C dX12_is_81 kI_4 ?_
        refine i_iadd C dX12_is_82 ?_
        refine i_ald C dX12_is_83 (shR_1 hX) (fun v11 => ?_)
        refine i_cI (kc' := 0) (ks' := 0) 0 0 1 (fun q hq hM hS => crS C (as := [aI v11]) dX12_is_84.1 ml_X12_124 cal_X12_orNone st_X12_orNone (hRm ⟨Nat.le_of_ble_eq_true rfl, Nat.le_of_ble_eq_true rfl⟩) rfl (Nat.le_of_ble_eq_true rfl) (c_X12_orNone (xl X) (xG X) hX hM ⟨hS.1, trivial⟩ hq)) (Nat.le_of_ble_eq_true rfl) (Nat.le_of_ble_eq_true rfl) rfl rfl rfl rfl (fun v13 M12 => ?_)
        exact i_iret C hq dX12_is_87
      refine i_split (fun e16 => ?_) (fun e16 => ?_)
      · refine i_tswIn (tgt := 88) C dX12_is_30 e16 (by decide) (by decide) rfl (by decide) ?_
        refine i_aload_n C dX12_is_88 rfl (q := 0) rfl ?_
        refine i_getR C (k := 0) kX12 dX12_is_89 (shR_0 hX) rfl (by decide) fl_X12_7 ?_
        refine i_iload_n C dX12_is_92 rfl (q := 3) rfl ?_
        refine i_bipush C dX12_is_93 kB_7 ?_
        refine i_iadd C dX12_is_95 ?_
        refine i_ald C dX12_is_96 (shR_1 hX) (fun v15 => ?_)
        exact i_iret C hq dX12_is_97
      refine i_split (fun e18 => ?_) (fun e18 => ?_)
      · refine i_tswIn (tgt := 98) C dX12_is_30 e18 (by decide) (by decide) rfl (by decide) ?_
        refine i_aload_n C dX12_is_98 rfl (q := 0) rfl ?_
        refine i_getR C (k := 0) kX12 dX12_is_99 (shR_0 hX) rfl (by decide) fl_X12_7 ?_
        refine i_bipush C dX12_is_102 kB_15 ?_
        refine i_iload_n C dX12_is_104 rfl (q := 2) rfl ?_
        refine i_iadd C dX12_is_105 ?_
        refine i_bipush C dX12_is_106 kB_6 ?_
        refine i_isub C dX12_is_108 ?_
        refine i_ald C dX12_is_109 (shR_1 hX) (fun v17 => ?_)
        refine i_iload_n C dX12_is_110 rfl (q := 1) rfl ?_
        refine i_ishr C dX12_is_111 ?_
        refine i_iconst C dX12_is_112 kI_1 ?_
        refine i_iand C dX12_is_113 ?_
        exact i_iret C hq dX12_is_114
      refine i_split (fun e20 => ?_) (fun e20 => ?_)
      · refine i_tswIn (tgt := 98) C dX12_is_30 e20 (by decide) (by decide) rfl (by decide) ?_
        refine i_aload_n C dX12_is_98 rfl (q := 0) rfl ?_
        refine i_getR C (k := 0) kX12 dX12_is_99 (shR_0 hX) rfl (by decide) fl_X12_7 ?_
        refine i_bipush C dX12_is_102 kB_15 ?_
        refine i_iload_n C dX12_is_104 rfl (q := 2) rfl ?_
        refine i_iadd C dX12_is_105 ?_
        refine i_bipush C dX12_is_106 kB_6 ?_
        refine i_isub C dX12_is_108 ?_
        refine i_ald C dX12_is_109 (shR_1 hX) (fun v19 => ?_)
        refine i_iload_n C dX12_is_110 rfl (q := 1) rfl ?_
        refine i_ishr C dX12_is_111 ?_
        refine i_iconst C dX12_is_112 kI_1 ?_
        refine i_iand C dX12_is_113 ?_
        exact i_iret C hq dX12_is_114
      refine i_tswOut (tgt := 115) C dX12_is_30 (by omega) (by decide) ?_
      refine i_aload_n C dX12_is_115 rfl (q := 0) rfl ?_
      refine i_getR C (k := 0) kX12 dX12_is_116 (shR_0 hX) rfl (by decide) fl_X12_7 ?_
      refine i_iload_n C dX12_is_119 rfl (q := 3) rfl ?_
      refine i_iload_n C dX12_is_120 rfl (q := 2) rfl ?_
      refine i_iadd C dX12_is_121 ?_
      refine i_ald C dX12_is_122 (shR_1 hX) (fun v21 => ?_)
      exact i_iret C hq dX12_is_123
    · refine i_ldc C dX12_is_20 kc_X12_102 kI_m1000000001 ?_
      exact i_iret C hq dX12_is_22
set_option maxRecDepth 100000 in
set_option maxHeartbeats 4000000 in
theorem c_X12_be (l : Launch) (G : Gx) {K : Kx} (hK : K = kR) {x1 : Int} {x2 : Int} {x3 : Int} {M : Mem} {res : Int × Mem} (hM : OkM M) (ha : okS [aR 0, aI x1, aI x2, aI x3]) (hF : rM_be x1 x2 x3 M = some res) : Ct l G K yX12_be (wsM yX12_be cX12_be 4 (some .int)) rmX12_be [aR 0, aI x1, aI x2, aI x3] M (some (aI res.1)) res.2 := by
  refine ct_of RX12 (by decide +kernel) rfl (hK ▸ kR_ok) hM ha (Nat.le_of_ble_eq_true rfl) hF ?_
  intro X C hl hG hX hN hR hq
  have hX : xK X = kR := hX.trans hK
  show Im X 0 0 0 [(0, aR 0), (1, aI x1), (2, aI x2), (3, aI x3)] [] M res (rM_be x1 x2 x3 M)
  unfold rM_be
  have hRm : ∀ {rm : Room} {ny : Nat}, RmOk rmX12_be rm ny → RmOk (xR X) rm ny := fun h => by rw [hR]; exact h
  refine i_aload_n C dX12_be_0 rfl (q := 0) rfl ?_
  refine i_iload_n C dX12_be_1 rfl (q := 1) rfl ?_
  refine i_cI (kc' := 0) (ks' := 0) 0 0 2 (fun q hq hM hS => crV C (as := [aI x1]) dX12_be_2.1 kX12 (shR_0 hX) ml_X12_119 cal_X12_isPerson cv_X12_isPerson (hRm ⟨Nat.le_of_ble_eq_true rfl, Nat.le_of_ble_eq_true rfl⟩) rfl (Nat.le_of_ble_eq_true rfl) (c_X12_isPerson (xl X) (xG X) hX hM ⟨hS.2.1, hS.1, trivial⟩ hq)) (Nat.le_of_ble_eq_true rfl) (Nat.le_of_ble_eq_true rfl) rfl rfl rfl rfl (fun v2 M1 => ?_)
  refine i_if_eq (tgt := 58) C dX12_be_5 (by decide) ?_ ?_
  · refine i_ldc C dX12_be_58 kc_X12_102 kI_m1000000001 ?_
    exact i_iret C hq dX12_be_60
  · refine i_iload_n C dX12_be_8 rfl (q := 2) rfl ?_
    refine i_i2l C dX12_be_9 ?_
    refine i_lconst C dX12_be_10 kL_1 ?_
    refine i_ldc2 C dX12_be_11 k2_X12_127 kJ_2 ?_
    refine i_cI (kc' := 0) (ks' := 0) 0 0 3 (fun q hq hM hS => crS C (as := [aL x2, aL 1, aL 2]) dX12_be_14.1 ml_X12_78 cal_X12_isIn st_X12_isIn (hRm ⟨Nat.le_of_ble_eq_true rfl, Nat.le_of_ble_eq_true rfl⟩) rfl (Nat.le_of_ble_eq_true rfl) (c_X12_isIn (xl X) (xG X) hX hM ⟨hS.2.2.1, hS.2.1, hS.1, trivial⟩ hq)) (Nat.le_of_ble_eq_true rfl) (Nat.le_of_ble_eq_true rfl) rfl rfl rfl rfl (fun v4 M3 => ?_)
    refine i_if_eq (tgt := 58) C dX12_be_17 (by decide) ?_ ?_
    · refine i_ldc C dX12_be_58 kc_X12_102 kI_m1000000001 ?_
      exact i_iret C hq dX12_be_60
    · refine i_iload_n C dX12_be_20 rfl (q := 3) rfl ?_
      refine i_i2l C dX12_be_21 ?_
      refine i_lconst C dX12_be_22 kL_0 ?_
      refine i_iload_n C dX12_be_23 rfl (q := 2) rfl ?_
      refine i_iconst C dX12_be_24 kI_1 ?_
      refine i_jn (fun j => ∀ (p5 : Int) (M7 : Mem), Im X 0 0 37 [(0, aR 0), (1, aI x1), (2, aI x2), (3, aI x3)] [aL p5, aL 0, aL x3] M7 res (j p5 M7)) ?_ (fun j6 hj6 => ?_)
      · intro p5 M7
        refine i_cI (kc' := 0) (ks' := 0) 0 0 3 (fun q hq hM hS => crS C (as := [aL x3, aL 0, aL p5]) dX12_be_37.1 ml_X12_78 cal_X12_isIn st_X12_isIn (hRm ⟨Nat.le_of_ble_eq_true rfl, Nat.le_of_ble_eq_true rfl⟩) rfl (Nat.le_of_ble_eq_true rfl) (c_X12_isIn (xl X) (xG X) hX hM ⟨hS.2.2.1, hS.2.1, hS.1, trivial⟩ hq)) (Nat.le_of_ble_eq_true rfl) (Nat.le_of_ble_eq_true rfl) rfl rfl rfl rfl (fun v9 M8 => ?_)
        refine i_if_eq (tgt := 58) C dX12_be_40 (by decide) ?_ ?_
        · refine i_ldc C dX12_be_58 kc_X12_102 kI_m1000000001 ?_
          exact i_iret C hq dX12_be_60
        · refine i_aload_n C dX12_be_43 rfl (q := 0) rfl ?_
          refine i_aload_n C dX12_be_44 rfl (q := 0) rfl ?_
          refine i_iload_n C dX12_be_45 rfl (q := 1) rfl ?_
          refine i_cI (kc' := 0) (ks' := 0) 0 0 2 (fun q hq hM hS => crV C (as := [aI x1]) dX12_be_46.1 kX12 (shR_0 hX) ml_X12_93 cal_X12_personAt cv_X12_personAt (hRm ⟨Nat.le_of_ble_eq_true rfl, Nat.le_of_ble_eq_true rfl⟩) rfl (Nat.le_of_ble_eq_true rfl) (c_X12_personAt (xl X) (xG X) hX hM ⟨hS.2.1, hS.1, trivial⟩ hq)) (Nat.le_of_ble_eq_true rfl) (Nat.le_of_ble_eq_true rfl) rfl rfl rfl rfl (fun v11 M10 => ?_)
          refine i_iload_n C dX12_be_49 rfl (q := 2) rfl ?_
          refine i_iadd C dX12_be_50 ?_
          refine i_iload_n C dX12_be_51 rfl (q := 3) rfl ?_
          refine i_cI (kc' := 0) (ks' := 0) 0 0 3 (fun q hq hM hS => crV C (as := [aI (w32 (v11 + x2)), aI x3]) dX12_be_52.1 kX12 (shR_0 hX) ml_X12_111 cal_X12_becomes cv_X12_becomes (hRm ⟨Nat.le_of_ble_eq_true rfl, Nat.le_of_ble_eq_true rfl⟩) rfl (Nat.le_of_ble_eq_true rfl) (c_X12_becomes (xl X) (xG X) hX hM ⟨hS.2.2.1, hS.2.1, hS.1, trivial⟩ hq)) (Nat.le_of_ble_eq_true rfl) (Nat.le_of_ble_eq_true rfl) rfl rfl rfl rfl (fun v13 M12 => ?_)
          refine i_goto (tgt := 60) C dX12_be_55 (by decide) ?_
          exact i_iret C hq dX12_be_60
      refine i_icmp_ne (tgt := 34) C dX12_be_25 (by decide) ?_ ?_
      · refine i_ldc2 C dX12_be_34 k2_X12_117 kJ_3 ?_
        exact (hj6 3 M3)
      · refine i_ldc2 C dX12_be_28 k2_X12_115 kJ_99 ?_
        refine i_goto (tgt := 37) C dX12_be_31 (by decide) ?_
        exact (hj6 99 M3)
set_option maxRecDepth 100000 in
set_option maxHeartbeats 4000000 in
theorem c_X12_die (l : Launch) (G : Gx) {K : Kx} (hK : K = kR) {x1 : Int} {M : Mem} {res : Int × Mem} (hM : OkM M) (ha : okS [aR 0, aI x1]) (hF : rM_die x1 M = some res) : Ct l G K yX12_die (wsM yX12_die cX12_die 4 (some .int)) rmX12_die [aR 0, aI x1] M (some (aI res.1)) res.2 := by
  refine ct_of RX12 (by decide +kernel) rfl (hK ▸ kR_ok) hM ha (Nat.le_of_ble_eq_true rfl) hF ?_
  intro X C hl hG hX hN hR hq
  have hX : xK X = kR := hX.trans hK
  show Im X 0 0 0 [(0, aR 0), (1, aI x1)] [] M res (rM_die x1 M)
  unfold rM_die
  have hl2 : 2 < xn X := by rw [hN]; decide
  have hl3 : 3 < xn X := by rw [hN]; decide
  have hRm : ∀ {rm : Room} {ny : Nat}, RmOk rmX12_die rm ny → RmOk (xR X) rm ny := fun h => by rw [hR]; exact h
  refine i_aload_n C dX12_die_0 rfl (q := 0) rfl ?_
  refine i_iload_n C dX12_die_1 rfl (q := 1) rfl ?_
  refine i_cI (kc' := 0) (ks' := 0) 0 0 2 (fun q hq hM hS => crV C (as := [aI x1]) dX12_die_2.1 kX12 (shR_0 hX) ml_X12_119 cal_X12_isPerson cv_X12_isPerson (hRm ⟨Nat.le_of_ble_eq_true rfl, Nat.le_of_ble_eq_true rfl⟩) rfl (Nat.le_of_ble_eq_true rfl) (c_X12_isPerson (xl X) (xG X) hX hM ⟨hS.2.1, hS.1, trivial⟩ hq)) (Nat.le_of_ble_eq_true rfl) (Nat.le_of_ble_eq_true rfl) rfl rfl rfl rfl (fun v2 M1 => ?_)
  refine i_if_ne (tgt := 11) C dX12_die_5 (by decide) ?_ ?_
  · refine i_aload_n C dX12_die_11 rfl (q := 0) rfl ?_
    refine i_iload_n C dX12_die_12 rfl (q := 1) rfl ?_
    refine i_cI (kc' := 0) (ks' := 0) 0 0 2 (fun q hq hM hS => crV C (as := [aI x1]) dX12_die_13.1 kX12 (shR_0 hX) ml_X12_129 cal_X12_isDead cv_X12_isDead (hRm ⟨Nat.le_of_ble_eq_true rfl, Nat.le_of_ble_eq_true rfl⟩) rfl (Nat.le_of_ble_eq_true rfl) (c_X12_isDead (xl X) (xG X) hX hM ⟨hS.2.1, hS.1, trivial⟩ hq)) (Nat.le_of_ble_eq_true rfl) (Nat.le_of_ble_eq_true rfl) rfl rfl rfl rfl (fun v4 M3 => ?_)
    refine i_if_eq (tgt := 22) C dX12_die_16 (by decide) ?_ ?_
    · refine i_aload_n C dX12_die_22 rfl (q := 0) rfl ?_
      refine i_iload_n C dX12_die_23 rfl (q := 1) rfl ?_
      refine i_cI (kc' := 0) (ks' := 0) 0 0 2 (fun q hq hM hS => crV C (as := [aI x1]) dX12_die_24.1 kX12 (shR_0 hX) ml_X12_93 cal_X12_personAt cv_X12_personAt (hRm ⟨Nat.le_of_ble_eq_true rfl, Nat.le_of_ble_eq_true rfl⟩) rfl (Nat.le_of_ble_eq_true rfl) (c_X12_personAt (xl X) (xG X) hX hM ⟨hS.2.1, hS.1, trivial⟩ hq)) (Nat.le_of_ble_eq_true rfl) (Nat.le_of_ble_eq_true rfl) rfl rfl rfl rfl (fun v6 M5 => ?_)
      refine i_istore_n C dX12_die_27 rfl hl2 (L' := [(0, aR 0), (1, aI x1), (2, aI v6)]) rfl ?_
      refine i_aload_n C dX12_die_28 rfl (q := 0) rfl ?_
      refine i_iload_n C dX12_die_29 rfl (q := 1) rfl ?_
      refine i_cI (kc' := 0) (ks' := 0) 0 0 2 (fun q hq hM hS => crV C (as := [aI x1]) dX12_die_30.1 kX12 (shR_0 hX) ml_X12_133 cal_X12_waits cv_X12_waits (hRm ⟨Nat.le_of_ble_eq_true rfl, Nat.le_of_ble_eq_true rfl⟩) rfl (Nat.le_of_ble_eq_true rfl) (c_X12_waits (xl X) (xG X) hX hM ⟨hS.2.1, hS.1, trivial⟩ hq)) (Nat.le_of_ble_eq_true rfl) (Nat.le_of_ble_eq_true rfl) rfl rfl rfl rfl (fun v8 M7 => ?_)
      refine i_jn (fun j => ∀ (p9 : Int) (M11 : Mem), Im X 0 0 56 [(0, aR 0), (1, aI x1), (2, aI v6)] [aI p9] M11 res (j p9 M11)) ?_ (fun j10 hj10 => ?_)
      · intro p9 M11
        refine i_istore_n C dX12_die_56 rfl hl3 (L' := [(0, aR 0), (1, aI x1), (2, aI v6), (3, aI p9)]) rfl ?_
        refine i_aload_n C dX12_die_57 rfl (q := 0) rfl ?_
        refine i_getR C (k := 0) kX12 dX12_die_58 (shR_0 hX) rfl (by decide) fl_X12_7 ?_
        refine i_bipush C dX12_die_61 kB_15 ?_
        refine i_iload_n C dX12_die_63 rfl (q := 3) rfl ?_
        refine i_iadd C dX12_die_64 ?_
        refine i_dup2 C dX12_die_65 rfl rfl ?_
        refine i_ald C dX12_die_66 (shR_1 hX) (fun v12 => ?_)
        refine i_iconst C dX12_die_67 kI_1 ?_
        refine i_iload_n C dX12_die_68 rfl (q := 1) rfl ?_
        refine i_ishl C dX12_die_69 ?_
        refine i_ior C dX12_die_70 ?_
        refine i_ast C dX12_die_71 (shR_1 hX) (fun M13 => ?_)
        refine i_aload_n C dX12_die_72 rfl (q := 0) rfl ?_
        refine i_getR C (k := 0) kX12 dX12_die_73 (shR_0 hX) rfl (by decide) fl_X12_7 ?_
        refine i_iload_n C dX12_die_76 rfl (q := 2) rfl ?_
        refine i_bipush C dX12_die_77 kB_7 ?_
        refine i_iadd C dX12_die_79 ?_
        refine i_iconst C dX12_die_80 kI_1 ?_
        refine i_ast C dX12_die_81 (shR_1 hX) (fun M14 => ?_)
        refine i_aload_n C dX12_die_82 rfl (q := 0) rfl ?_
        refine i_getR C (k := 0) kX12 dX12_die_83 (shR_0 hX) rfl (by decide) fl_X12_7 ?_
        refine i_iload_n C dX12_die_86 rfl (q := 2) rfl ?_
        refine i_iconst C dX12_die_87 kI_3 ?_
        refine i_iadd C dX12_die_88 ?_
        refine i_iconst C dX12_die_89 kI_m1 ?_
        refine i_ast C dX12_die_90 (shR_1 hX) (fun M15 => ?_)
        refine i_aload_n C dX12_die_91 rfl (q := 0) rfl ?_
        refine i_getR C (k := 0) kX12 dX12_die_92 (shR_0 hX) rfl (by decide) fl_X12_7 ?_
        refine i_iload_n C dX12_die_95 rfl (q := 2) rfl ?_
        refine i_iconst C dX12_die_96 kI_4 ?_
        refine i_iadd C dX12_die_97 ?_
        refine i_iconst C dX12_die_98 kI_m1 ?_
        refine i_ast C dX12_die_99 (shR_1 hX) (fun M16 => ?_)
        refine i_aload_n C dX12_die_100 rfl (q := 0) rfl ?_
        refine i_getR C (k := 0) kX12 dX12_die_101 (shR_0 hX) rfl (by decide) fl_X12_7 ?_
        refine i_iload_n C dX12_die_104 rfl (q := 2) rfl ?_
        refine i_iconst C dX12_die_105 kI_5 ?_
        refine i_iadd C dX12_die_106 ?_
        refine i_iconst C dX12_die_107 kI_m1 ?_
        refine i_ast C dX12_die_108 (shR_1 hX) (fun M17 => ?_)
        refine i_iconst C dX12_die_109 kI_1 ?_
        exact i_iret C hq dX12_die_110
      refine i_if_eq (tgt := 44) C dX12_die_33 (by decide) ?_ ?_
      · refine i_aload_n C dX12_die_44 rfl (q := 0) rfl ?_
        refine i_aload_n C dX12_die_45 rfl (q := 0) rfl ?_
        refine i_getR C (k := 0) kX12 dX12_die_46 (shR_0 hX) rfl (by decide) fl_X12_7 ?_
        refine i_iload_n C dX12_die_49 rfl (q := 2) rfl ?_
        refine i_iconst C dX12_die_50 kI_3 ?_
        refine i_iadd C dX12_die_51 ?_
        refine i_ald C dX12_die_52 (shR_1 hX) (fun v18 => ?_)
        refine i_cI (kc' := 0) (ks' := 0) 0 0 2 (fun q hq hM hS => crV C (as := [aI v18]) dX12_die_53.1 kX12 (shR_0 hX) ml_X12_96 cal_X12_sideOf cv_X12_sideOf (hRm ⟨Nat.le_of_ble_eq_true rfl, Nat.le_of_ble_eq_true rfl⟩) rfl (Nat.le_of_ble_eq_true rfl) (c_X12_sideOf (xl X) (xG X) hX hM ⟨hS.2.1, hS.1, trivial⟩ hq)) (Nat.le_of_ble_eq_true rfl) (Nat.le_of_ble_eq_true rfl) rfl rfl rfl rfl (fun v20 M19 => ?_)
        exact (hj10 v20 M19)
      · refine i_aload_n C dX12_die_36 rfl (q := 0) rfl ?_
        refine i_iload_n C dX12_die_37 rfl (q := 1) rfl ?_
        refine i_cI (kc' := 0) (ks' := 0) 0 0 2 (fun q hq hM hS => crV C (as := [aI x1]) dX12_die_38.1 kX12 (shR_0 hX) ml_X12_135 cal_X12_ownSide cv_X12_ownSide (hRm ⟨Nat.le_of_ble_eq_true rfl, Nat.le_of_ble_eq_true rfl⟩) rfl (Nat.le_of_ble_eq_true rfl) (c_X12_ownSide (xl X) (xG X) hX hM ⟨hS.2.1, hS.1, trivial⟩ hq)) (Nat.le_of_ble_eq_true rfl) (Nat.le_of_ble_eq_true rfl) rfl rfl rfl rfl (fun v22 M21 => ?_)
        refine i_goto (tgt := 56) C dX12_die_41 (by decide) ?_
        exact (hj10 v22 M21)
    · refine i_ldc C dX12_die_19 kc_X12_132 kI_m1000000002 ?_
      exact i_iret C hq dX12_die_21
  · refine i_ldc C dX12_die_8 kc_X12_102 kI_m1000000001 ?_
    exact i_iret C hq dX12_die_10
set_option maxRecDepth 100000 in
set_option maxHeartbeats 4000000 in
theorem c_X12_fits (l : Launch) (G : Gx) {K : Kx} (hK : K = kR) {x1 : Int} {x2 : Int} {M : Mem} {res : Int × Mem} (hM : OkM M) (ha : okS [aR 0, aI x1, aI x2]) (hF : rM_fits x1 x2 M = some res) : Ct l G K yX12_fits (wsM yX12_fits cX12_fits 3 (some .boolean)) rmX12_fits [aR 0, aI x1, aI x2] M (some (aI res.1)) res.2 := by
  refine ct_of RX12 (by decide +kernel) rfl (hK ▸ kR_ok) hM ha (Nat.le_of_ble_eq_true rfl) hF ?_
  intro X C hl hG hX hN hR hq
  have hX : xK X = kR := hX.trans hK
  show Im X 0 0 0 [(0, aR 0), (1, aI x1), (2, aI x2)] [] M res (rM_fits x1 x2 M)
  unfold rM_fits
  have hRm : ∀ {rm : Room} {ny : Nat}, RmOk rmX12_fits rm ny → RmOk (xR X) rm ny := fun h => by rw [hR]; exact h
  refine i_iload_n C dX12_fits_0 rfl (q := 1) rfl ?_
  refine i_split (fun e3 => ?_) (fun e3 => ?_)
  · refine i_tswIn (tgt := 36) C dX12_fits_1 e3 (by decide) (by decide) rfl (by decide) ?_
    refine i_iload_n C dX12_fits_36 rfl (q := 2) rfl ?_
    refine i_i2l C dX12_fits_37 ?_
    refine i_lconst C dX12_fits_38 kL_0 ?_
    refine i_ldc2 C dX12_fits_39 k2_X12_138 kJ_9 ?_
    refine i_cI (kc' := 0) (ks' := 0) 0 0 3 (fun q hq hM hS => crS C (as := [aL x2, aL 0, aL 9]) dX12_fits_42.1 ml_X12_78 cal_X12_isIn st_X12_isIn (hRm ⟨Nat.le_of_ble_eq_true rfl, Nat.le_of_ble_eq_true rfl⟩) rfl (Nat.le_of_ble_eq_true rfl) (c_X12_isIn (xl X) (xG X) hX hM ⟨hS.2.2.1, hS.2.1, hS.1, trivial⟩ hq)) (Nat.le_of_ble_eq_true rfl) (Nat.le_of_ble_eq_true rfl) rfl rfl rfl rfl (fun v2 M1 => ?_)
    exact i_zretQ C hq dX12_fits_45
  refine i_split (fun e4 => ?_) (fun e4 => ?_)
  · refine i_tswIn (tgt := 76) C dX12_fits_1 e4 (by decide) (by decide) rfl (by decide) ?_
    refine i_iload_n C dX12_fits_76 rfl (q := 2) rfl ?_
    refine i_if_ne (tgt := 84) C dX12_fits_77 (by decide) ?_ ?_
    · refine i_iconst C dX12_fits_84 kI_0 ?_
      exact i_zret C hq dX12_fits_85 (Or.inl rfl)
    · refine i_iconst C dX12_fits_80 kI_1 ?_
      refine i_goto (tgt := 85) C dX12_fits_81 (by decide) ?_
      exact i_zret C hq dX12_fits_85 (Or.inr rfl)
  refine i_split (fun e7 => ?_) (fun e7 => ?_)
  · refine i_tswIn (tgt := 46) C dX12_fits_1 e7 (by decide) (by decide) rfl (by decide) ?_
    refine i_iload_n C dX12_fits_46 rfl (q := 2) rfl ?_
    refine i_i2l C dX12_fits_47 ?_
    refine i_lconst C dX12_fits_48 kL_0 ?_
    refine i_ldc2 C dX12_fits_49 k2_X12_109 kJ_9999 ?_
    refine i_cI (kc' := 0) (ks' := 0) 0 0 3 (fun q hq hM hS => crS C (as := [aL x2, aL 0, aL 9999]) dX12_fits_52.1 ml_X12_78 cal_X12_isIn st_X12_isIn (hRm ⟨Nat.le_of_ble_eq_true rfl, Nat.le_of_ble_eq_true rfl⟩) rfl (Nat.le_of_ble_eq_true rfl) (c_X12_isIn (xl X) (xG X) hX hM ⟨hS.2.2.1, hS.2.1, hS.1, trivial⟩ hq)) (Nat.le_of_ble_eq_true rfl) (Nat.le_of_ble_eq_true rfl) rfl rfl rfl rfl (fun v6 M5 => ?_)
    exact i_zretQ C hq dX12_fits_55
  refine i_split (fun e10 => ?_) (fun e10 => ?_)
  · refine i_tswIn (tgt := 56) C dX12_fits_1 e10 (by decide) (by decide) rfl (by decide) ?_
    refine i_iload_n C dX12_fits_56 rfl (q := 2) rfl ?_
    refine i_i2l C dX12_fits_57 ?_
    refine i_lconst C dX12_fits_58 kL_0 ?_
    refine i_ldc2 C dX12_fits_59 k2_X12_140 kJ_60 ?_
    refine i_cI (kc' := 0) (ks' := 0) 0 0 3 (fun q hq hM hS => crS C (as := [aL x2, aL 0, aL 60]) dX12_fits_62.1 ml_X12_78 cal_X12_isIn st_X12_isIn (hRm ⟨Nat.le_of_ble_eq_true rfl, Nat.le_of_ble_eq_true rfl⟩) rfl (Nat.le_of_ble_eq_true rfl) (c_X12_isIn (xl X) (xG X) hX hM ⟨hS.2.2.1, hS.2.1, hS.1, trivial⟩ hq)) (Nat.le_of_ble_eq_true rfl) (Nat.le_of_ble_eq_true rfl) rfl rfl rfl rfl (fun v9 M8 => ?_)
    exact i_zretQ C hq dX12_fits_65
  refine i_split (fun e13 => ?_) (fun e13 => ?_)
  · refine i_tswIn (tgt := 66) C dX12_fits_1 e13 (by decide) (by decide) rfl (by decide) ?_
    refine i_iload_n C dX12_fits_66 rfl (q := 2) rfl ?_
    refine i_i2l C dX12_fits_67 ?_
    refine i_lconst C dX12_fits_68 kL_1 ?_
    refine i_ldc2 C dX12_fits_69 k2_X12_138 kJ_9 ?_
    refine i_cI (kc' := 0) (ks' := 0) 0 0 3 (fun q hq hM hS => crS C (as := [aL x2, aL 1, aL 9]) dX12_fits_72.1 ml_X12_78 cal_X12_isIn st_X12_isIn (hRm ⟨Nat.le_of_ble_eq_true rfl, Nat.le_of_ble_eq_true rfl⟩) rfl (Nat.le_of_ble_eq_true rfl) (c_X12_isIn (xl X) (xG X) hX hM ⟨hS.2.2.1, hS.2.1, hS.1, trivial⟩ hq)) (Nat.le_of_ble_eq_true rfl) (Nat.le_of_ble_eq_true rfl) rfl rfl rfl rfl (fun v12 M11 => ?_)
    exact i_zretQ C hq dX12_fits_75
  refine i_tswOut (tgt := 76) C dX12_fits_1 (by omega) (by decide) ?_
  refine i_iload_n C dX12_fits_76 rfl (q := 2) rfl ?_
  refine i_if_ne (tgt := 84) C dX12_fits_77 (by decide) ?_ ?_
  · refine i_iconst C dX12_fits_84 kI_0 ?_
    exact i_zret C hq dX12_fits_85 (Or.inl rfl)
  · refine i_iconst C dX12_fits_80 kI_1 ?_
    refine i_goto (tgt := 85) C dX12_fits_81 (by decide) ?_
    exact i_zret C hq dX12_fits_85 (Or.inr rfl)
set_option maxRecDepth 100000 in
set_option maxHeartbeats 4000000 in
theorem w_X12_newTie_15 {X : Xc} (C : Cx X RX12 cX12_newTie (some .int)) (hX : xK X = kR) (hN : xn X = 7) (hR : xR X = rmX12_newTie) {res : Int × Mem} (hq : Rq X (some (aI res.1)) res.2) (y1 : Int) (y2 : Int) (y3 : Int) (y4 : Int) (y5 : Int) {k39 : Mem → Option (Int × Mem)} (hk39 : ∀ (M : Mem), Im X 0 0 39 [(0, aR 0), (1, aI y1), (2, aI y2), (3, aI y3), (4, aI y4), (5, aI y5)] [] M res (k39 M)) : ∀ (n : Nat) (u6 : Int) (M : Mem), Im X 0 0 15 [(0, aR 0), (1, aI y1), (2, aI y2), (3, aI y3), (4, aI y4), (5, aI y5), (6, aI u6)] [] M res (lpX12_newTie_15 y1 y2 y3 y4 y5 k39 n u6 M) := by
  have hl5 : 5 < xn X := by rw [hN]; decide
  have hl6 : 6 < xn X := by rw [hN]; decide
  have hRm : ∀ {rm : Room} {ny : Nat}, RmOk rmX12_newTie rm ny → RmOk (xR X) rm ny := fun h => by rw [hR]; exact h
  intro n
  induction n with
  | zero => intro _ _; exact i_none
  | succ n ih =>
    intro u6 M
    unfold lpX12_newTie_15
    refine i_iload C dX12_newTie_15 (q := 6) rfl ?_
    refine i_bipush C dX12_newTie_17 kB_10 ?_
    refine i_icmp_ge (tgt := 39) C dX12_newTie_19 (by decide) ?_ ?_
    · exact i_sub [0, 1, 2, 3, 4, 5] rfl (hk39  M)
    · refine i_aload_n C dX12_newTie_22 rfl (q := 0) rfl ?_
      refine i_getR C (k := 0) kX12 dX12_newTie_23 (shR_0 hX) rfl (by decide) fl_X12_7 ?_
      refine i_iload C dX12_newTie_26 (q := 5) rfl ?_
      refine i_iload C dX12_newTie_28 (q := 6) rfl ?_
      refine i_iadd C dX12_newTie_30 ?_
      refine i_iconst C dX12_newTie_31 kI_0 ?_
      refine i_ast C dX12_newTie_32 (shR_1 hX) (fun M4 => ?_)
      refine i_iincN (L' := fun v5 => [(0, aR 0), (1, aI y1), (2, aI y2), (3, aI y3), (4, aI y4), (5, aI y5), (6, aI v5)]) C dX12_newTie_33 (q := 6) rfl hl6 (fun _ => rfl) (fun v5 => ?_)
      refine i_goto (tgt := 15) C dX12_newTie_36 (by decide) ?_
      exact (ih v5 M4)
set_option maxRecDepth 100000 in
set_option maxHeartbeats 4000000 in
theorem c_X12_newTie (l : Launch) (G : Gx) {K : Kx} (hK : K = kR) {x1 : Int} {x2 : Int} {x3 : Int} {x4 : Int} {M : Mem} {res : Int × Mem} (hM : OkM M) (ha : okS [aR 0, aI x1, aI x2, aI x3, aI x4]) (hF : rM_newTie x1 x2 x3 x4 M = some res) : Ct l G K yX12_newTie (wsM yX12_newTie cX12_newTie 7 (some .int)) rmX12_newTie [aR 0, aI x1, aI x2, aI x3, aI x4] M (some (aI res.1)) res.2 := by
  refine ct_of RX12 (by decide +kernel) rfl (hK ▸ kR_ok) hM ha (Nat.le_of_ble_eq_true rfl) hF ?_
  intro X C hl hG hX hN hR hq
  have hX : xK X = kR := hX.trans hK
  show Im X 0 0 0 [(0, aR 0), (1, aI x1), (2, aI x2), (3, aI x3), (4, aI x4)] [] M res (rM_newTie x1 x2 x3 x4 M)
  unfold rM_newTie
  have hl5 : 5 < xn X := by rw [hN]; decide
  have hl6 : 6 < xn X := by rw [hN]; decide
  have hRm : ∀ {rm : Room} {ny : Nat}, RmOk rmX12_newTie rm ny → RmOk (xR X) rm ny := fun h => by rw [hR]; exact h
  refine i_aload_n C dX12_newTie_0 rfl (q := 0) rfl ?_
  refine i_aload_n C dX12_newTie_1 rfl (q := 0) rfl ?_
  refine i_getR C (k := 0) kX12 dX12_newTie_2 (shR_0 hX) rfl (by decide) fl_X12_7 ?_
  refine i_iconst C dX12_newTie_5 kI_3 ?_
  refine i_ald C dX12_newTie_6 (shR_1 hX) (fun v1 => ?_)
  refine i_cI (kc' := 0) (ks' := 0) 0 0 2 (fun q hq hM hS => crV C (as := [aI v1]) dX12_newTie_7.1 kX12 (shR_0 hX) ml_X12_86 cal_X12_tieAt cv_X12_tieAt (hRm ⟨Nat.le_of_ble_eq_true rfl, Nat.le_of_ble_eq_true rfl⟩) rfl (Nat.le_of_ble_eq_true rfl) (c_X12_tieAt (xl X) (xG X) hX hM ⟨hS.2.1, hS.1, trivial⟩ hq)) (Nat.le_of_ble_eq_true rfl) (Nat.le_of_ble_eq_true rfl) rfl rfl rfl rfl (fun v3 M2 => ?_)
  refine i_istore C dX12_newTie_10 hl5 (L' := [(0, aR 0), (1, aI x1), (2, aI x2), (3, aI x3), (4, aI x4), (5, aI v3)]) rfl ?_
  refine i_iconst C dX12_newTie_12 kI_0 ?_
  refine i_istore C dX12_newTie_13 hl6 (L' := [(0, aR 0), (1, aI x1), (2, aI x2), (3, aI x3), (4, aI x4), (5, aI v3), (6, aI 0)]) rfl ?_
  refine (w_X12_newTie_15 C hX hN hR hq x1 x2 x3 x4 v3 (fun M6 => ?_) FU 0 M2)
  refine i_aload_n C dX12_newTie_39 rfl (q := 0) rfl ?_
  refine i_getR C (k := 0) kX12 dX12_newTie_40 (shR_0 hX) rfl (by decide) fl_X12_7 ?_
  refine i_iload C dX12_newTie_43 (q := 5) rfl ?_
  refine i_iload_n C dX12_newTie_45 rfl (q := 1) rfl ?_
  refine i_ast C dX12_newTie_46 (shR_1 hX) (fun M7 => ?_)
  refine i_aload_n C dX12_newTie_47 rfl (q := 0) rfl ?_
  refine i_getR C (k := 0) kX12 dX12_newTie_48 (shR_0 hX) rfl (by decide) fl_X12_7 ?_
  refine i_iload C dX12_newTie_51 (q := 5) rfl ?_
  refine i_iconst C dX12_newTie_53 kI_1 ?_
  refine i_iadd C dX12_newTie_54 ?_
  refine i_iload_n C dX12_newTie_55 rfl (q := 2) rfl ?_
  refine i_ast C dX12_newTie_56 (shR_1 hX) (fun M8 => ?_)
  refine i_aload_n C dX12_newTie_57 rfl (q := 0) rfl ?_
  refine i_getR C (k := 0) kX12 dX12_newTie_58 (shR_0 hX) rfl (by decide) fl_X12_7 ?_
  refine i_iload C dX12_newTie_61 (q := 5) rfl ?_
  refine i_iconst C dX12_newTie_63 kI_2 ?_
  refine i_iadd C dX12_newTie_64 ?_
  refine i_iload_n C dX12_newTie_65 rfl (q := 3) rfl ?_
  refine i_ast C dX12_newTie_66 (shR_1 hX) (fun M9 => ?_)
  refine i_aload_n C dX12_newTie_67 rfl (q := 0) rfl ?_
  refine i_getR C (k := 0) kX12 dX12_newTie_68 (shR_0 hX) rfl (by decide) fl_X12_7 ?_
  refine i_iload C dX12_newTie_71 (q := 5) rfl ?_
  refine i_iconst C dX12_newTie_73 kI_3 ?_
  refine i_iadd C dX12_newTie_74 ?_
  refine i_iload C dX12_newTie_75 (q := 4) rfl ?_
  refine i_ast C dX12_newTie_77 (shR_1 hX) (fun M10 => ?_)
  refine i_aload_n C dX12_newTie_78 rfl (q := 0) rfl ?_
  refine i_getR C (k := 0) kX12 dX12_newTie_79 (shR_0 hX) rfl (by decide) fl_X12_7 ?_
  refine i_iload C dX12_newTie_82 (q := 5) rfl ?_
  refine i_iconst C dX12_newTie_84 kI_5 ?_
  refine i_iadd C dX12_newTie_85 ?_
  refine i_iload_n C dX12_newTie_86 rfl (q := 1) rfl ?_
  refine i_iconst C dX12_newTie_87 kI_1 ?_
  refine i_jn (fun j => ∀ (p11 : Int) (M13 : Mem), Im X 0 0 97 [(0, aR 0), (5, aI v3)] [aI p11, aI (w32 (v3 + 5)), aR 1] M13 res (j p11 M13)) ?_ (fun j12 hj12 => ?_)
  · intro p11 M13
    refine i_ast C dX12_newTie_97 (shR_1 hX) (fun M14 => ?_)
    refine i_aload_n C dX12_newTie_98 rfl (q := 0) rfl ?_
    refine i_getR C (k := 0) kX12 dX12_newTie_99 (shR_0 hX) rfl (by decide) fl_X12_7 ?_
    refine i_iload C dX12_newTie_102 (q := 1) rfl ?_
    refine i_bipush C dX12_newTie_104 kB_8 ?_
    refine i_iadd C dX12_newTie_106 ?_
    refine i_iconst C dX12_newTie_107 kI_m1 ?_
    refine i_ast C dX12_newTie_108 (shR_1 hX) (fun M15 => ?_)
    refine i_aload_n C dX12_newTie_109 rfl (q := 0) rfl ?_
    refine i_getR C (k := 0) kX12 dX12_newTie_110 (shR_0 hX) rfl (by decide) fl_X12_7 ?_
    refine i_sipush C dX12_newTie_113 kS_630 ?_
    refine i_bipush C dX12_newTie_116 kB_17 ?_
    refine i_aload_n C dX12_newTie_118 rfl (q := 0) rfl ?_
    refine i_getR C (k := 0) kX12 dX12_newTie_119 (shR_0 hX) rfl (by decide) fl_X12_7 ?_
    refine i_iconst C dX12_newTie_122 kI_3 ?_
    refine i_ald C dX12_newTie_123 (shR_1 hX) (fun v16 => ?_)
    refine i_imul C dX12_newTie_124 ?_
    refine i_iadd C dX12_newTie_125 ?_
    refine i_iconst C dX12_newTie_126 kI_0 ?_
    refine i_ast C dX12_newTie_127 (shR_1 hX) (fun M17 => ?_)
    refine i_aload_n C dX12_newTie_128 rfl (q := 0) rfl ?_
    refine i_getR C (k := 0) kX12 dX12_newTie_129 (shR_0 hX) rfl (by decide) fl_X12_7 ?_
    refine i_iconst C dX12_newTie_132 kI_3 ?_
    refine i_dup2 C dX12_newTie_133 rfl rfl ?_
    refine i_ald C dX12_newTie_134 (shR_1 hX) (fun v18 => ?_)
    refine i_iconst C dX12_newTie_135 kI_1 ?_
    refine i_iadd C dX12_newTie_136 ?_
    refine i_ast C dX12_newTie_137 (shR_1 hX) (fun M19 => ?_)
    refine i_aload_n C dX12_newTie_138 rfl (q := 0) rfl ?_
    refine i_getR C (k := 0) kX12 dX12_newTie_139 (shR_0 hX) rfl (by decide) fl_X12_7 ?_
    refine i_iconst C dX12_newTie_142 kI_3 ?_
    refine i_ald C dX12_newTie_143 (shR_1 hX) (fun v20 => ?_)
    refine i_iconst C dX12_newTie_144 kI_1 ?_
    refine i_isub C dX12_newTie_145 ?_
    exact i_iret C hq dX12_newTie_146
  refine i_icmp_ne (tgt := 96) C dX12_newTie_88 (by decide) ?_ ?_
  · refine i_iconst C dX12_newTie_96 kI_0 ?_
    exact i_sub [0, 5] rfl (hj12 0 M10)
  · refine i_bipush C dX12_newTie_91 kB_23 ?_
    refine i_goto (tgt := 97) C dX12_newTie_93 (by decide) ?_
    exact i_sub [0, 5] rfl (hj12 23 M10)
set_option maxRecDepth 100000 in
set_option maxHeartbeats 4000000 in
theorem c_X12_tie (l : Launch) (G : Gx) {K : Kx} (hK : K = kR) {x1 : Int} {x2 : Int} {x3 : Int} {x4 : Int} {M : Mem} {res : Int × Mem} (hM : OkM M) (ha : okS [aR 0, aI x1, aI x2, aI x3, aI x4]) (hF : rM_tie x1 x2 x3 x4 M = some res) : Ct l G K yX12_tie (wsM yX12_tie cX12_tie 6 (some .int)) rmX12_tie [aR 0, aI x1, aI x2, aI x3, aI x4] M (some (aI res.1)) res.2 := by
  refine ct_of RX12 (by decide +kernel) rfl (hK ▸ kR_ok) hM ha (Nat.le_of_ble_eq_true rfl) hF ?_
  intro X C hl hG hX hN hR hq
  have hX : xK X = kR := hX.trans hK
  show Im X 0 0 0 [(0, aR 0), (1, aI x1), (2, aI x2), (3, aI x3), (4, aI x4)] [] M res (rM_tie x1 x2 x3 x4 M)
  unfold rM_tie
  have hl5 : 5 < xn X := by rw [hN]; decide
  have hRm : ∀ {rm : Room} {ny : Nat}, RmOk rmX12_tie rm ny → RmOk (xR X) rm ny := fun h => by rw [hR]; exact h
  refine i_iload_n C dX12_tie_0 rfl (q := 1) rfl ?_
  refine i_i2l C dX12_tie_1 ?_
  refine i_lconst C dX12_tie_2 kL_0 ?_
  refine i_ldc2 C dX12_tie_3 k2_X12_142 kJ_5 ?_
  refine i_cI (kc' := 0) (ks' := 0) 0 0 3 (fun q hq hM hS => crS C (as := [aL x1, aL 0, aL 5]) dX12_tie_6.1 ml_X12_78 cal_X12_isIn st_X12_isIn (hRm ⟨Nat.le_of_ble_eq_true rfl, Nat.le_of_ble_eq_true rfl⟩) rfl (Nat.le_of_ble_eq_true rfl) (c_X12_isIn (xl X) (xG X) hX hM ⟨hS.2.2.1, hS.2.1, hS.1, trivial⟩ hq)) (Nat.le_of_ble_eq_true rfl) (Nat.le_of_ble_eq_true rfl) rfl rfl rfl rfl (fun v2 M1 => ?_)
  refine i_jn (fun j => ∀ (p3 : Int) (M5 : Mem), Im X 0 0 62 [(0, aR 0), (1, aI x1), (2, aI x2), (3, aI x3), (4, aI x4)] [aI p3] M5 res (j p3 M5)) ?_ (fun j4 hj4 => ?_)
  · intro p3 M5
    refine i_istore C dX12_tie_62 hl5 (L' := [(0, aR 0), (1, aI x1), (2, aI x2), (3, aI x3), (4, aI x4), (5, aI p3)]) rfl ?_
    refine i_iload C dX12_tie_64 (q := 5) rfl ?_
    refine i_if_eq (tgt := 79) C dX12_tie_66 (by decide) ?_ ?_
    · refine i_ldc C dX12_tie_79 kc_X12_102 kI_m1000000001 ?_
      exact i_iret C hq dX12_tie_81
    · refine i_aload_n C dX12_tie_69 rfl (q := 0) rfl ?_
      refine i_iload_n C dX12_tie_70 rfl (q := 1) rfl ?_
      refine i_iload C dX12_tie_71 (q := 4) rfl ?_
      refine i_cI (kc' := 0) (ks' := 0) 0 0 3 (fun q hq hM hS => crV C (as := [aI x1, aI x4]) dX12_tie_73.1 kX12 (shR_0 hX) ml_X12_144 cal_X12_fits cv_X12_fits (hRm ⟨Nat.le_of_ble_eq_true rfl, Nat.le_of_ble_eq_true rfl⟩) rfl (Nat.le_of_ble_eq_true rfl) (c_X12_fits (xl X) (xG X) hX hM ⟨hS.2.2.1, hS.2.1, hS.1, trivial⟩ hq)) (Nat.le_of_ble_eq_true rfl) (Nat.le_of_ble_eq_true rfl) rfl rfl rfl rfl (fun v7 M6 => ?_)
      refine i_if_ne (tgt := 82) C dX12_tie_76 (by decide) ?_ ?_
      · refine i_aload_n C dX12_tie_82 rfl (q := 0) rfl ?_
        refine i_getR C (k := 0) kX12 dX12_tie_83 (shR_0 hX) rfl (by decide) fl_X12_7 ?_
        refine i_iconst C dX12_tie_86 kI_3 ?_
        refine i_ald C dX12_tie_87 (shR_1 hX) (fun v8 => ?_)
        refine i_bipush C dX12_tie_88 kB_40 ?_
        refine i_icmp_ne (tgt := 98) C dX12_tie_90 (by decide) ?_ ?_
        · refine i_aload_n C dX12_tie_98 rfl (q := 0) rfl ?_
          refine i_iload_n C dX12_tie_99 rfl (q := 1) rfl ?_
          refine i_iload_n C dX12_tie_100 rfl (q := 2) rfl ?_
          refine i_iload_n C dX12_tie_101 rfl (q := 3) rfl ?_
          refine i_iload C dX12_tie_102 (q := 4) rfl ?_
          refine i_cI (kc' := 0) (ks' := 0) 0 0 5 (fun q hq hM hS => crV C (as := [aI x1, aI x2, aI x3, aI x4]) dX12_tie_104.1 kX12 (shR_0 hX) ml_X12_148 cal_X12_newTie cv_X12_newTie (hRm ⟨Nat.le_of_ble_eq_true rfl, Nat.le_of_ble_eq_true rfl⟩) rfl (Nat.le_of_ble_eq_true rfl) (c_X12_newTie (xl X) (xG X) hX hM ⟨hS.2.2.2.2.1, hS.2.2.2.1, hS.2.2.1, hS.2.1, hS.1, trivial⟩ hq)) (Nat.le_of_ble_eq_true rfl) (Nat.le_of_ble_eq_true rfl) rfl rfl rfl rfl (fun v10 M9 => ?_)
          exact i_iret C hq dX12_tie_107
        · refine i_ldc C dX12_tie_93 kc_X12_103 kI_m1000000003 ?_
          refine i_goto (tgt := 107) C dX12_tie_95 (by decide) ?_
          exact i_iret C hq dX12_tie_107
      · refine i_ldc C dX12_tie_79 kc_X12_102 kI_m1000000001 ?_
        exact i_iret C hq dX12_tie_81
  refine i_jn (fun j => ∀  (M12 : Mem), Im X 0 0 61 [(0, aR 0), (1, aI x1), (2, aI x2), (3, aI x3), (4, aI x4)] [] M12 res (j  M12)) ?_ (fun j11 hj11 => ?_)
  · intro  M12
    refine i_iconst C dX12_tie_61 kI_0 ?_
    exact (hj4 0 M12)
  refine i_if_eq (tgt := 61) C dX12_tie_9 (by decide) ?_ ?_
  · exact (hj11  M1)
  · refine i_iload_n C dX12_tie_12 rfl (q := 2) rfl ?_
    refine i_iload_n C dX12_tie_13 rfl (q := 3) rfl ?_
    refine i_icmp_eq (tgt := 61) C dX12_tie_14 (by decide) ?_ ?_
    · exact (hj11  M1)
    · refine i_iload_n C dX12_tie_17 rfl (q := 1) rfl ?_
      refine i_iconst C dX12_tie_18 kI_5 ?_
      refine i_jn (fun j => ∀  (M14 : Mem), Im X 0 0 57 [(0, aR 0), (1, aI x1), (2, aI x2), (3, aI x3), (4, aI x4)] [] M14 res (j  M14)) ?_ (fun j13 hj13 => ?_)
      · intro  M14
        refine i_iconst C dX12_tie_57 kI_1 ?_
        refine i_goto (tgt := 62) C dX12_tie_58 (by decide) ?_
        exact (hj4 1 M14)
      refine i_icmp_ne (tgt := 41) C dX12_tie_19 (by decide) ?_ ?_
      · refine i_aload_n C dX12_tie_41 rfl (q := 0) rfl ?_
        refine i_iload_n C dX12_tie_42 rfl (q := 2) rfl ?_
        refine i_cI (kc' := 0) (ks' := 0) 0 0 2 (fun q hq hM hS => crV C (as := [aI x2]) dX12_tie_43.1 kX12 (shR_0 hX) ml_X12_104 cal_X12_isCell cv_X12_isCell (hRm ⟨Nat.le_of_ble_eq_true rfl, Nat.le_of_ble_eq_true rfl⟩) rfl (Nat.le_of_ble_eq_true rfl) (c_X12_isCell (xl X) (xG X) hX hM ⟨hS.2.1, hS.1, trivial⟩ hq)) (Nat.le_of_ble_eq_true rfl) (Nat.le_of_ble_eq_true rfl) rfl rfl rfl rfl (fun v16 M15 => ?_)
        refine i_if_eq (tgt := 61) C dX12_tie_46 (by decide) ?_ ?_
        · exact (hj11  M15)
        · refine i_aload_n C dX12_tie_49 rfl (q := 0) rfl ?_
          refine i_iload_n C dX12_tie_50 rfl (q := 3) rfl ?_
          refine i_cI (kc' := 0) (ks' := 0) 0 0 2 (fun q hq hM hS => crV C (as := [aI x3]) dX12_tie_51.1 kX12 (shR_0 hX) ml_X12_104 cal_X12_isCell cv_X12_isCell (hRm ⟨Nat.le_of_ble_eq_true rfl, Nat.le_of_ble_eq_true rfl⟩) rfl (Nat.le_of_ble_eq_true rfl) (c_X12_isCell (xl X) (xG X) hX hM ⟨hS.2.1, hS.1, trivial⟩ hq)) (Nat.le_of_ble_eq_true rfl) (Nat.le_of_ble_eq_true rfl) rfl rfl rfl rfl (fun v18 M17 => ?_)
          refine i_if_eq (tgt := 61) C dX12_tie_54 (by decide) ?_ ?_
          · exact (hj11  M17)
          · exact (hj13  M17)
      · refine i_aload_n C dX12_tie_22 rfl (q := 0) rfl ?_
        refine i_iload_n C dX12_tie_23 rfl (q := 2) rfl ?_
        refine i_cI (kc' := 0) (ks' := 0) 0 0 2 (fun q hq hM hS => crV C (as := [aI x2]) dX12_tie_24.1 kX12 (shR_0 hX) ml_X12_119 cal_X12_isPerson cv_X12_isPerson (hRm ⟨Nat.le_of_ble_eq_true rfl, Nat.le_of_ble_eq_true rfl⟩) rfl (Nat.le_of_ble_eq_true rfl) (c_X12_isPerson (xl X) (xG X) hX hM ⟨hS.2.1, hS.1, trivial⟩ hq)) (Nat.le_of_ble_eq_true rfl) (Nat.le_of_ble_eq_true rfl) rfl rfl rfl rfl (fun v20 M19 => ?_)
        refine i_if_eq (tgt := 61) C dX12_tie_27 (by decide) ?_ ?_
        · exact (hj11  M19)
        · refine i_aload_n C dX12_tie_30 rfl (q := 0) rfl ?_
          refine i_iload_n C dX12_tie_31 rfl (q := 3) rfl ?_
          refine i_cI (kc' := 0) (ks' := 0) 0 0 2 (fun q hq hM hS => crV C (as := [aI x3]) dX12_tie_32.1 kX12 (shR_0 hX) ml_X12_119 cal_X12_isPerson cv_X12_isPerson (hRm ⟨Nat.le_of_ble_eq_true rfl, Nat.le_of_ble_eq_true rfl⟩) rfl (Nat.le_of_ble_eq_true rfl) (c_X12_isPerson (xl X) (xG X) hX hM ⟨hS.2.1, hS.1, trivial⟩ hq)) (Nat.le_of_ble_eq_true rfl) (Nat.le_of_ble_eq_true rfl) rfl rfl rfl rfl (fun v22 M21 => ?_)
          refine i_if_eq (tgt := 61) C dX12_tie_35 (by decide) ?_ ?_
          · exact (hj11  M21)
          · refine i_goto (tgt := 57) C dX12_tie_38 (by decide) ?_
            exact (hj13  M21)
set_option maxRecDepth 100000 in
set_option maxHeartbeats 4000000 in
theorem c_X12_pass (l : Launch) (G : Gx) {K : Kx} (hK : K = kR) {x1 : Int} {x2 : Int} {x3 : Int} {x4 : Int} {M : Mem} {res : Int × Mem} (hM : OkM M) (ha : okS [aR 0, aI x1, aI x2, aI x3, aI x4]) (hF : rM_pass x1 x2 x3 x4 M = some res) : Ct l G K yX12_pass (wsM yX12_pass cX12_pass 7 (some .int)) rmX12_pass [aR 0, aI x1, aI x2, aI x3, aI x4] M (some (aI res.1)) res.2 := by
  refine ct_of RX12 (by decide +kernel) rfl (hK ▸ kR_ok) hM ha (Nat.le_of_ble_eq_true rfl) hF ?_
  intro X C hl hG hX hN hR hq
  have hX : xK X = kR := hX.trans hK
  show Im X 0 0 0 [(0, aR 0), (1, aI x1), (2, aI x2), (3, aI x3), (4, aI x4)] [] M res (rM_pass x1 x2 x3 x4 M)
  unfold rM_pass
  have hl5 : 5 < xn X := by rw [hN]; decide
  have hl6 : 6 < xn X := by rw [hN]; decide
  have hRm : ∀ {rm : Room} {ny : Nat}, RmOk rmX12_pass rm ny → RmOk (xR X) rm ny := fun h => by rw [hR]; exact h
  refine i_aload_n C dX12_pass_0 rfl (q := 0) rfl ?_
  refine i_iload_n C dX12_pass_1 rfl (q := 1) rfl ?_
  refine i_cI (kc' := 0) (ks' := 0) 0 0 2 (fun q hq hM hS => crV C (as := [aI x1]) dX12_pass_2.1 kX12 (shR_0 hX) ml_X12_119 cal_X12_isPerson cv_X12_isPerson (hRm ⟨Nat.le_of_ble_eq_true rfl, Nat.le_of_ble_eq_true rfl⟩) rfl (Nat.le_of_ble_eq_true rfl) (c_X12_isPerson (xl X) (xG X) hX hM ⟨hS.2.1, hS.1, trivial⟩ hq)) (Nat.le_of_ble_eq_true rfl) (Nat.le_of_ble_eq_true rfl) rfl rfl rfl rfl (fun v2 M1 => ?_)
  refine i_jn (fun j => ∀ (p3 : Int) (M5 : Mem), Im X 0 0 38 [(0, aR 0), (1, aI x1), (2, aI x2), (3, aI x3), (4, aI x4)] [aI p3] M5 res (j p3 M5)) ?_ (fun j4 hj4 => ?_)
  · intro p3 M5
    refine i_istore C dX12_pass_38 hl5 (L' := [(0, aR 0), (1, aI x1), (2, aI x2), (3, aI x3), (4, aI x4), (5, aI p3)]) rfl ?_
    refine i_iload C dX12_pass_40 (q := 5) rfl ?_
    refine i_if_eq (tgt := 85) C dX12_pass_42 (by decide) ?_ ?_
    · refine i_ldc C dX12_pass_85 kc_X12_102 kI_m1000000001 ?_
      exact i_iret C hq dX12_pass_87
    · refine i_iload C dX12_pass_45 (q := 4) rfl ?_
      refine i_sipush C dX12_pass_47 kS_1000 ?_
      refine i_idiv C dX12_pass_50 (by decide) ?_
      refine i_iload C dX12_pass_51 (q := 4) rfl ?_
      refine i_sipush C dX12_pass_53 kS_1000 ?_
      refine i_irem C dX12_pass_56 (by decide) ?_
      refine i_icmp_gt (tgt := 85) C dX12_pass_57 (by decide) ?_ ?_
      · refine i_ldc C dX12_pass_85 kc_X12_102 kI_m1000000001 ?_
        exact i_iret C hq dX12_pass_87
      · refine i_iload C dX12_pass_60 (q := 4) rfl ?_
        refine i_sipush C dX12_pass_62 kS_1000 ?_
        refine i_irem C dX12_pass_65 (by decide) ?_
        refine i_sipush C dX12_pass_66 kS_416 ?_
        refine i_icmp_gt (tgt := 85) C dX12_pass_69 (by decide) ?_ ?_
        · refine i_ldc C dX12_pass_85 kc_X12_102 kI_m1000000001 ?_
          exact i_iret C hq dX12_pass_87
        · refine i_aload_n C dX12_pass_72 rfl (q := 0) rfl ?_
          refine i_iload_n C dX12_pass_73 rfl (q := 1) rfl ?_
          refine i_cI (kc' := 0) (ks' := 0) 0 0 2 (fun q hq hM hS => crV C (as := [aI x1]) dX12_pass_74.1 kX12 (shR_0 hX) ml_X12_135 cal_X12_ownSide cv_X12_ownSide (hRm ⟨Nat.le_of_ble_eq_true rfl, Nat.le_of_ble_eq_true rfl⟩) rfl (Nat.le_of_ble_eq_true rfl) (c_X12_ownSide (xl X) (xG X) hX hM ⟨hS.2.1, hS.1, trivial⟩ hq)) (Nat.le_of_ble_eq_true rfl) (Nat.le_of_ble_eq_true rfl) rfl rfl rfl rfl (fun v7 M6 => ?_)
          refine i_aload_n C dX12_pass_77 rfl (q := 0) rfl ?_
          refine i_iload_n C dX12_pass_78 rfl (q := 2) rfl ?_
          refine i_cI (kc' := 0) (ks' := 0) 0 0 2 (fun q hq hM hS => crV C (as := [aI x2]) dX12_pass_79.1 kX12 (shR_0 hX) ml_X12_135 cal_X12_ownSide cv_X12_ownSide (hRm ⟨Nat.le_of_ble_eq_true rfl, Nat.le_of_ble_eq_true rfl⟩) rfl (Nat.le_of_ble_eq_true rfl) (c_X12_ownSide (xl X) (xG X) hX hM ⟨hS.2.1, hS.1, trivial⟩ hq)) (Nat.le_of_ble_eq_true rfl) (Nat.le_of_ble_eq_true rfl) rfl rfl rfl rfl (fun v9 M8 => ?_)
          refine i_icmp_ne (tgt := 88) C dX12_pass_82 (by decide) ?_ ?_
          · refine i_aload_n C dX12_pass_88 rfl (q := 0) rfl ?_
            refine i_getR C (k := 0) kX12 dX12_pass_89 (shR_0 hX) rfl (by decide) fl_X12_7 ?_
            refine i_iconst C dX12_pass_92 kI_3 ?_
            refine i_ald C dX12_pass_93 (shR_1 hX) (fun v10 => ?_)
            refine i_bipush C dX12_pass_94 kB_40 ?_
            refine i_icmp_ne (tgt := 102) C dX12_pass_96 (by decide) ?_ ?_
            · refine i_aload_n C dX12_pass_102 rfl (q := 0) rfl ?_
              refine i_bipush C dX12_pass_103 kB_6 ?_
              refine i_iload_n C dX12_pass_105 rfl (q := 1) rfl ?_
              refine i_iload_n C dX12_pass_106 rfl (q := 2) rfl ?_
              refine i_iload_n C dX12_pass_107 rfl (q := 3) rfl ?_
              refine i_cI (kc' := 0) (ks' := 0) 0 0 5 (fun q hq hM hS => crV C (as := [aI 6, aI x1, aI x2, aI x3]) dX12_pass_108.1 kX12 (shR_0 hX) ml_X12_148 cal_X12_newTie cv_X12_newTie (hRm ⟨Nat.le_of_ble_eq_true rfl, Nat.le_of_ble_eq_true rfl⟩) rfl (Nat.le_of_ble_eq_true rfl) (c_X12_newTie (xl X) (xG X) hX hM ⟨hS.2.2.2.2.1, hS.2.2.2.1, hS.2.2.1, hS.2.1, hS.1, trivial⟩ hq)) (Nat.le_of_ble_eq_true rfl) (Nat.le_of_ble_eq_true rfl) rfl rfl rfl rfl (fun v12 M11 => ?_)
              refine i_istore C dX12_pass_111 hl6 (L' := [(0, aR 0), (1, aI x1), (2, aI x2), (3, aI x3), (4, aI x4), (5, aI p3), (6, aI v12)]) rfl ?_
              refine i_aload_n C dX12_pass_113 rfl (q := 0) rfl ?_
              refine i_getR C (k := 0) kX12 dX12_pass_114 (shR_0 hX) rfl (by decide) fl_X12_7 ?_
              refine i_aload_n C dX12_pass_117 rfl (q := 0) rfl ?_
              refine i_iload C dX12_pass_118 (q := 6) rfl ?_
              refine i_cI (kc' := 0) (ks' := 0) 0 0 2 (fun q hq hM hS => crV C (as := [aI v12]) dX12_pass_120.1 kX12 (shR_0 hX) ml_X12_86 cal_X12_tieAt cv_X12_tieAt (hRm ⟨Nat.le_of_ble_eq_true rfl, Nat.le_of_ble_eq_true rfl⟩) rfl (Nat.le_of_ble_eq_true rfl) (c_X12_tieAt (xl X) (xG X) hX hM ⟨hS.2.1, hS.1, trivial⟩ hq)) (Nat.le_of_ble_eq_true rfl) (Nat.le_of_ble_eq_true rfl) rfl rfl rfl rfl (fun v14 M13 => ?_)
              refine i_iconst C dX12_pass_123 kI_4 ?_
              refine i_iadd C dX12_pass_124 ?_
              refine i_iload C dX12_pass_125 (q := 4) rfl ?_
              refine i_sipush C dX12_pass_127 kS_1000 ?_
              refine i_idiv C dX12_pass_130 (by decide) ?_
              refine i_ast C dX12_pass_131 (shR_1 hX) (fun M15 => ?_)
              refine i_aload_n C dX12_pass_132 rfl (q := 0) rfl ?_
              refine i_getR C (k := 0) kX12 dX12_pass_133 (shR_0 hX) rfl (by decide) fl_X12_7 ?_
              refine i_aload_n C dX12_pass_136 rfl (q := 0) rfl ?_
              refine i_iload C dX12_pass_137 (q := 6) rfl ?_
              refine i_cI (kc' := 0) (ks' := 0) 0 0 2 (fun q hq hM hS => crV C (as := [aI v12]) dX12_pass_139.1 kX12 (shR_0 hX) ml_X12_86 cal_X12_tieAt cv_X12_tieAt (hRm ⟨Nat.le_of_ble_eq_true rfl, Nat.le_of_ble_eq_true rfl⟩) rfl (Nat.le_of_ble_eq_true rfl) (c_X12_tieAt (xl X) (xG X) hX hM ⟨hS.2.1, hS.1, trivial⟩ hq)) (Nat.le_of_ble_eq_true rfl) (Nat.le_of_ble_eq_true rfl) rfl rfl rfl rfl (fun v17 M16 => ?_)
              refine i_iconst C dX12_pass_142 kI_5 ?_
              refine i_iadd C dX12_pass_143 ?_
              refine i_iload C dX12_pass_144 (q := 4) rfl ?_
              refine i_sipush C dX12_pass_146 kS_1000 ?_
              refine i_irem C dX12_pass_149 (by decide) ?_
              refine i_ast C dX12_pass_150 (shR_1 hX) (fun M18 => ?_)
              refine i_iload C dX12_pass_151 (q := 6) rfl ?_
              exact i_iret C hq dX12_pass_153
            · refine i_ldc C dX12_pass_99 kc_X12_103 kI_m1000000003 ?_
              exact i_iret C hq dX12_pass_101
          · refine i_ldc C dX12_pass_85 kc_X12_102 kI_m1000000001 ?_
            exact i_iret C hq dX12_pass_87
  refine i_jn (fun j => ∀  (M20 : Mem), Im X 0 0 37 [(0, aR 0), (1, aI x1), (2, aI x2), (3, aI x3), (4, aI x4)] [] M20 res (j  M20)) ?_ (fun j19 hj19 => ?_)
  · intro  M20
    refine i_iconst C dX12_pass_37 kI_0 ?_
    exact (hj4 0 M20)
  refine i_if_eq (tgt := 37) C dX12_pass_5 (by decide) ?_ ?_
  · exact (hj19  M1)
  · refine i_aload_n C dX12_pass_8 rfl (q := 0) rfl ?_
    refine i_iload_n C dX12_pass_9 rfl (q := 2) rfl ?_
    refine i_cI (kc' := 0) (ks' := 0) 0 0 2 (fun q hq hM hS => crV C (as := [aI x2]) dX12_pass_10.1 kX12 (shR_0 hX) ml_X12_119 cal_X12_isPerson cv_X12_isPerson (hRm ⟨Nat.le_of_ble_eq_true rfl, Nat.le_of_ble_eq_true rfl⟩) rfl (Nat.le_of_ble_eq_true rfl) (c_X12_isPerson (xl X) (xG X) hX hM ⟨hS.2.1, hS.1, trivial⟩ hq)) (Nat.le_of_ble_eq_true rfl) (Nat.le_of_ble_eq_true rfl) rfl rfl rfl rfl (fun v22 M21 => ?_)
    refine i_if_eq (tgt := 37) C dX12_pass_13 (by decide) ?_ ?_
    · exact (hj19  M21)
    · refine i_iload_n C dX12_pass_16 rfl (q := 3) rfl ?_
      refine i_i2l C dX12_pass_17 ?_
      refine i_lconst C dX12_pass_18 kL_1 ?_
      refine i_ldc2 C dX12_pass_19 k2_X12_115 kJ_99 ?_
      refine i_cI (kc' := 0) (ks' := 0) 0 0 3 (fun q hq hM hS => crS C (as := [aL x3, aL 1, aL 99]) dX12_pass_22.1 ml_X12_78 cal_X12_isIn st_X12_isIn (hRm ⟨Nat.le_of_ble_eq_true rfl, Nat.le_of_ble_eq_true rfl⟩) rfl (Nat.le_of_ble_eq_true rfl) (c_X12_isIn (xl X) (xG X) hX hM ⟨hS.2.2.1, hS.2.1, hS.1, trivial⟩ hq)) (Nat.le_of_ble_eq_true rfl) (Nat.le_of_ble_eq_true rfl) rfl rfl rfl rfl (fun v24 M23 => ?_)
      refine i_if_eq (tgt := 37) C dX12_pass_25 (by decide) ?_ ?_
      · exact (hj19  M23)
      · refine i_iload C dX12_pass_28 (q := 4) rfl ?_
        refine i_if_lt (tgt := 37) C dX12_pass_30 (by decide) ?_ ?_
        · exact (hj19  M23)
        · refine i_iconst C dX12_pass_33 kI_1 ?_
          refine i_goto (tgt := 38) C dX12_pass_34 (by decide) ?_
          exact (hj4 1 M23)
