set_option maxRecDepth 100000 in
set_option maxHeartbeats 4000000 in
theorem c_X12_isIn (l : Launch) (G : Gx) {K : Kx} (hK : K = kR) {x0 : Int} {x2 : Int} {x4 : Int} {M : Mem} {res : Int × Mem} (hM : OkM M) (ha : okS [aL x0, aL x2, aL x4]) (hF : rM_isIn x0 x2 x4 M = some res) : Ct l G K yX12_isIn (wsM yX12_isIn cX12_isIn 6 (some .boolean)) rmX12_isIn [aL x0, aL x2, aL x4] M (some (aI res.1)) res.2 := by
  refine ct_of RX12 (by decide +kernel) rfl (hK ▸ kR_ok) hM ha (Nat.le_of_ble_eq_true rfl) hF ?_
  intro X C hl hG hX0 hN hR hq
  have hX : xK X = kR := hX0.trans hK
  show Im X 0 0 0 [(0, aL x0), (2, aL x2), (4, aL x4)] [] M res (rM_isIn x0 x2 x4 M)
  unfold rM_isIn
  refine i_lload_n C dX12_isIn_0 rfl (q := 0) rfl ?_
  refine i_lload_n C dX12_isIn_1 rfl (q := 1) rfl ?_
  refine i_lcmp C dX12_isIn_2 ?_
  refine i_if_lt (tgt := 17) C dX12_isIn_3 (by decide) ?_ ?_
  · refine i_iconst C dX12_isIn_17 kI_0 ?_
    exact i_zret C hq dX12_isIn_18 (Or.inl rfl)
  · refine i_lload_n C dX12_isIn_6 rfl (q := 0) rfl ?_
    refine i_lload C dX12_isIn_7 (q := 2) rfl ?_
    refine i_lcmp C dX12_isIn_9 ?_
    refine i_if_gt (tgt := 17) C dX12_isIn_10 (by decide) ?_ ?_
    · refine i_iconst C dX12_isIn_17 kI_0 ?_
      exact i_zret C hq dX12_isIn_18 (Or.inl rfl)
    · refine i_iconst C dX12_isIn_13 kI_1 ?_
      refine i_goto (tgt := 18) C dX12_isIn_14 (by decide) ?_
      exact i_zret C hq dX12_isIn_18 (Or.inr rfl)
set_option maxRecDepth 100000 in
set_option maxHeartbeats 4000000 in
theorem c_X12_isLetter (l : Launch) (G : Gx) {K : Kx} (hK : K = kR) {x1 : Int} {M : Mem} {res : Int × Mem} (hM : OkM M) (ha : okS [aR 0, aI x1]) (hF : rM_isLetter x1 M = some res) : Ct l G K yX12_isLetter (wsM yX12_isLetter cX12_isLetter 2 (some .boolean)) rmX12_isLetter [aR 0, aI x1] M (some (aI res.1)) res.2 := by
  refine ct_of RX12 (by decide +kernel) rfl (hK ▸ kR_ok) hM ha (Nat.le_of_ble_eq_true rfl) hF ?_
  intro X C hl hG hX0 hN hR hq
  have hX : xK X = kR := hX0.trans hK
  show Im X 0 0 0 [(0, aR 0), (1, aI x1)] [] M res (rM_isLetter x1 M)
  unfold rM_isLetter
  have hRm : ∀ {rm : Room} {ny : Nat}, RmOk rmX12_isLetter rm ny → RmOk (xR X) rm ny := fun h => by rw [hR]; exact h
  refine i_iload_n C dX12_isLetter_0 rfl (q := 1) rfl ?_
  refine i_aload_n C dX12_isLetter_1 rfl (q := 0) rfl ?_
  refine i_getI C (k := 9) kX12 dX12_isLetter_2 (shR_0 hX) rfl (by decide) fl_X12_220 rfl ?_
  refine i_icmp_ge (tgt := 31) C dX12_isLetter_5 (by decide) ?_ ?_
  · refine i_iconst C dX12_isLetter_31 kI_0 ?_
    exact i_zret C hq dX12_isLetter_32 (Or.inl rfl)
  · refine i_aload_n C dX12_isLetter_8 rfl (q := 0) rfl ?_
    refine i_getR C (k := 8) kX12 dX12_isLetter_9 (shR_0 hX) rfl (by decide) fl_X12_31 ?_
    refine i_iload_n C dX12_isLetter_12 rfl (q := 1) rfl ?_
    refine i_ald C dX12_isLetter_13 (shR_8 hX) (fun v1 => ?_)
    refine i_i2l C dX12_isLetter_14 ?_
    refine i_ldc2 C dX12_isLetter_15 k2_X12_223 kJ_97 ?_
    refine i_ldc2 C dX12_isLetter_18 k2_X12_225 kJ_122 ?_
    refine i_cI (kc' := 0) (ks' := 0) 0 0 3 (fun q hq hM hS => crS C (as := [aL v1, aL 97, aL 122]) dX12_isLetter_21.1 ml_X12_78 cal_X12_isIn st_X12_isIn (hRm ⟨Nat.le_of_ble_eq_true rfl, Nat.le_of_ble_eq_true rfl⟩) rfl (Nat.le_of_ble_eq_true rfl) (c_X12_isIn (xl X) (xG X) hX hM ⟨hS.2.2.1, hS.2.1, hS.1, trivial⟩ hq)) (Nat.le_of_ble_eq_true rfl) (Nat.le_of_ble_eq_true rfl) rfl rfl rfl (fun v3 M2 => ?_)
    refine i_if_eq (tgt := 31) C dX12_isLetter_24 (by decide) ?_ ?_
    · refine i_iconst C dX12_isLetter_31 kI_0 ?_
      exact i_zret C hq dX12_isLetter_32 (Or.inl rfl)
    · refine i_iconst C dX12_isLetter_27 kI_1 ?_
      refine i_goto (tgt := 32) C dX12_isLetter_28 (by decide) ?_
      exact i_zret C hq dX12_isLetter_32 (Or.inr rfl)
set_option maxRecDepth 100000 in
set_option maxHeartbeats 4000000 in
theorem c_X12_isDigit (l : Launch) (G : Gx) {K : Kx} (hK : K = kR) {x1 : Int} {M : Mem} {res : Int × Mem} (hM : OkM M) (ha : okS [aR 0, aI x1]) (hF : rM_isDigit x1 M = some res) : Ct l G K yX12_isDigit (wsM yX12_isDigit cX12_isDigit 2 (some .boolean)) rmX12_isDigit [aR 0, aI x1] M (some (aI res.1)) res.2 := by
  refine ct_of RX12 (by decide +kernel) rfl (hK ▸ kR_ok) hM ha (Nat.le_of_ble_eq_true rfl) hF ?_
  intro X C hl hG hX0 hN hR hq
  have hX : xK X = kR := hX0.trans hK
  show Im X 0 0 0 [(0, aR 0), (1, aI x1)] [] M res (rM_isDigit x1 M)
  unfold rM_isDigit
  have hRm : ∀ {rm : Room} {ny : Nat}, RmOk rmX12_isDigit rm ny → RmOk (xR X) rm ny := fun h => by rw [hR]; exact h
  refine i_iload_n C dX12_isDigit_0 rfl (q := 1) rfl ?_
  refine i_aload_n C dX12_isDigit_1 rfl (q := 0) rfl ?_
  refine i_getI C (k := 9) kX12 dX12_isDigit_2 (shR_0 hX) rfl (by decide) fl_X12_220 rfl ?_
  refine i_icmp_ge (tgt := 31) C dX12_isDigit_5 (by decide) ?_ ?_
  · refine i_iconst C dX12_isDigit_31 kI_0 ?_
    exact i_zret C hq dX12_isDigit_32 (Or.inl rfl)
  · refine i_aload_n C dX12_isDigit_8 rfl (q := 0) rfl ?_
    refine i_getR C (k := 8) kX12 dX12_isDigit_9 (shR_0 hX) rfl (by decide) fl_X12_31 ?_
    refine i_iload_n C dX12_isDigit_12 rfl (q := 1) rfl ?_
    refine i_ald C dX12_isDigit_13 (shR_8 hX) (fun v1 => ?_)
    refine i_i2l C dX12_isDigit_14 ?_
    refine i_ldc2 C dX12_isDigit_15 k2_X12_227 kJ_48 ?_
    refine i_ldc2 C dX12_isDigit_18 k2_X12_229 kJ_57 ?_
    refine i_cI (kc' := 0) (ks' := 0) 0 0 3 (fun q hq hM hS => crS C (as := [aL v1, aL 48, aL 57]) dX12_isDigit_21.1 ml_X12_78 cal_X12_isIn st_X12_isIn (hRm ⟨Nat.le_of_ble_eq_true rfl, Nat.le_of_ble_eq_true rfl⟩) rfl (Nat.le_of_ble_eq_true rfl) (c_X12_isIn (xl X) (xG X) hX hM ⟨hS.2.2.1, hS.2.1, hS.1, trivial⟩ hq)) (Nat.le_of_ble_eq_true rfl) (Nat.le_of_ble_eq_true rfl) rfl rfl rfl (fun v3 M2 => ?_)
    refine i_if_eq (tgt := 31) C dX12_isDigit_24 (by decide) ?_ ?_
    · refine i_iconst C dX12_isDigit_31 kI_0 ?_
      exact i_zret C hq dX12_isDigit_32 (Or.inl rfl)
    · refine i_iconst C dX12_isDigit_27 kI_1 ?_
      refine i_goto (tgt := 32) C dX12_isDigit_28 (by decide) ?_
      exact i_zret C hq dX12_isDigit_32 (Or.inr rfl)
set_option maxRecDepth 100000 in
set_option maxHeartbeats 4000000 in
theorem w_X12_next_34 {X : Xc} (C : Cx X RX12 cX12_next none) (hX : xK X = kR) (hN : xn X = 3) (hR : xR X = rmX12_next) {res : Mem} (hq : Rq X none res) (y1 : Int) (y2 : Int) {k72 : Mem → Option (Mem)} (hk72 : ∀ (M : Mem), Im X 0 0 72 [(0, aR 0), (1, aI y1), (2, aI y2)] [] M res (k72 M)) : ∀ (n : Nat) (M : Mem), Im X 0 0 34 [(0, aR 0), (1, aI y1), (2, aI y2)] [] M res (lpX12_next_34 y1 y2 k72 n M) := by
  have hl1 : 1 < xn X := by rw [hN]; decide
  have hl2 : 2 < xn X := by rw [hN]; decide
  intro n
  induction n with
  | zero => intro _; exact i_none
  | succ n ih =>
    intro M
    unfold lpX12_next_34
    refine i_aload_n C dX12_next_34 rfl (q := 0) rfl ?_
    refine i_getI C (k := 11) kX12 dX12_next_35 (shR_0 hX) rfl (by decide) fl_X12_231 rfl ?_
    refine i_aload_n C dX12_next_38 rfl (q := 0) rfl ?_
    refine i_getI C (k := 9) kX12 dX12_next_39 (shR_0 hX) rfl (by decide) fl_X12_220 rfl ?_
    refine i_icmp_ge (tgt := 72) C dX12_next_42 (by decide) ?_ ?_
    · exact (hk72  M)
    · refine i_aload_n C dX12_next_45 rfl (q := 0) rfl ?_
      refine i_getR C (k := 8) kX12 dX12_next_46 (shR_0 hX) rfl (by decide) fl_X12_31 ?_
      refine i_aload_n C dX12_next_49 rfl (q := 0) rfl ?_
      refine i_getI C (k := 11) kX12 dX12_next_50 (shR_0 hX) rfl (by decide) fl_X12_231 rfl ?_
      refine i_ald C dX12_next_53 (shR_8 hX) (fun v5 => ?_)
      refine i_bipush C dX12_next_54 kB_32 ?_
      refine i_icmp_ne (tgt := 72) C dX12_next_56 (by decide) ?_ ?_
      · exact (hk72  M)
      · refine i_aload_n C dX12_next_59 rfl (q := 0) rfl ?_
        refine i_dup C dX12_next_60 rfl ?_
        refine i_getI C (k := 11) kX12 dX12_next_61 (shR_0 hX) rfl (by decide) fl_X12_231 rfl ?_
        refine i_iconst C dX12_next_64 kI_1 ?_
        refine i_iadd C dX12_next_65 ?_
        refine i_putI C (k := 11) kX12 dX12_next_66 (shR_0 hX) rfl (by decide) fl_X12_231 rfl rfl rfl rfl (fun M6 => ?_)
        refine i_goto (tgt := 34) C dX12_next_69 (by decide) ?_
        exact (ih  M6)
set_option maxRecDepth 100000 in
set_option maxHeartbeats 4000000 in
theorem w_X12_next_214 {X : Xc} (C : Cx X RX12 cX12_next none) (hX : xK X = kR) (hN : xn X = 3) (hR : xR X = rmX12_next) {res : Mem} (hq : Rq X none res) (y1 : Int) {k282 : Mem → Option (Mem)} (hk282 : ∀ (M : Mem), Im X 0 0 282 [(0, aR 0), (1, aI y1)] [] M res (k282 M)) : ∀ (n : Nat) (M : Mem), Im X 0 0 214 [(0, aR 0), (1, aI y1)] [] M res (lpX12_next_214 y1 k282 n M) := by
  have hl1 : 1 < xn X := by rw [hN]; decide
  have hl2 : 2 < xn X := by rw [hN]; decide
  have hRm : ∀ {rm : Room} {ny : Nat}, RmOk rmX12_next rm ny → RmOk (xR X) rm ny := fun h => by rw [hR]; exact h
  intro n
  induction n with
  | zero => intro _; exact i_none
  | succ n ih =>
    intro M
    unfold lpX12_next_214
    refine i_aload_n C dX12_next_214 rfl (q := 0) rfl ?_
    refine i_aload_n C dX12_next_215 rfl (q := 0) rfl ?_
    refine i_getI C (k := 11) kX12 dX12_next_216 (shR_0 hX) rfl (by decide) fl_X12_231 rfl ?_
    refine i_cI (kc' := 0) (ks' := 0) 0 0 2 (fun q hq hM hS => crV C (as := [aI (M 0 11)]) dX12_next_219.1 kX12 (shR_0 hX) ml_X12_246 cal_X12_isDigit cv_X12_isDigit (hRm ⟨Nat.le_of_ble_eq_true rfl, Nat.le_of_ble_eq_true rfl⟩) rfl (Nat.le_of_ble_eq_true rfl) (c_X12_isDigit (xl X) (xG X) hX hM ⟨hS.2.1, hS.1, trivial⟩ hq)) (Nat.le_of_ble_eq_true rfl) (Nat.le_of_ble_eq_true rfl) rfl rfl rfl (fun v22 M21 => ?_)
    refine i_if_eq (tgt := 282) C dX12_next_222 (by decide) ?_ ?_
    · exact (hk282  M21)
    · refine i_aload_n C dX12_next_225 rfl (q := 0) rfl ?_
      refine i_aload_n C dX12_next_226 rfl (q := 0) rfl ?_
      refine i_getI C (k := 11) kX12 dX12_next_227 (shR_0 hX) rfl (by decide) fl_X12_231 rfl ?_
      refine i_aload_n C dX12_next_230 rfl (q := 0) rfl ?_
      refine i_getI C (k := 10) kX12 dX12_next_231 (shR_0 hX) rfl (by decide) fl_X12_237 rfl ?_
      refine i_isub C dX12_next_234 ?_
      refine i_iconst C dX12_next_235 kI_4 ?_
      refine i_jn (fun j => ∀ (p23 : Int) (M25 : Mem), Im X 0 0 266 [(0, aR 0), (1, aI y1)] [aI p23, aR 0] M25 res (j p23 M25)) ?_ (fun j24 hj24 => ?_)
      · intro p23 M25
        refine i_putI C (k := 13) kX12 dX12_next_266 (shR_0 hX) rfl (by decide) fl_X12_249 rfl rfl rfl rfl (fun M26 => ?_)
        refine i_aload_n C dX12_next_269 rfl (q := 0) rfl ?_
        refine i_dup C dX12_next_270 rfl ?_
        refine i_getI C (k := 11) kX12 dX12_next_271 (shR_0 hX) rfl (by decide) fl_X12_231 rfl ?_
        refine i_iconst C dX12_next_274 kI_1 ?_
        refine i_iadd C dX12_next_275 ?_
        refine i_putI C (k := 11) kX12 dX12_next_276 (shR_0 hX) rfl (by decide) fl_X12_231 rfl rfl rfl rfl (fun M27 => ?_)
        refine i_goto (tgt := 214) C dX12_next_279 (by decide) ?_
        exact (ih  M27)
      refine i_icmp_ge (tgt := 262) C dX12_next_236 (by decide) ?_ ?_
      · refine i_aload_n C dX12_next_262 rfl (q := 0) rfl ?_
        refine i_getI C (k := 13) kX12 dX12_next_263 (shR_0 hX) rfl (by decide) fl_X12_249 rfl ?_
        exact (hj24 (M21 0 13) M21)
      · refine i_bipush C dX12_next_239 kB_10 ?_
        refine i_aload_n C dX12_next_241 rfl (q := 0) rfl ?_
        refine i_getI C (k := 13) kX12 dX12_next_242 (shR_0 hX) rfl (by decide) fl_X12_249 rfl ?_
        refine i_imul C dX12_next_245 ?_
        refine i_aload_n C dX12_next_246 rfl (q := 0) rfl ?_
        refine i_getR C (k := 8) kX12 dX12_next_247 (shR_0 hX) rfl (by decide) fl_X12_31 ?_
        refine i_aload_n C dX12_next_250 rfl (q := 0) rfl ?_
        refine i_getI C (k := 11) kX12 dX12_next_251 (shR_0 hX) rfl (by decide) fl_X12_231 rfl ?_
        refine i_ald C dX12_next_254 (shR_8 hX) (fun v28 => ?_)
        refine i_iadd C dX12_next_255 ?_
        refine i_bipush C dX12_next_256 kB_48 ?_
        refine i_isub C dX12_next_258 ?_
        refine i_goto (tgt := 266) C dX12_next_259 (by decide) ?_
        exact (hj24 (w32 ((w32 ((w32 (10 * (M21 0 13))) + v28)) - 48)) M21)
set_option maxRecDepth 100000 in
set_option maxHeartbeats 4000000 in
theorem w_X12_next_128 {X : Xc} (C : Cx X RX12 cX12_next none) (hX : xK X = kR) (hN : xn X = 3) (hR : xR X = rmX12_next) {res : Mem} (hq : Rq X none res) (y1 : Int) {k152 : Mem → Option (Mem)} (hk152 : ∀ (M : Mem), Im X 0 0 152 [(0, aR 0), (1, aI y1)] [] M res (k152 M)) : ∀ (n : Nat) (M : Mem), Im X 0 0 128 [(0, aR 0), (1, aI y1)] [] M res (lpX12_next_128 y1 k152 n M) := by
  have hl1 : 1 < xn X := by rw [hN]; decide
  have hl2 : 2 < xn X := by rw [hN]; decide
  have hRm : ∀ {rm : Room} {ny : Nat}, RmOk rmX12_next rm ny → RmOk (xR X) rm ny := fun h => by rw [hR]; exact h
  intro n
  induction n with
  | zero => intro _; exact i_none
  | succ n ih =>
    intro M
    unfold lpX12_next_128
    refine i_aload_n C dX12_next_128 rfl (q := 0) rfl ?_
    refine i_aload_n C dX12_next_129 rfl (q := 0) rfl ?_
    refine i_getI C (k := 11) kX12 dX12_next_130 (shR_0 hX) rfl (by decide) fl_X12_231 rfl ?_
    refine i_cI (kc' := 0) (ks' := 0) 0 0 2 (fun q hq hM hS => crV C (as := [aI (M 0 11)]) dX12_next_133.1 kX12 (shR_0 hX) ml_X12_240 cal_X12_isLetter cv_X12_isLetter (hRm ⟨Nat.le_of_ble_eq_true rfl, Nat.le_of_ble_eq_true rfl⟩) rfl (Nat.le_of_ble_eq_true rfl) (c_X12_isLetter (xl X) (xG X) hX hM ⟨hS.2.1, hS.1, trivial⟩ hq)) (Nat.le_of_ble_eq_true rfl) (Nat.le_of_ble_eq_true rfl) rfl rfl rfl (fun v35 M34 => ?_)
    refine i_if_eq (tgt := 152) C dX12_next_136 (by decide) ?_ ?_
    · exact (hk152  M34)
    · refine i_aload_n C dX12_next_139 rfl (q := 0) rfl ?_
      refine i_dup C dX12_next_140 rfl ?_
      refine i_getI C (k := 11) kX12 dX12_next_141 (shR_0 hX) rfl (by decide) fl_X12_231 rfl ?_
      refine i_iconst C dX12_next_144 kI_1 ?_
      refine i_iadd C dX12_next_145 ?_
      refine i_putI C (k := 11) kX12 dX12_next_146 (shR_0 hX) rfl (by decide) fl_X12_231 rfl rfl rfl rfl (fun M36 => ?_)
      refine i_goto (tgt := 128) C dX12_next_149 (by decide) ?_
      exact (ih  M36)
set_option maxRecDepth 100000 in
set_option maxHeartbeats 4000000 in
theorem c_X12_next (l : Launch) (G : Gx) {K : Kx} (hK : K = kR) {M : Mem} {res : Mem} (hM : OkM M) (ha : okS [aR 0]) (hF : rM_next M = some res) : Ct l G K yX12_next (wsM yX12_next cX12_next 3 none) rmX12_next [aR 0] M none res := by
  refine ct_of RX12 (by decide +kernel) rfl (hK ▸ kR_ok) hM ha (Nat.le_of_ble_eq_true rfl) hF ?_
  intro X C hl hG hX0 hN hR hq
  have hX : xK X = kR := hX0.trans hK
  show Im X 0 0 0 [(0, aR 0)] [] M res (rM_next  M)
  unfold rM_next
  have hl1 : 1 < xn X := by rw [hN]; decide
  have hl2 : 2 < xn X := by rw [hN]; decide
  have hRm : ∀ {rm : Room} {ny : Nat}, RmOk rmX12_next rm ny → RmOk (xR X) rm ny := fun h => by rw [hR]; exact h
  refine i_aload_n C dX12_next_0 rfl (q := 0) rfl ?_
  refine i_getI C (k := 11) kX12 dX12_next_1 (shR_0 hX) rfl (by decide) fl_X12_231 rfl ?_
  refine i_jn (fun j => ∀ (p1 : Int) (M3 : Mem), Im X 0 0 28 [(0, aR 0)] [aI p1] M3 res (j p1 M3)) ?_ (fun j2 hj2 => ?_)
  · intro p1 M3
    refine i_istore_n C dX12_next_28 rfl hl1 (L' := [(0, aR 0), (1, aI p1)]) rfl ?_
    refine i_aload_n C dX12_next_29 rfl (q := 0) rfl ?_
    refine i_getI C (k := 11) kX12 dX12_next_30 (shR_0 hX) rfl (by decide) fl_X12_231 rfl ?_
    refine i_nm (fun v4 => ?_)
    refine i_istore_n C dX12_next_33 rfl hl2 (L' := [(0, aR 0), (1, aI p1), (2, aI v4)]) rfl ?_
    refine (w_X12_next_34 C hX hN hR hq p1 v4 (fun M7 => ?_) FU M3)
    refine i_iload_n C dX12_next_72 rfl (q := 1) rfl ?_
    refine i_jn (fun j => ∀ (p8 : Int) (M10 : Mem), Im X 0 0 89 [(0, aR 0)] [aI p8] M10 res (j p8 M10)) ?_ (fun j9 hj9 => ?_)
    · intro p8 M10
      refine i_istore_n C dX12_next_89 rfl hl1 (L' := [(0, aR 0), (1, aI p8)]) rfl ?_
      refine i_aload_n C dX12_next_90 rfl (q := 0) rfl ?_
      refine i_aload_n C dX12_next_91 rfl (q := 0) rfl ?_
      refine i_getI C (k := 11) kX12 dX12_next_92 (shR_0 hX) rfl (by decide) fl_X12_231 rfl ?_
      refine i_putI C (k := 10) kX12 dX12_next_95 (shR_0 hX) rfl (by decide) fl_X12_237 rfl rfl rfl rfl (fun M11 => ?_)
      refine i_aload_n C dX12_next_98 rfl (q := 0) rfl ?_
      refine i_getI C (k := 10) kX12 dX12_next_99 (shR_0 hX) rfl (by decide) fl_X12_237 rfl ?_
      refine i_aload_n C dX12_next_102 rfl (q := 0) rfl ?_
      refine i_getI C (k := 9) kX12 dX12_next_103 (shR_0 hX) rfl (by decide) fl_X12_220 rfl ?_
      refine i_icmp_ne (tgt := 117) C dX12_next_106 (by decide) ?_ ?_
      · refine i_aload_n C dX12_next_117 rfl (q := 0) rfl ?_
        refine i_aload_n C dX12_next_118 rfl (q := 0) rfl ?_
        refine i_getI C (k := 10) kX12 dX12_next_119 (shR_0 hX) rfl (by decide) fl_X12_237 rfl ?_
        refine i_cI (kc' := 0) (ks' := 0) 0 0 2 (fun q hq hM hS => crV C (as := [aI (M11 0 10)]) dX12_next_122.1 kX12 (shR_0 hX) ml_X12_240 cal_X12_isLetter cv_X12_isLetter (hRm ⟨Nat.le_of_ble_eq_true rfl, Nat.le_of_ble_eq_true rfl⟩) rfl (Nat.le_of_ble_eq_true rfl) (c_X12_isLetter (xl X) (xG X) hX hM ⟨hS.2.1, hS.1, trivial⟩ hq)) (Nat.le_of_ble_eq_true rfl) (Nat.le_of_ble_eq_true rfl) rfl rfl rfl (fun v13 M12 => ?_)
        refine i_if_eq (tgt := 198) C dX12_next_125 (by decide) ?_ ?_
        · refine i_aload_n C dX12_next_198 rfl (q := 0) rfl ?_
          refine i_aload_n C dX12_next_199 rfl (q := 0) rfl ?_
          refine i_getI C (k := 10) kX12 dX12_next_200 (shR_0 hX) rfl (by decide) fl_X12_237 rfl ?_
          refine i_cI (kc' := 0) (ks' := 0) 0 0 2 (fun q hq hM hS => crV C (as := [aI (M12 0 10)]) dX12_next_203.1 kX12 (shR_0 hX) ml_X12_246 cal_X12_isDigit cv_X12_isDigit (hRm ⟨Nat.le_of_ble_eq_true rfl, Nat.le_of_ble_eq_true rfl⟩) rfl (Nat.le_of_ble_eq_true rfl) (c_X12_isDigit (xl X) (xG X) hX hM ⟨hS.2.1, hS.1, trivial⟩ hq)) (Nat.le_of_ble_eq_true rfl) (Nat.le_of_ble_eq_true rfl) rfl rfl rfl (fun v15 M14 => ?_)
          refine i_if_eq (tgt := 311) C dX12_next_206 (by decide) ?_ ?_
          · refine i_aload_n C dX12_next_311 rfl (q := 0) rfl ?_
            refine i_iconst C dX12_next_312 kI_3 ?_
            refine i_putI C (k := 12) kX12 dX12_next_313 (shR_0 hX) rfl (by decide) fl_X12_234 rfl rfl rfl rfl (fun M16 => ?_)
            refine i_aload_n C dX12_next_316 rfl (q := 0) rfl ?_
            refine i_aload_n C dX12_next_317 rfl (q := 0) rfl ?_
            refine i_getR C (k := 8) kX12 dX12_next_318 (shR_0 hX) rfl (by decide) fl_X12_31 ?_
            refine i_aload_n C dX12_next_321 rfl (q := 0) rfl ?_
            refine i_getI C (k := 10) kX12 dX12_next_322 (shR_0 hX) rfl (by decide) fl_X12_237 rfl ?_
            refine i_ald C dX12_next_325 (shR_8 hX) (fun v17 => ?_)
            refine i_putI C (k := 14) kX12 dX12_next_326 (shR_0 hX) rfl (by decide) fl_X12_243 rfl rfl rfl rfl (fun M18 => ?_)
            refine i_aload_n C dX12_next_329 rfl (q := 0) rfl ?_
            refine i_dup C dX12_next_330 rfl ?_
            refine i_getI C (k := 11) kX12 dX12_next_331 (shR_0 hX) rfl (by decide) fl_X12_231 rfl ?_
            refine i_iconst C dX12_next_334 kI_1 ?_
            refine i_iadd C dX12_next_335 ?_
            refine i_putI C (k := 11) kX12 dX12_next_336 (shR_0 hX) rfl (by decide) fl_X12_231 rfl rfl rfl rfl (fun M19 => ?_)
            exact i_vret C hq dX12_next_339
          · refine i_aload_n C dX12_next_209 rfl (q := 0) rfl ?_
            refine i_iconst C dX12_next_210 kI_0 ?_
            refine i_putI C (k := 13) kX12 dX12_next_211 (shR_0 hX) rfl (by decide) fl_X12_249 rfl rfl rfl rfl (fun M20 => ?_)
            refine (w_X12_next_214 C hX hN hR hq p8 (fun M29 => ?_) FU M20)
            refine i_aload_n C dX12_next_282 rfl (q := 0) rfl ?_
            refine i_iload_n C dX12_next_283 rfl (q := 1) rfl ?_
            refine i_jn (fun j => ∀ (p30 : Int) (M32 : Mem), Im X 0 0 305 [] [aI p30, aR 0] M32 res (j p30 M32)) ?_ (fun j31 hj31 => ?_)
            · intro p30 M32
              refine i_putI C (k := 12) kX12 dX12_next_305 (shR_0 hX) rfl (by decide) fl_X12_234 rfl rfl rfl rfl (fun M33 => ?_)
              refine i_goto (tgt := 339) C dX12_next_308 (by decide) ?_
              exact i_vret C hq dX12_next_339
            refine i_if_ne (tgt := 300) C dX12_next_284 (by decide) ?_ ?_
            · refine i_iconst C dX12_next_300 kI_4 ?_
              refine i_goto (tgt := 305) C dX12_next_301 (by decide) ?_
              exact i_sub [] rfl (hj31 4 M29)
            · refine i_aload_n C dX12_next_287 rfl (q := 0) rfl ?_
              refine i_getI C (k := 11) kX12 dX12_next_288 (shR_0 hX) rfl (by decide) fl_X12_231 rfl ?_
              refine i_aload_n C dX12_next_291 rfl (q := 0) rfl ?_
              refine i_getI C (k := 10) kX12 dX12_next_292 (shR_0 hX) rfl (by decide) fl_X12_237 rfl ?_
              refine i_isub C dX12_next_295 ?_
              refine i_iconst C dX12_next_296 kI_4 ?_
              refine i_icmp_le (tgt := 304) C dX12_next_297 (by decide) ?_ ?_
              · refine i_iconst C dX12_next_304 kI_2 ?_
                exact i_sub [] rfl (hj31 2 M29)
              · refine i_iconst C dX12_next_300 kI_4 ?_
                refine i_goto (tgt := 305) C dX12_next_301 (by decide) ?_
                exact i_sub [] rfl (hj31 4 M29)
        · refine (w_X12_next_128 C hX hN hR hq p8 (fun M37 => ?_) FU M12)
          refine i_aload_n C dX12_next_152 rfl (q := 0) rfl ?_
          refine i_iload_n C dX12_next_153 rfl (q := 1) rfl ?_
          refine i_jn (fun j => ∀ (p38 : Int) (M40 : Mem), Im X 0 0 162 [(0, aR 0)] [aI p38, aR 0] M40 res (j p38 M40)) ?_ (fun j39 hj39 => ?_)
          · intro p38 M40
            refine i_putI C (k := 12) kX12 dX12_next_162 (shR_0 hX) rfl (by decide) fl_X12_234 rfl rfl rfl rfl (fun M41 => ?_)
            refine i_aload_n C dX12_next_165 rfl (q := 0) rfl ?_
            refine i_aload_n C dX12_next_166 rfl (q := 0) rfl ?_
            refine i_getI C (k := 11) kX12 dX12_next_167 (shR_0 hX) rfl (by decide) fl_X12_231 rfl ?_
            refine i_aload_n C dX12_next_170 rfl (q := 0) rfl ?_
            refine i_getI C (k := 10) kX12 dX12_next_171 (shR_0 hX) rfl (by decide) fl_X12_237 rfl ?_
            refine i_isub C dX12_next_174 ?_
            refine i_iconst C dX12_next_175 kI_1 ?_
            refine i_jn (fun j => ∀ (p42 : Int) (M44 : Mem), Im X 0 0 192 [] [aI p42, aR 0] M44 res (j p42 M44)) ?_ (fun j43 hj43 => ?_)
            · intro p42 M44
              refine i_putI C (k := 14) kX12 dX12_next_192 (shR_0 hX) rfl (by decide) fl_X12_243 rfl rfl rfl rfl (fun M45 => ?_)
              refine i_goto (tgt := 339) C dX12_next_195 (by decide) ?_
              exact i_vret C hq dX12_next_339
            refine i_icmp_ne (tgt := 191) C dX12_next_176 (by decide) ?_ ?_
            · refine i_iconst C dX12_next_191 kI_0 ?_
              exact i_sub [] rfl (hj43 0 M41)
            · refine i_aload_n C dX12_next_179 rfl (q := 0) rfl ?_
              refine i_getR C (k := 8) kX12 dX12_next_180 (shR_0 hX) rfl (by decide) fl_X12_31 ?_
              refine i_aload_n C dX12_next_183 rfl (q := 0) rfl ?_
              refine i_getI C (k := 10) kX12 dX12_next_184 (shR_0 hX) rfl (by decide) fl_X12_237 rfl ?_
              refine i_ald C dX12_next_187 (shR_8 hX) (fun v46 => ?_)
              refine i_goto (tgt := 192) C dX12_next_188 (by decide) ?_
              exact i_sub [] rfl (hj43 v46 M41)
          refine i_if_eq (tgt := 161) C dX12_next_154 (by decide) ?_ ?_
          · refine i_iconst C dX12_next_161 kI_1 ?_
            exact i_sub [0] rfl (hj39 1 M37)
          · refine i_iconst C dX12_next_157 kI_4 ?_
            refine i_goto (tgt := 162) C dX12_next_158 (by decide) ?_
            exact i_sub [0] rfl (hj39 4 M37)
      · refine i_aload_n C dX12_next_109 rfl (q := 0) rfl ?_
        refine i_iconst C dX12_next_110 kI_0 ?_
        refine i_putI C (k := 12) kX12 dX12_next_111 (shR_0 hX) rfl (by decide) fl_X12_234 rfl rfl rfl rfl (fun M47 => ?_)
        refine i_goto (tgt := 339) C dX12_next_114 (by decide) ?_
        exact i_vret C hq dX12_next_339
    refine i_jn (fun j => ∀  (M49 : Mem), Im X 0 0 88 [(0, aR 0)] [] M49 res (j  M49)) ?_ (fun j48 hj48 => ?_)
    · intro  M49
      refine i_iconst C dX12_next_88 kI_0 ?_
      exact (hj9 0 M49)
    refine i_if_eq (tgt := 88) C dX12_next_73 (by decide) ?_ ?_
    · exact i_sub [0] rfl (hj48  M7)
    · refine i_iload_n C dX12_next_76 rfl (q := 2) rfl ?_
      refine i_aload_n C dX12_next_77 rfl (q := 0) rfl ?_
      refine i_getI C (k := 11) kX12 dX12_next_78 (shR_0 hX) rfl (by decide) fl_X12_231 rfl ?_
      refine i_icmp_ne (tgt := 88) C dX12_next_81 (by decide) ?_ ?_
      · exact i_sub [0] rfl (hj48  M7)
      · refine i_iconst C dX12_next_84 kI_1 ?_
        refine i_goto (tgt := 89) C dX12_next_85 (by decide) ?_
        exact i_sub [0] rfl (hj9 1 M7)
  refine i_jn (fun j => ∀  (M51 : Mem), Im X 0 0 27 [(0, aR 0)] [] M51 res (j  M51)) ?_ (fun j50 hj50 => ?_)
  · intro  M51
    refine i_iconst C dX12_next_27 kI_0 ?_
    exact (hj2 0 M51)
  refine i_if_le (tgt := 27) C dX12_next_4 (by decide) ?_ ?_
  · exact (hj50  M)
  · refine i_aload_n C dX12_next_7 rfl (q := 0) rfl ?_
    refine i_getI C (k := 12) kX12 dX12_next_8 (shR_0 hX) rfl (by decide) fl_X12_234 rfl ?_
    refine i_iconst C dX12_next_11 kI_1 ?_
    refine i_jn (fun j => ∀  (M53 : Mem), Im X 0 0 23 [(0, aR 0)] [] M53 res (j  M53)) ?_ (fun j52 hj52 => ?_)
    · intro  M53
      refine i_iconst C dX12_next_23 kI_1 ?_
      refine i_goto (tgt := 28) C dX12_next_24 (by decide) ?_
      exact (hj2 1 M53)
    refine i_icmp_eq (tgt := 23) C dX12_next_12 (by decide) ?_ ?_
    · exact (hj52  M)
    · refine i_aload_n C dX12_next_15 rfl (q := 0) rfl ?_
      refine i_getI C (k := 12) kX12 dX12_next_16 (shR_0 hX) rfl (by decide) fl_X12_234 rfl ?_
      refine i_iconst C dX12_next_19 kI_2 ?_
      refine i_icmp_ne (tgt := 27) C dX12_next_20 (by decide) ?_ ?_
      · exact (hj50  M)
      · exact (hj52  M)
set_option maxRecDepth 100000 in
set_option maxHeartbeats 4000000 in
theorem c_X12_isSign (l : Launch) (G : Gx) {K : Kx} (hK : K = kR) {x1 : Int} {M : Mem} {res : Int × Mem} (hM : OkM M) (ha : okS [aR 0, aI x1]) (hF : rM_isSign x1 M = some res) : Ct l G K yX12_isSign (wsM yX12_isSign cX12_isSign 2 (some .boolean)) rmX12_isSign [aR 0, aI x1] M (some (aI res.1)) res.2 := by
  refine ct_of RX12 (by decide +kernel) rfl (hK ▸ kR_ok) hM ha (Nat.le_of_ble_eq_true rfl) hF ?_
  intro X C hl hG hX0 hN hR hq
  have hX : xK X = kR := hX0.trans hK
  show Im X 0 0 0 [(0, aR 0), (1, aI x1)] [] M res (rM_isSign x1 M)
  unfold rM_isSign
  refine i_aload_n C dX12_isSign_0 rfl (q := 0) rfl ?_
  refine i_getI C (k := 12) kX12 dX12_isSign_1 (shR_0 hX) rfl (by decide) fl_X12_234 rfl ?_
  refine i_iconst C dX12_isSign_4 kI_3 ?_
  refine i_icmp_ne (tgt := 20) C dX12_isSign_5 (by decide) ?_ ?_
  · refine i_iconst C dX12_isSign_20 kI_0 ?_
    exact i_zret C hq dX12_isSign_21 (Or.inl rfl)
  · refine i_aload_n C dX12_isSign_8 rfl (q := 0) rfl ?_
    refine i_getI C (k := 14) kX12 dX12_isSign_9 (shR_0 hX) rfl (by decide) fl_X12_243 rfl ?_
    refine i_iload_n C dX12_isSign_12 rfl (q := 1) rfl ?_
    refine i_icmp_ne (tgt := 20) C dX12_isSign_13 (by decide) ?_ ?_
    · refine i_iconst C dX12_isSign_20 kI_0 ?_
      exact i_zret C hq dX12_isSign_21 (Or.inl rfl)
    · refine i_iconst C dX12_isSign_16 kI_1 ?_
      refine i_goto (tgt := 21) C dX12_isSign_17 (by decide) ?_
      exact i_zret C hq dX12_isSign_21 (Or.inr rfl)
set_option maxRecDepth 100000 in
set_option maxHeartbeats 4000000 in
theorem c_X12_isName (l : Launch) (G : Gx) {K : Kx} (hK : K = kR) {x0 : Int} {x1 : Int} {M : Mem} {res : Int × Mem} (hM : OkM M) (ha : okS [aI x0, aI x1]) (hF : rM_isName x0 x1 M = some res) : Ct l G K yX12_isName (wsM yX12_isName cX12_isName 2 (some .boolean)) rmX12_isName [aI x0, aI x1] M (some (aI res.1)) res.2 := by
  refine ct_of RX12 (by decide +kernel) rfl (hK ▸ kR_ok) hM ha (Nat.le_of_ble_eq_true rfl) hF ?_
  intro X C hl hG hX0 hN hR hq
  have hX : xK X = kR := hX0.trans hK
  show Im X 0 0 0 [(0, aI x0), (1, aI x1)] [] M res (rM_isName x0 x1 M)
  unfold rM_isName
  refine i_iload_n C dX12_isName_0 rfl (q := 0) rfl ?_
  refine i_split (fun e1 => ?_) (fun e1 => ?_)
  · refine i_tswIn (tgt := 32) C dX12_isName_1 e1 (by decide) (by decide) rfl (by decide) ?_
    refine i_iload_n C dX12_isName_32 rfl (q := 1) rfl ?_
    refine i_bipush C dX12_isName_33 kB_97 ?_
    refine i_icmp_eq (tgt := 56) C dX12_isName_35 (by decide) ?_ ?_
    · refine i_iconst C dX12_isName_56 kI_1 ?_
      refine i_goto (tgt := 61) C dX12_isName_57 (by decide) ?_
      exact i_zret C hq dX12_isName_61 (Or.inr rfl)
    · refine i_iload_n C dX12_isName_38 rfl (q := 1) rfl ?_
      refine i_bipush C dX12_isName_39 kB_112 ?_
      refine i_icmp_eq (tgt := 56) C dX12_isName_41 (by decide) ?_ ?_
      · refine i_iconst C dX12_isName_56 kI_1 ?_
        refine i_goto (tgt := 61) C dX12_isName_57 (by decide) ?_
        exact i_zret C hq dX12_isName_61 (Or.inr rfl)
      · refine i_iload_n C dX12_isName_44 rfl (q := 1) rfl ?_
        refine i_bipush C dX12_isName_45 kB_107 ?_
        refine i_icmp_eq (tgt := 56) C dX12_isName_47 (by decide) ?_ ?_
        · refine i_iconst C dX12_isName_56 kI_1 ?_
          refine i_goto (tgt := 61) C dX12_isName_57 (by decide) ?_
          exact i_zret C hq dX12_isName_61 (Or.inr rfl)
        · refine i_iload_n C dX12_isName_50 rfl (q := 1) rfl ?_
          refine i_bipush C dX12_isName_51 kB_100 ?_
          refine i_icmp_ne (tgt := 60) C dX12_isName_53 (by decide) ?_ ?_
          · refine i_iconst C dX12_isName_60 kI_0 ?_
            exact i_zret C hq dX12_isName_61 (Or.inl rfl)
          · refine i_iconst C dX12_isName_56 kI_1 ?_
            refine i_goto (tgt := 61) C dX12_isName_57 (by decide) ?_
            exact i_zret C hq dX12_isName_61 (Or.inr rfl)
  refine i_split (fun e2 => ?_) (fun e2 => ?_)
  · refine i_tswIn (tgt := 62) C dX12_isName_1 e2 (by decide) (by decide) rfl (by decide) ?_
    refine i_iload_n C dX12_isName_62 rfl (q := 1) rfl ?_
    refine i_bipush C dX12_isName_63 kB_119 ?_
    refine i_icmp_eq (tgt := 80) C dX12_isName_65 (by decide) ?_ ?_
    · refine i_iconst C dX12_isName_80 kI_1 ?_
      refine i_goto (tgt := 85) C dX12_isName_81 (by decide) ?_
      exact i_zret C hq dX12_isName_85 (Or.inr rfl)
    · refine i_iload_n C dX12_isName_68 rfl (q := 1) rfl ?_
      refine i_bipush C dX12_isName_69 kB_120 ?_
      refine i_icmp_eq (tgt := 80) C dX12_isName_71 (by decide) ?_ ?_
      · refine i_iconst C dX12_isName_80 kI_1 ?_
        refine i_goto (tgt := 85) C dX12_isName_81 (by decide) ?_
        exact i_zret C hq dX12_isName_85 (Or.inr rfl)
      · refine i_iload_n C dX12_isName_74 rfl (q := 1) rfl ?_
        refine i_bipush C dX12_isName_75 kB_97 ?_
        refine i_icmp_ne (tgt := 84) C dX12_isName_77 (by decide) ?_ ?_
        · refine i_iconst C dX12_isName_84 kI_0 ?_
          exact i_zret C hq dX12_isName_85 (Or.inl rfl)
        · refine i_iconst C dX12_isName_80 kI_1 ?_
          refine i_goto (tgt := 85) C dX12_isName_81 (by decide) ?_
          exact i_zret C hq dX12_isName_85 (Or.inr rfl)
  refine i_split (fun e3 => ?_) (fun e3 => ?_)
  · refine i_tswIn (tgt := 86) C dX12_isName_1 e3 (by decide) (by decide) rfl (by decide) ?_
    refine i_iload_n C dX12_isName_86 rfl (q := 1) rfl ?_
    refine i_bipush C dX12_isName_87 kB_105 ?_
    refine i_icmp_eq (tgt := 104) C dX12_isName_89 (by decide) ?_ ?_
    · refine i_iconst C dX12_isName_104 kI_1 ?_
      refine i_goto (tgt := 109) C dX12_isName_105 (by decide) ?_
      exact i_zret C hq dX12_isName_109 (Or.inr rfl)
    · refine i_iload_n C dX12_isName_92 rfl (q := 1) rfl ?_
      refine i_bipush C dX12_isName_93 kB_115 ?_
      refine i_icmp_eq (tgt := 104) C dX12_isName_95 (by decide) ?_ ?_
      · refine i_iconst C dX12_isName_104 kI_1 ?_
        refine i_goto (tgt := 109) C dX12_isName_105 (by decide) ?_
        exact i_zret C hq dX12_isName_109 (Or.inr rfl)
      · refine i_iload_n C dX12_isName_98 rfl (q := 1) rfl ?_
        refine i_bipush C dX12_isName_99 kB_104 ?_
        refine i_icmp_ne (tgt := 108) C dX12_isName_101 (by decide) ?_ ?_
        · refine i_iconst C dX12_isName_108 kI_0 ?_
          exact i_zret C hq dX12_isName_109 (Or.inl rfl)
        · refine i_iconst C dX12_isName_104 kI_1 ?_
          refine i_goto (tgt := 109) C dX12_isName_105 (by decide) ?_
          exact i_zret C hq dX12_isName_109 (Or.inr rfl)
  refine i_split (fun e4 => ?_) (fun e4 => ?_)
  · refine i_tswIn (tgt := 110) C dX12_isName_1 e4 (by decide) (by decide) rfl (by decide) ?_
    refine i_iload_n C dX12_isName_110 rfl (q := 1) rfl ?_
    refine i_bipush C dX12_isName_111 kB_100 ?_
    refine i_icmp_eq (tgt := 128) C dX12_isName_113 (by decide) ?_ ?_
    · refine i_iconst C dX12_isName_128 kI_1 ?_
      refine i_goto (tgt := 133) C dX12_isName_129 (by decide) ?_
      exact i_zret C hq dX12_isName_133 (Or.inr rfl)
    · refine i_iload_n C dX12_isName_116 rfl (q := 1) rfl ?_
      refine i_bipush C dX12_isName_117 kB_102 ?_
      refine i_icmp_eq (tgt := 128) C dX12_isName_119 (by decide) ?_ ?_
      · refine i_iconst C dX12_isName_128 kI_1 ?_
        refine i_goto (tgt := 133) C dX12_isName_129 (by decide) ?_
        exact i_zret C hq dX12_isName_133 (Or.inr rfl)
      · refine i_iload_n C dX12_isName_122 rfl (q := 1) rfl ?_
        refine i_bipush C dX12_isName_123 kB_112 ?_
        refine i_icmp_ne (tgt := 132) C dX12_isName_125 (by decide) ?_ ?_
        · refine i_iconst C dX12_isName_132 kI_0 ?_
          exact i_zret C hq dX12_isName_133 (Or.inl rfl)
        · refine i_iconst C dX12_isName_128 kI_1 ?_
          refine i_goto (tgt := 133) C dX12_isName_129 (by decide) ?_
          exact i_zret C hq dX12_isName_133 (Or.inr rfl)
  refine i_tswOut (tgt := 134) C dX12_isName_1 (by omega) (by decide) ?_
  refine i_iload_n C dX12_isName_134 rfl (q := 1) rfl ?_
  refine i_bipush C dX12_isName_135 kB_110 ?_
  refine i_icmp_ne (tgt := 144) C dX12_isName_137 (by decide) ?_ ?_
  · refine i_iconst C dX12_isName_144 kI_0 ?_
    exact i_zret C hq dX12_isName_145 (Or.inl rfl)
  · refine i_iconst C dX12_isName_140 kI_1 ?_
    refine i_goto (tgt := 145) C dX12_isName_141 (by decide) ?_
    exact i_zret C hq dX12_isName_145 (Or.inr rfl)
set_option maxRecDepth 100000 in
set_option maxHeartbeats 4000000 in
theorem c_X12_step (l : Launch) (G : Gx) {K : Kx} (hK : K = kR) {x1 : Int} {x2 : Int} {M : Mem} {res : Mem} (hM : OkM M) (ha : okS [aR 0, aI x1, aI x2]) (hF : rM_step x1 x2 M = some res) : Ct l G K yX12_step (wsM yX12_step cX12_step 3 none) rmX12_step [aR 0, aI x1, aI x2] M none res := by
  refine ct_of RX12 (by decide +kernel) rfl (hK ▸ kR_ok) hM ha (Nat.le_of_ble_eq_true rfl) hF ?_
  intro X C hl hG hX0 hN hR hq
  have hX : xK X = kR := hX0.trans hK
  show Im X 0 0 0 [(0, aR 0), (1, aI x1), (2, aI x2)] [] M res (rM_step x1 x2 M)
  unfold rM_step
  refine i_aload_n C dX12_step_0 rfl (q := 0) rfl ?_
  refine i_getR C (k := 0) kX12 dX12_step_1 (shR_0 hX) rfl (by decide) fl_X12_7 ?_
  refine i_aload_n C dX12_step_4 rfl (q := 0) rfl ?_
  refine i_getI C (k := 18) kX12 dX12_step_5 (shR_0 hX) rfl (by decide) fl_X12_260 rfl ?_
  refine i_iconst C dX12_step_8 kI_2 ?_
  refine i_aload_n C dX12_step_9 rfl (q := 0) rfl ?_
  refine i_getI C (k := 17) kX12 dX12_step_10 (shR_0 hX) rfl (by decide) fl_X12_263 rfl ?_
  refine i_imul C dX12_step_13 ?_
  refine i_iadd C dX12_step_14 ?_
  refine i_iload_n C dX12_step_15 rfl (q := 1) rfl ?_
  refine i_ast C dX12_step_16 (shR_1 hX) (fun M1 => ?_)
  refine i_aload_n C dX12_step_17 rfl (q := 0) rfl ?_
  refine i_getR C (k := 0) kX12 dX12_step_18 (shR_0 hX) rfl (by decide) fl_X12_7 ?_
  refine i_aload_n C dX12_step_21 rfl (q := 0) rfl ?_
  refine i_getI C (k := 18) kX12 dX12_step_22 (shR_0 hX) rfl (by decide) fl_X12_260 rfl ?_
  refine i_iconst C dX12_step_25 kI_2 ?_
  refine i_aload_n C dX12_step_26 rfl (q := 0) rfl ?_
  refine i_getI C (k := 17) kX12 dX12_step_27 (shR_0 hX) rfl (by decide) fl_X12_263 rfl ?_
  refine i_imul C dX12_step_30 ?_
  refine i_iadd C dX12_step_31 ?_
  refine i_iconst C dX12_step_32 kI_1 ?_
  refine i_iadd C dX12_step_33 ?_
  refine i_iload_n C dX12_step_34 rfl (q := 2) rfl ?_
  refine i_ast C dX12_step_35 (shR_1 hX) (fun M2 => ?_)
  refine i_aload_n C dX12_step_36 rfl (q := 0) rfl ?_
  refine i_dup C dX12_step_37 rfl ?_
  refine i_getI C (k := 17) kX12 dX12_step_38 (shR_0 hX) rfl (by decide) fl_X12_263 rfl ?_
  refine i_iconst C dX12_step_41 kI_1 ?_
  refine i_iadd C dX12_step_42 ?_
  refine i_putI C (k := 17) kX12 dX12_step_43 (shR_0 hX) rfl (by decide) fl_X12_263 rfl rfl rfl rfl (fun M3 => ?_)
  exact i_vret C hq dX12_step_46
set_option maxRecDepth 100000 in
set_option maxHeartbeats 4000000 in
theorem c_X12_orNone (l : Launch) (G : Gx) {K : Kx} (hK : K = kR) {x0 : Int} {M : Mem} {res : Int × Mem} (hM : OkM M) (ha : okS [aI x0]) (hF : rM_orNone x0 M = some res) : Ct l G K yX12_orNone (wsM yX12_orNone cX12_orNone 1 (some .int)) rmX12_orNone [aI x0] M (some (aI res.1)) res.2 := by
  refine ct_of RX12 (by decide +kernel) rfl (hK ▸ kR_ok) hM ha (Nat.le_of_ble_eq_true rfl) hF ?_
  intro X C hl hG hX0 hN hR hq
  have hX : xK X = kR := hX0.trans hK
  show Im X 0 0 0 [(0, aI x0)] [] M res (rM_orNone x0 M)
  unfold rM_orNone
  refine i_iload_n C dX12_orNone_0 rfl (q := 0) rfl ?_
  refine i_if_ge (tgt := 9) C dX12_orNone_1 (by decide) ?_ ?_
  · refine i_iload_n C dX12_orNone_9 rfl (q := 0) rfl ?_
    exact i_iret C hq dX12_orNone_10
  · refine i_ldc C dX12_orNone_4 kc_X12_77 kI_m1000000005 ?_
    refine i_goto (tgt := 10) C dX12_orNone_6 (by decide) ?_
    exact i_iret C hq dX12_orNone_10
set_option maxRecDepth 100000 in
set_option maxHeartbeats 4000000 in
theorem c_X12_least (l : Launch) (G : Gx) {K : Kx} (hK : K = kR) {x0 : Int} {x1 : Int} {M : Mem} {res : Int × Mem} (hM : OkM M) (ha : okS [aI x0, aI x1]) (hF : rM_least x0 x1 M = some res) : Ct l G K yX12_least (wsM yX12_least cX12_least 2 (some .int)) rmX12_least [aI x0, aI x1] M (some (aI res.1)) res.2 := by
  refine ct_of RX12 (by decide +kernel) rfl (hK ▸ kR_ok) hM ha (Nat.le_of_ble_eq_true rfl) hF ?_
  intro X C hl hG hX0 hN hR hq
  have hX : xK X = kR := hX0.trans hK
  show Im X 0 0 0 [(0, aI x0), (1, aI x1)] [] M res (rM_least x0 x1 M)
  unfold rM_least
  refine i_iload_n C dX12_least_0 rfl (q := 0) rfl ?_
  refine i_iload_n C dX12_least_1 rfl (q := 1) rfl ?_
  refine i_icmp_ge (tgt := 9) C dX12_least_2 (by decide) ?_ ?_
  · refine i_iload_n C dX12_least_9 rfl (q := 1) rfl ?_
    exact i_iret C hq dX12_least_10
  · refine i_iload_n C dX12_least_5 rfl (q := 0) rfl ?_
    refine i_goto (tgt := 10) C dX12_least_6 (by decide) ?_
    exact i_iret C hq dX12_least_10
set_option maxRecDepth 100000 in
set_option maxHeartbeats 4000000 in
theorem c_X12_size (l : Launch) (G : Gx) {K : Kx} (hK : K = kR) {x0 : Int} {M : Mem} {res : Int × Mem} (hM : OkM M) (ha : okS [aI x0]) (hF : rM_size x0 M = some res) : Ct l G K yX12_size (wsM yX12_size cX12_size 1 (some .int)) rmX12_size [aI x0] M (some (aI res.1)) res.2 := by
  refine ct_of RX12 (by decide +kernel) rfl (hK ▸ kR_ok) hM ha (Nat.le_of_ble_eq_true rfl) hF ?_
  intro X C hl hG hX0 hN hR hq
  have hX : xK X = kR := hX0.trans hK
  show Im X 0 0 0 [(0, aI x0)] [] M res (rM_size x0 M)
  unfold rM_size
  refine i_iload_n C dX12_size_0 rfl (q := 0) rfl ?_
  refine i_if_ge (tgt := 9) C dX12_size_1 (by decide) ?_ ?_
  · refine i_iload_n C dX12_size_9 rfl (q := 0) rfl ?_
    exact i_iret C hq dX12_size_10
  · refine i_iload_n C dX12_size_4 rfl (q := 0) rfl ?_
    refine i_ineg C dX12_size_5 ?_
    refine i_goto (tgt := 10) C dX12_size_6 (by decide) ?_
    exact i_iret C hq dX12_size_10
set_option maxRecDepth 100000 in
set_option maxHeartbeats 4000000 in
theorem c_X12_becomes (l : Launch) (G : Gx) {K : Kx} (hK : K = kR) {x1 : Int} {x2 : Int} {M : Mem} {res : Int × Mem} (hM : OkM M) (ha : okS [aR 0, aI x1, aI x2]) (hF : rM_becomes x1 x2 M = some res) : Ct l G K yX12_becomes (wsM yX12_becomes cX12_becomes 4 (some .int)) rmX12_becomes [aR 0, aI x1, aI x2] M (some (aI res.1)) res.2 := by
  refine ct_of RX12 (by decide +kernel) rfl (hK ▸ kR_ok) hM ha (Nat.le_of_ble_eq_true rfl) hF ?_
  intro X C hl hG hX0 hN hR hq
  have hX : xK X = kR := hX0.trans hK
  show Im X 0 0 0 [(0, aR 0), (1, aI x1), (2, aI x2)] [] M res (rM_becomes x1 x2 M)
  unfold rM_becomes
  have hl3 : 3 < xn X := by rw [hN]; decide
  refine i_aload_n C dX12_becomes_0 rfl (q := 0) rfl ?_
  refine i_getR C (k := 0) kX12 dX12_becomes_1 (shR_0 hX) rfl (by decide) fl_X12_7 ?_
  refine i_iload_n C dX12_becomes_4 rfl (q := 1) rfl ?_
  refine i_ald C dX12_becomes_5 (shR_1 hX) (fun v1 => ?_)
  refine i_istore_n C dX12_becomes_6 rfl hl3 (L' := [(0, aR 0), (1, aI x1), (2, aI x2), (3, aI v1)]) rfl ?_
  refine i_aload_n C dX12_becomes_7 rfl (q := 0) rfl ?_
  refine i_getR C (k := 0) kX12 dX12_becomes_8 (shR_0 hX) rfl (by decide) fl_X12_7 ?_
  refine i_iload_n C dX12_becomes_11 rfl (q := 1) rfl ?_
  refine i_iload_n C dX12_becomes_12 rfl (q := 2) rfl ?_
  refine i_ast C dX12_becomes_13 (shR_1 hX) (fun M2 => ?_)
  refine i_iload_n C dX12_becomes_14 rfl (q := 3) rfl ?_
  exact i_iret C hq dX12_becomes_15
set_option maxRecDepth 100000 in
set_option maxHeartbeats 4000000 in
theorem c_X12_cellAt (l : Launch) (G : Gx) {K : Kx} (hK : K = kR) {x1 : Int} {M : Mem} {res : Int × Mem} (hM : OkM M) (ha : okS [aR 0, aI x1]) (hF : rM_cellAt x1 M = some res) : Ct l G K yX12_cellAt (wsM yX12_cellAt cX12_cellAt 2 (some .int)) rmX12_cellAt [aR 0, aI x1] M (some (aI res.1)) res.2 := by
  refine ct_of RX12 (by decide +kernel) rfl (hK ▸ kR_ok) hM ha (Nat.le_of_ble_eq_true rfl) hF ?_
  intro X C hl hG hX0 hN hR hq
  have hX : xK X = kR := hX0.trans hK
  show Im X 0 0 0 [(0, aR 0), (1, aI x1)] [] M res (rM_cellAt x1 M)
  unfold rM_cellAt
  refine i_bipush C dX12_cellAt_0 kB_20 ?_
  refine i_iconst C dX12_cellAt_2 kI_3 ?_
  refine i_iload_n C dX12_cellAt_3 rfl (q := 1) rfl ?_
  refine i_imul C dX12_cellAt_4 ?_
  refine i_iadd C dX12_cellAt_5 ?_
  exact i_iret C hq dX12_cellAt_6
set_option maxRecDepth 100000 in
set_option maxHeartbeats 4000000 in
theorem c_X12_personAt (l : Launch) (G : Gx) {K : Kx} (hK : K = kR) {x1 : Int} {M : Mem} {res : Int × Mem} (hM : OkM M) (ha : okS [aR 0, aI x1]) (hF : rM_personAt x1 M = some res) : Ct l G K yX12_personAt (wsM yX12_personAt cX12_personAt 2 (some .int)) rmX12_personAt [aR 0, aI x1] M (some (aI res.1)) res.2 := by
  refine ct_of RX12 (by decide +kernel) rfl (hK ▸ kR_ok) hM ha (Nat.le_of_ble_eq_true rfl) hF ?_
  intro X C hl hG hX0 hN hR hq
  have hX : xK X = kR := hX0.trans hK
  show Im X 0 0 0 [(0, aR 0), (1, aI x1)] [] M res (rM_personAt x1 M)
  unfold rM_personAt
  refine i_bipush C dX12_personAt_0 kB_70 ?_
  refine i_bipush C dX12_personAt_2 kB_8 ?_
  refine i_iload_n C dX12_personAt_4 rfl (q := 1) rfl ?_
  refine i_imul C dX12_personAt_5 ?_
  refine i_iadd C dX12_personAt_6 ?_
  exact i_iret C hq dX12_personAt_7
set_option maxRecDepth 100000 in
set_option maxHeartbeats 4000000 in
theorem c_X12_tieAt (l : Launch) (G : Gx) {K : Kx} (hK : K = kR) {x1 : Int} {M : Mem} {res : Int × Mem} (hM : OkM M) (ha : okS [aR 0, aI x1]) (hF : rM_tieAt x1 M = some res) : Ct l G K yX12_tieAt (wsM yX12_tieAt cX12_tieAt 2 (some .int)) rmX12_tieAt [aR 0, aI x1] M (some (aI res.1)) res.2 := by
  refine ct_of RX12 (by decide +kernel) rfl (hK ▸ kR_ok) hM ha (Nat.le_of_ble_eq_true rfl) hF ?_
  intro X C hl hG hX0 hN hR hq
  have hX : xK X = kR := hX0.trans hK
  show Im X 0 0 0 [(0, aR 0), (1, aI x1)] [] M res (rM_tieAt x1 M)
  unfold rM_tieAt
  refine i_sipush C dX12_tieAt_0 kS_230 ?_
  refine i_bipush C dX12_tieAt_3 kB_10 ?_
  refine i_iload_n C dX12_tieAt_5 rfl (q := 1) rfl ?_
  refine i_imul C dX12_tieAt_6 ?_
  refine i_iadd C dX12_tieAt_7 ?_
  exact i_iret C hq dX12_tieAt_8
set_option maxRecDepth 100000 in
set_option maxHeartbeats 4000000 in
theorem c_X12_textAt (l : Launch) (G : Gx) {K : Kx} (hK : K = kR) {x1 : Int} {M : Mem} {res : Int × Mem} (hM : OkM M) (ha : okS [aR 0, aI x1]) (hF : rM_textAt x1 M = some res) : Ct l G K yX12_textAt (wsM yX12_textAt cX12_textAt 2 (some .int)) rmX12_textAt [aR 0, aI x1] M (some (aI res.1)) res.2 := by
  refine ct_of RX12 (by decide +kernel) rfl (hK ▸ kR_ok) hM ha (Nat.le_of_ble_eq_true rfl) hF ?_
  intro X C hl hG hX0 hN hR hq
  have hX : xK X = kR := hX0.trans hK
  show Im X 0 0 0 [(0, aR 0), (1, aI x1)] [] M res (rM_textAt x1 M)
  unfold rM_textAt
  refine i_sipush C dX12_textAt_0 kS_1310 ?_
  refine i_sipush C dX12_textAt_3 kS_200 ?_
  refine i_iload_n C dX12_textAt_6 rfl (q := 1) rfl ?_
  refine i_imul C dX12_textAt_7 ?_
  refine i_iadd C dX12_textAt_8 ?_
  exact i_iret C hq dX12_textAt_9
set_option maxRecDepth 100000 in
set_option maxHeartbeats 4000000 in
theorem c_X12_isCell (l : Launch) (G : Gx) {K : Kx} (hK : K = kR) {x1 : Int} {M : Mem} {res : Int × Mem} (hM : OkM M) (ha : okS [aR 0, aI x1]) (hF : rM_isCell x1 M = some res) : Ct l G K yX12_isCell (wsM yX12_isCell cX12_isCell 2 (some .boolean)) rmX12_isCell [aR 0, aI x1] M (some (aI res.1)) res.2 := by
  refine ct_of RX12 (by decide +kernel) rfl (hK ▸ kR_ok) hM ha (Nat.le_of_ble_eq_true rfl) hF ?_
  intro X C hl hG hX0 hN hR hq
  have hX : xK X = kR := hX0.trans hK
  show Im X 0 0 0 [(0, aR 0), (1, aI x1)] [] M res (rM_isCell x1 M)
  unfold rM_isCell
  have hRm : ∀ {rm : Room} {ny : Nat}, RmOk rmX12_isCell rm ny → RmOk (xR X) rm ny := fun h => by rw [hR]; exact h
  refine i_iload_n C dX12_isCell_0 rfl (q := 1) rfl ?_
  refine i_i2l C dX12_isCell_1 ?_
  refine i_lconst C dX12_isCell_2 kL_0 ?_
  refine i_aload_n C dX12_isCell_3 rfl (q := 0) rfl ?_
  refine i_getR C (k := 0) kX12 dX12_isCell_4 (shR_0 hX) rfl (by decide) fl_X12_7 ?_
  refine i_iconst C dX12_isCell_7 kI_1 ?_
  refine i_ald C dX12_isCell_8 (shR_1 hX) (fun v1 => ?_)
  refine i_iconst C dX12_isCell_9 kI_1 ?_
  refine i_isub C dX12_isCell_10 ?_
  refine i_i2l C dX12_isCell_11 ?_
  refine i_cI (kc' := 0) (ks' := 0) 0 0 3 (fun q hq hM hS => crS C (as := [aL x1, aL 0, aL (w32 (v1 - 1))]) dX12_isCell_12.1 ml_X12_78 cal_X12_isIn st_X12_isIn (hRm ⟨Nat.le_of_ble_eq_true rfl, Nat.le_of_ble_eq_true rfl⟩) rfl (Nat.le_of_ble_eq_true rfl) (c_X12_isIn (xl X) (xG X) hX hM ⟨hS.2.2.1, hS.2.1, hS.1, trivial⟩ hq)) (Nat.le_of_ble_eq_true rfl) (Nat.le_of_ble_eq_true rfl) rfl rfl rfl (fun v3 M2 => ?_)
  exact i_zretQ C hq dX12_isCell_15
set_option maxRecDepth 100000 in
set_option maxHeartbeats 4000000 in
theorem c_X12_isPerson (l : Launch) (G : Gx) {K : Kx} (hK : K = kR) {x1 : Int} {M : Mem} {res : Int × Mem} (hM : OkM M) (ha : okS [aR 0, aI x1]) (hF : rM_isPerson x1 M = some res) : Ct l G K yX12_isPerson (wsM yX12_isPerson cX12_isPerson 2 (some .boolean)) rmX12_isPerson [aR 0, aI x1] M (some (aI res.1)) res.2 := by
  refine ct_of RX12 (by decide +kernel) rfl (hK ▸ kR_ok) hM ha (Nat.le_of_ble_eq_true rfl) hF ?_
  intro X C hl hG hX0 hN hR hq
  have hX : xK X = kR := hX0.trans hK
  show Im X 0 0 0 [(0, aR 0), (1, aI x1)] [] M res (rM_isPerson x1 M)
  unfold rM_isPerson
  have hRm : ∀ {rm : Room} {ny : Nat}, RmOk rmX12_isPerson rm ny → RmOk (xR X) rm ny := fun h => by rw [hR]; exact h
  refine i_iload_n C dX12_isPerson_0 rfl (q := 1) rfl ?_
  refine i_i2l C dX12_isPerson_1 ?_
  refine i_lconst C dX12_isPerson_2 kL_0 ?_
  refine i_aload_n C dX12_isPerson_3 rfl (q := 0) rfl ?_
  refine i_getR C (k := 0) kX12 dX12_isPerson_4 (shR_0 hX) rfl (by decide) fl_X12_7 ?_
  refine i_iconst C dX12_isPerson_7 kI_2 ?_
  refine i_ald C dX12_isPerson_8 (shR_1 hX) (fun v1 => ?_)
  refine i_iconst C dX12_isPerson_9 kI_1 ?_
  refine i_isub C dX12_isPerson_10 ?_
  refine i_i2l C dX12_isPerson_11 ?_
  refine i_cI (kc' := 0) (ks' := 0) 0 0 3 (fun q hq hM hS => crS C (as := [aL x1, aL 0, aL (w32 (v1 - 1))]) dX12_isPerson_12.1 ml_X12_78 cal_X12_isIn st_X12_isIn (hRm ⟨Nat.le_of_ble_eq_true rfl, Nat.le_of_ble_eq_true rfl⟩) rfl (Nat.le_of_ble_eq_true rfl) (c_X12_isIn (xl X) (xG X) hX hM ⟨hS.2.2.1, hS.2.1, hS.1, trivial⟩ hq)) (Nat.le_of_ble_eq_true rfl) (Nat.le_of_ble_eq_true rfl) rfl rfl rfl (fun v3 M2 => ?_)
  exact i_zretQ C hq dX12_isPerson_15
set_option maxRecDepth 100000 in
set_option maxHeartbeats 4000000 in
theorem c_X12_isTie (l : Launch) (G : Gx) {K : Kx} (hK : K = kR) {x1 : Int} {M : Mem} {res : Int × Mem} (hM : OkM M) (ha : okS [aR 0, aI x1]) (hF : rM_isTie x1 M = some res) : Ct l G K yX12_isTie (wsM yX12_isTie cX12_isTie 2 (some .boolean)) rmX12_isTie [aR 0, aI x1] M (some (aI res.1)) res.2 := by
  refine ct_of RX12 (by decide +kernel) rfl (hK ▸ kR_ok) hM ha (Nat.le_of_ble_eq_true rfl) hF ?_
  intro X C hl hG hX0 hN hR hq
  have hX : xK X = kR := hX0.trans hK
  show Im X 0 0 0 [(0, aR 0), (1, aI x1)] [] M res (rM_isTie x1 M)
  unfold rM_isTie
  have hRm : ∀ {rm : Room} {ny : Nat}, RmOk rmX12_isTie rm ny → RmOk (xR X) rm ny := fun h => by rw [hR]; exact h
  refine i_iload_n C dX12_isTie_0 rfl (q := 1) rfl ?_
  refine i_i2l C dX12_isTie_1 ?_
  refine i_lconst C dX12_isTie_2 kL_0 ?_
  refine i_aload_n C dX12_isTie_3 rfl (q := 0) rfl ?_
  refine i_getR C (k := 0) kX12 dX12_isTie_4 (shR_0 hX) rfl (by decide) fl_X12_7 ?_
  refine i_iconst C dX12_isTie_7 kI_3 ?_
  refine i_ald C dX12_isTie_8 (shR_1 hX) (fun v1 => ?_)
  refine i_iconst C dX12_isTie_9 kI_1 ?_
  refine i_isub C dX12_isTie_10 ?_
  refine i_i2l C dX12_isTie_11 ?_
  refine i_cI (kc' := 0) (ks' := 0) 0 0 3 (fun q hq hM hS => crS C (as := [aL x1, aL 0, aL (w32 (v1 - 1))]) dX12_isTie_12.1 ml_X12_78 cal_X12_isIn st_X12_isIn (hRm ⟨Nat.le_of_ble_eq_true rfl, Nat.le_of_ble_eq_true rfl⟩) rfl (Nat.le_of_ble_eq_true rfl) (c_X12_isIn (xl X) (xG X) hX hM ⟨hS.2.2.1, hS.2.1, hS.1, trivial⟩ hq)) (Nat.le_of_ble_eq_true rfl) (Nat.le_of_ble_eq_true rfl) rfl rfl rfl (fun v3 M2 => ?_)
  exact i_zretQ C hq dX12_isTie_15
set_option maxRecDepth 100000 in
set_option maxHeartbeats 4000000 in
theorem c_X12_isText (l : Launch) (G : Gx) {K : Kx} (hK : K = kR) {x1 : Int} {M : Mem} {res : Int × Mem} (hM : OkM M) (ha : okS [aR 0, aI x1]) (hF : rM_isText x1 M = some res) : Ct l G K yX12_isText (wsM yX12_isText cX12_isText 2 (some .boolean)) rmX12_isText [aR 0, aI x1] M (some (aI res.1)) res.2 := by
  refine ct_of RX12 (by decide +kernel) rfl (hK ▸ kR_ok) hM ha (Nat.le_of_ble_eq_true rfl) hF ?_
  intro X C hl hG hX0 hN hR hq
  have hX : xK X = kR := hX0.trans hK
  show Im X 0 0 0 [(0, aR 0), (1, aI x1)] [] M res (rM_isText x1 M)
  unfold rM_isText
  have hRm : ∀ {rm : Room} {ny : Nat}, RmOk rmX12_isText rm ny → RmOk (xR X) rm ny := fun h => by rw [hR]; exact h
  refine i_iload_n C dX12_isText_0 rfl (q := 1) rfl ?_
  refine i_i2l C dX12_isText_1 ?_
  refine i_lconst C dX12_isText_2 kL_0 ?_
  refine i_aload_n C dX12_isText_3 rfl (q := 0) rfl ?_
  refine i_getR C (k := 0) kX12 dX12_isText_4 (shR_0 hX) rfl (by decide) fl_X12_7 ?_
  refine i_iconst C dX12_isText_7 kI_4 ?_
  refine i_ald C dX12_isText_8 (shR_1 hX) (fun v1 => ?_)
  refine i_iconst C dX12_isText_9 kI_1 ?_
  refine i_isub C dX12_isText_10 ?_
  refine i_i2l C dX12_isText_11 ?_
  refine i_cI (kc' := 0) (ks' := 0) 0 0 3 (fun q hq hM hS => crS C (as := [aL x1, aL 0, aL (w32 (v1 - 1))]) dX12_isText_12.1 ml_X12_78 cal_X12_isIn st_X12_isIn (hRm ⟨Nat.le_of_ble_eq_true rfl, Nat.le_of_ble_eq_true rfl⟩) rfl (Nat.le_of_ble_eq_true rfl) (c_X12_isIn (xl X) (xG X) hX hM ⟨hS.2.2.1, hS.2.1, hS.1, trivial⟩ hq)) (Nat.le_of_ble_eq_true rfl) (Nat.le_of_ble_eq_true rfl) rfl rfl rfl (fun v3 M2 => ?_)
  exact i_zretQ C hq dX12_isText_15
set_option maxRecDepth 100000 in
set_option maxHeartbeats 4000000 in
theorem c_X12_isSide (l : Launch) (G : Gx) {K : Kx} (hK : K = kR) {x0 : Int} {M : Mem} {res : Int × Mem} (hM : OkM M) (ha : okS [aI x0]) (hF : rM_isSide x0 M = some res) : Ct l G K yX12_isSide (wsM yX12_isSide cX12_isSide 1 (some .boolean)) rmX12_isSide [aI x0] M (some (aI res.1)) res.2 := by
  refine ct_of RX12 (by decide +kernel) rfl (hK ▸ kR_ok) hM ha (Nat.le_of_ble_eq_true rfl) hF ?_
  intro X C hl hG hX0 hN hR hq
  have hX : xK X = kR := hX0.trans hK
  show Im X 0 0 0 [(0, aI x0)] [] M res (rM_isSide x0 M)
  unfold rM_isSide
  have hRm : ∀ {rm : Room} {ny : Nat}, RmOk rmX12_isSide rm ny → RmOk (xR X) rm ny := fun h => by rw [hR]; exact h
  refine i_iload_n C dX12_isSide_0 rfl (q := 0) rfl ?_
  refine i_i2l C dX12_isSide_1 ?_
  refine i_lconst C dX12_isSide_2 kL_0 ?_
  refine i_lconst C dX12_isSide_3 kL_1 ?_
  refine i_cI (kc' := 0) (ks' := 0) 0 0 3 (fun q hq hM hS => crS C (as := [aL x0, aL 0, aL 1]) dX12_isSide_4.1 ml_X12_78 cal_X12_isIn st_X12_isIn (hRm ⟨Nat.le_of_ble_eq_true rfl, Nat.le_of_ble_eq_true rfl⟩) rfl (Nat.le_of_ble_eq_true rfl) (c_X12_isIn (xl X) (xG X) hX hM ⟨hS.2.2.1, hS.2.1, hS.1, trivial⟩ hq)) (Nat.le_of_ble_eq_true rfl) (Nat.le_of_ble_eq_true rfl) rfl rfl rfl (fun v2 M1 => ?_)
  exact i_zretQ C hq dX12_isSide_7
set_option maxRecDepth 100000 in
set_option maxHeartbeats 4000000 in
theorem c_X12_isOf (l : Launch) (G : Gx) {K : Kx} (hK : K = kR) {x1 : Int} {x2 : Int} {M : Mem} {res : Int × Mem} (hM : OkM M) (ha : okS [aR 0, aI x1, aI x2]) (hF : rM_isOf x1 x2 M = some res) : Ct l G K yX12_isOf (wsM yX12_isOf cX12_isOf 3 (some .boolean)) rmX12_isOf [aR 0, aI x1, aI x2] M (some (aI res.1)) res.2 := by
  refine ct_of RX12 (by decide +kernel) rfl (hK ▸ kR_ok) hM ha (Nat.le_of_ble_eq_true rfl) hF ?_
  intro X C hl hG hX0 hN hR hq
  have hX : xK X = kR := hX0.trans hK
  show Im X 0 0 0 [(0, aR 0), (1, aI x1), (2, aI x2)] [] M res (rM_isOf x1 x2 M)
  unfold rM_isOf
  have hRm : ∀ {rm : Room} {ny : Nat}, RmOk rmX12_isOf rm ny → RmOk (xR X) rm ny := fun h => by rw [hR]; exact h
  refine i_aload_n C dX12_isOf_0 rfl (q := 0) rfl ?_
  refine i_iload_n C dX12_isOf_1 rfl (q := 1) rfl ?_
  refine i_cI (kc' := 0) (ks' := 0) 0 0 2 (fun q hq hM hS => crV C (as := [aI x1]) dX12_isOf_2.1 kX12 (shR_0 hX) ml_X12_82 cal_X12_isTie cv_X12_isTie (hRm ⟨Nat.le_of_ble_eq_true rfl, Nat.le_of_ble_eq_true rfl⟩) rfl (Nat.le_of_ble_eq_true rfl) (c_X12_isTie (xl X) (xG X) hX hM ⟨hS.2.1, hS.1, trivial⟩ hq)) (Nat.le_of_ble_eq_true rfl) (Nat.le_of_ble_eq_true rfl) rfl rfl rfl (fun v2 M1 => ?_)
  refine i_if_eq (tgt := 26) C dX12_isOf_5 (by decide) ?_ ?_
  · refine i_iconst C dX12_isOf_26 kI_0 ?_
    exact i_zret C hq dX12_isOf_27 (Or.inl rfl)
  · refine i_aload_n C dX12_isOf_8 rfl (q := 0) rfl ?_
    refine i_getR C (k := 0) kX12 dX12_isOf_9 (shR_0 hX) rfl (by decide) fl_X12_7 ?_
    refine i_aload_n C dX12_isOf_12 rfl (q := 0) rfl ?_
    refine i_iload_n C dX12_isOf_13 rfl (q := 1) rfl ?_
    refine i_cI (kc' := 0) (ks' := 0) 0 0 2 (fun q hq hM hS => crV C (as := [aI x1]) dX12_isOf_14.1 kX12 (shR_0 hX) ml_X12_86 cal_X12_tieAt cv_X12_tieAt (hRm ⟨Nat.le_of_ble_eq_true rfl, Nat.le_of_ble_eq_true rfl⟩) rfl (Nat.le_of_ble_eq_true rfl) (c_X12_tieAt (xl X) (xG X) hX hM ⟨hS.2.1, hS.1, trivial⟩ hq)) (Nat.le_of_ble_eq_true rfl) (Nat.le_of_ble_eq_true rfl) rfl rfl rfl (fun v4 M3 => ?_)
    refine i_ald C dX12_isOf_17 (shR_1 hX) (fun v5 => ?_)
    refine i_iload_n C dX12_isOf_18 rfl (q := 2) rfl ?_
    refine i_icmp_ne (tgt := 26) C dX12_isOf_19 (by decide) ?_ ?_
    · refine i_iconst C dX12_isOf_26 kI_0 ?_
      exact i_zret C hq dX12_isOf_27 (Or.inl rfl)
    · refine i_iconst C dX12_isOf_22 kI_1 ?_
      refine i_goto (tgt := 27) C dX12_isOf_23 (by decide) ?_
      exact i_zret C hq dX12_isOf_27 (Or.inr rfl)
set_option maxRecDepth 100000 in
set_option maxHeartbeats 4000000 in
theorem c_X12_sideOf (l : Launch) (G : Gx) {K : Kx} (hK : K = kR) {x1 : Int} {M : Mem} {res : Int × Mem} (hM : OkM M) (ha : okS [aR 0, aI x1]) (hF : rM_sideOf x1 M = some res) : Ct l G K yX12_sideOf (wsM yX12_sideOf cX12_sideOf 2 (some .int)) rmX12_sideOf [aR 0, aI x1] M (some (aI res.1)) res.2 := by
  refine ct_of RX12 (by decide +kernel) rfl (hK ▸ kR_ok) hM ha (Nat.le_of_ble_eq_true rfl) hF ?_
  intro X C hl hG hX0 hN hR hq
  have hX : xK X = kR := hX0.trans hK
  show Im X 0 0 0 [(0, aR 0), (1, aI x1)] [] M res (rM_sideOf x1 M)
  unfold rM_sideOf
  have hRm : ∀ {rm : Room} {ny : Nat}, RmOk rmX12_sideOf rm ny → RmOk (xR X) rm ny := fun h => by rw [hR]; exact h
  refine i_aload_n C dX12_sideOf_0 rfl (q := 0) rfl ?_
  refine i_getR C (k := 0) kX12 dX12_sideOf_1 (shR_0 hX) rfl (by decide) fl_X12_7 ?_
  refine i_aload_n C dX12_sideOf_4 rfl (q := 0) rfl ?_
  refine i_iload_n C dX12_sideOf_5 rfl (q := 1) rfl ?_
  refine i_cI (kc' := 0) (ks' := 0) 0 0 2 (fun q hq hM hS => crV C (as := [aI x1]) dX12_sideOf_6.1 kX12 (shR_0 hX) ml_X12_90 cal_X12_cellAt cv_X12_cellAt (hRm ⟨Nat.le_of_ble_eq_true rfl, Nat.le_of_ble_eq_true rfl⟩) rfl (Nat.le_of_ble_eq_true rfl) (c_X12_cellAt (xl X) (xG X) hX hM ⟨hS.2.1, hS.1, trivial⟩ hq)) (Nat.le_of_ble_eq_true rfl) (Nat.le_of_ble_eq_true rfl) rfl rfl rfl (fun v2 M1 => ?_)
  refine i_iconst C dX12_sideOf_9 kI_0 ?_
  refine i_iadd C dX12_sideOf_10 ?_
  refine i_ald C dX12_sideOf_11 (shR_1 hX) (fun v3 => ?_)
  exact i_iret C hq dX12_sideOf_12
set_option maxRecDepth 100000 in
set_option maxHeartbeats 4000000 in
theorem c_X12_ownSide (l : Launch) (G : Gx) {K : Kx} (hK : K = kR) {x1 : Int} {M : Mem} {res : Int × Mem} (hM : OkM M) (ha : okS [aR 0, aI x1]) (hF : rM_ownSide x1 M = some res) : Ct l G K yX12_ownSide (wsM yX12_ownSide cX12_ownSide 2 (some .int)) rmX12_ownSide [aR 0, aI x1] M (some (aI res.1)) res.2 := by
  refine ct_of RX12 (by decide +kernel) rfl (hK ▸ kR_ok) hM ha (Nat.le_of_ble_eq_true rfl) hF ?_
  intro X C hl hG hX0 hN hR hq
  have hX : xK X = kR := hX0.trans hK
  show Im X 0 0 0 [(0, aR 0), (1, aI x1)] [] M res (rM_ownSide x1 M)
  unfold rM_ownSide
  have hRm : ∀ {rm : Room} {ny : Nat}, RmOk rmX12_ownSide rm ny → RmOk (xR X) rm ny := fun h => by rw [hR]; exact h
  refine i_aload_n C dX12_ownSide_0 rfl (q := 0) rfl ?_
  refine i_aload_n C dX12_ownSide_1 rfl (q := 0) rfl ?_
  refine i_getR C (k := 0) kX12 dX12_ownSide_2 (shR_0 hX) rfl (by decide) fl_X12_7 ?_
  refine i_aload_n C dX12_ownSide_5 rfl (q := 0) rfl ?_
  refine i_iload_n C dX12_ownSide_6 rfl (q := 1) rfl ?_
  refine i_cI (kc' := 0) (ks' := 0) 0 0 2 (fun q hq hM hS => crV C (as := [aI x1]) dX12_ownSide_7.1 kX12 (shR_0 hX) ml_X12_93 cal_X12_personAt cv_X12_personAt (hRm ⟨Nat.le_of_ble_eq_true rfl, Nat.le_of_ble_eq_true rfl⟩) rfl (Nat.le_of_ble_eq_true rfl) (c_X12_personAt (xl X) (xG X) hX hM ⟨hS.2.1, hS.1, trivial⟩ hq)) (Nat.le_of_ble_eq_true rfl) (Nat.le_of_ble_eq_true rfl) rfl rfl rfl (fun v2 M1 => ?_)
  refine i_iconst C dX12_ownSide_10 kI_0 ?_
  refine i_iadd C dX12_ownSide_11 ?_
  refine i_ald C dX12_ownSide_12 (shR_1 hX) (fun v3 => ?_)
  refine i_cI (kc' := 0) (ks' := 0) 0 0 2 (fun q hq hM hS => crV C (as := [aI v3]) dX12_ownSide_13.1 kX12 (shR_0 hX) ml_X12_96 cal_X12_sideOf cv_X12_sideOf (hRm ⟨Nat.le_of_ble_eq_true rfl, Nat.le_of_ble_eq_true rfl⟩) rfl (Nat.le_of_ble_eq_true rfl) (c_X12_sideOf (xl X) (xG X) hX hM ⟨hS.2.1, hS.1, trivial⟩ hq)) (Nat.le_of_ble_eq_true rfl) (Nat.le_of_ble_eq_true rfl) rfl rfl rfl (fun v5 M4 => ?_)
  exact i_iret C hq dX12_ownSide_16
set_option maxRecDepth 100000 in
set_option maxHeartbeats 4000000 in
theorem c_X12_isDead (l : Launch) (G : Gx) {K : Kx} (hK : K = kR) {x1 : Int} {M : Mem} {res : Int × Mem} (hM : OkM M) (ha : okS [aR 0, aI x1]) (hF : rM_isDead x1 M = some res) : Ct l G K yX12_isDead (wsM yX12_isDead cX12_isDead 2 (some .boolean)) rmX12_isDead [aR 0, aI x1] M (some (aI res.1)) res.2 := by
  refine ct_of RX12 (by decide +kernel) rfl (hK ▸ kR_ok) hM ha (Nat.le_of_ble_eq_true rfl) hF ?_
  intro X C hl hG hX0 hN hR hq
  have hX : xK X = kR := hX0.trans hK
  show Im X 0 0 0 [(0, aR 0), (1, aI x1)] [] M res (rM_isDead x1 M)
  unfold rM_isDead
  have hRm : ∀ {rm : Room} {ny : Nat}, RmOk rmX12_isDead rm ny → RmOk (xR X) rm ny := fun h => by rw [hR]; exact h
  refine i_aload_n C dX12_isDead_0 rfl (q := 0) rfl ?_
  refine i_getR C (k := 0) kX12 dX12_isDead_1 (shR_0 hX) rfl (by decide) fl_X12_7 ?_
  refine i_aload_n C dX12_isDead_4 rfl (q := 0) rfl ?_
  refine i_iload_n C dX12_isDead_5 rfl (q := 1) rfl ?_
  refine i_cI (kc' := 0) (ks' := 0) 0 0 2 (fun q hq hM hS => crV C (as := [aI x1]) dX12_isDead_6.1 kX12 (shR_0 hX) ml_X12_93 cal_X12_personAt cv_X12_personAt (hRm ⟨Nat.le_of_ble_eq_true rfl, Nat.le_of_ble_eq_true rfl⟩) rfl (Nat.le_of_ble_eq_true rfl) (c_X12_personAt (xl X) (xG X) hX hM ⟨hS.2.1, hS.1, trivial⟩ hq)) (Nat.le_of_ble_eq_true rfl) (Nat.le_of_ble_eq_true rfl) rfl rfl rfl (fun v2 M1 => ?_)
  refine i_bipush C dX12_isDead_9 kB_7 ?_
  refine i_iadd C dX12_isDead_11 ?_
  refine i_ald C dX12_isDead_12 (shR_1 hX) (fun v3 => ?_)
  refine i_iconst C dX12_isDead_13 kI_1 ?_
  refine i_icmp_ne (tgt := 21) C dX12_isDead_14 (by decide) ?_ ?_
  · refine i_iconst C dX12_isDead_21 kI_0 ?_
    exact i_zret C hq dX12_isDead_22 (Or.inl rfl)
  · refine i_iconst C dX12_isDead_17 kI_1 ?_
    refine i_goto (tgt := 22) C dX12_isDead_18 (by decide) ?_
    exact i_zret C hq dX12_isDead_22 (Or.inr rfl)
set_option maxRecDepth 100000 in
set_option maxHeartbeats 4000000 in
theorem c_X12_waits (l : Launch) (G : Gx) {K : Kx} (hK : K = kR) {x1 : Int} {M : Mem} {res : Int × Mem} (hM : OkM M) (ha : okS [aR 0, aI x1]) (hF : rM_waits x1 M = some res) : Ct l G K yX12_waits (wsM yX12_waits cX12_waits 2 (some .boolean)) rmX12_waits [aR 0, aI x1] M (some (aI res.1)) res.2 := by
  refine ct_of RX12 (by decide +kernel) rfl (hK ▸ kR_ok) hM ha (Nat.le_of_ble_eq_true rfl) hF ?_
  intro X C hl hG hX0 hN hR hq
  have hX : xK X = kR := hX0.trans hK
  show Im X 0 0 0 [(0, aR 0), (1, aI x1)] [] M res (rM_waits x1 M)
  unfold rM_waits
  have hRm : ∀ {rm : Room} {ny : Nat}, RmOk rmX12_waits rm ny → RmOk (xR X) rm ny := fun h => by rw [hR]; exact h
  refine i_aload_n C dX12_waits_0 rfl (q := 0) rfl ?_
  refine i_getR C (k := 0) kX12 dX12_waits_1 (shR_0 hX) rfl (by decide) fl_X12_7 ?_
  refine i_aload_n C dX12_waits_4 rfl (q := 0) rfl ?_
  refine i_iload_n C dX12_waits_5 rfl (q := 1) rfl ?_
  refine i_cI (kc' := 0) (ks' := 0) 0 0 2 (fun q hq hM hS => crV C (as := [aI x1]) dX12_waits_6.1 kX12 (shR_0 hX) ml_X12_93 cal_X12_personAt cv_X12_personAt (hRm ⟨Nat.le_of_ble_eq_true rfl, Nat.le_of_ble_eq_true rfl⟩) rfl (Nat.le_of_ble_eq_true rfl) (c_X12_personAt (xl X) (xG X) hX hM ⟨hS.2.1, hS.1, trivial⟩ hq)) (Nat.le_of_ble_eq_true rfl) (Nat.le_of_ble_eq_true rfl) rfl rfl rfl (fun v2 M1 => ?_)
  refine i_iconst C dX12_waits_9 kI_4 ?_
  refine i_iadd C dX12_waits_10 ?_
  refine i_ald C dX12_waits_11 (shR_1 hX) (fun v3 => ?_)
  refine i_if_lt (tgt := 19) C dX12_waits_12 (by decide) ?_ ?_
  · refine i_iconst C dX12_waits_19 kI_0 ?_
    exact i_zret C hq dX12_waits_20 (Or.inl rfl)
  · refine i_iconst C dX12_waits_15 kI_1 ?_
    refine i_goto (tgt := 20) C dX12_waits_16 (by decide) ?_
    exact i_zret C hq dX12_waits_20 (Or.inr rfl)
set_option maxRecDepth 100000 in
set_option maxHeartbeats 4000000 in
theorem c_X12_day (l : Launch) (G : Gx) {K : Kx} (hK : K = kR) {M : Mem} {res : Int × Mem} (hM : OkM M) (ha : okS [aR 0]) (hF : rM_day M = some res) : Ct l G K yX12_day (wsM yX12_day cX12_day 1 (some .int)) rmX12_day [aR 0] M (some (aI res.1)) res.2 := by
  refine ct_of RX12 (by decide +kernel) rfl (hK ▸ kR_ok) hM ha (Nat.le_of_ble_eq_true rfl) hF ?_
  intro X C hl hG hX0 hN hR hq
  have hX : xK X = kR := hX0.trans hK
  show Im X 0 0 0 [(0, aR 0)] [] M res (rM_day  M)
  unfold rM_day
  refine i_aload_n C dX12_day_0 rfl (q := 0) rfl ?_
  refine i_getR C (k := 0) kX12 dX12_day_1 (shR_0 hX) rfl (by decide) fl_X12_7 ?_
  refine i_iconst C dX12_day_4 kI_0 ?_
  refine i_ald C dX12_day_5 (shR_1 hX) (fun v1 => ?_)
  refine i_bipush C dX12_day_6 kB_24 ?_
  refine i_idiv C dX12_day_8 (by decide) ?_
  exact i_iret C hq dX12_day_9
set_option maxRecDepth 100000 in
set_option maxHeartbeats 4000000 in
theorem c_X12_cell (l : Launch) (G : Gx) {K : Kx} (hK : K = kR) {x1 : Int} {M : Mem} {res : Int × Mem} (hM : OkM M) (ha : okS [aR 0, aI x1]) (hF : rM_cell x1 M = some res) : Ct l G K yX12_cell (wsM yX12_cell cX12_cell 3 (some .int)) rmX12_cell [aR 0, aI x1] M (some (aI res.1)) res.2 := by
  refine ct_of RX12 (by decide +kernel) rfl (hK ▸ kR_ok) hM ha (Nat.le_of_ble_eq_true rfl) hF ?_
  intro X C hl hG hX0 hN hR hq
  have hX : xK X = kR := hX0.trans hK
  show Im X 0 0 0 [(0, aR 0), (1, aI x1)] [] M res (rM_cell x1 M)
  unfold rM_cell
  have hl2 : 2 < xn X := by rw [hN]; decide
  have hRm : ∀ {rm : Room} {ny : Nat}, RmOk rmX12_cell rm ny → RmOk (xR X) rm ny := fun h => by rw [hR]; exact h
  refine i_iload_n C dX12_cell_0 rfl (q := 1) rfl ?_
  refine i_cI (kc' := 0) (ks' := 0) 0 0 1 (fun q hq hM hS => crS C (as := [aI x1]) dX12_cell_1.1 ml_X12_99 cal_X12_isSide st_X12_isSide (hRm ⟨Nat.le_of_ble_eq_true rfl, Nat.le_of_ble_eq_true rfl⟩) rfl (Nat.le_of_ble_eq_true rfl) (c_X12_isSide (xl X) (xG X) hX hM ⟨hS.1, trivial⟩ hq)) (Nat.le_of_ble_eq_true rfl) (Nat.le_of_ble_eq_true rfl) rfl rfl rfl (fun v2 M1 => ?_)
  refine i_if_ne (tgt := 10) C dX12_cell_4 (by decide) ?_ ?_
  · refine i_aload_n C dX12_cell_10 rfl (q := 0) rfl ?_
    refine i_getR C (k := 0) kX12 dX12_cell_11 (shR_0 hX) rfl (by decide) fl_X12_7 ?_
    refine i_iconst C dX12_cell_14 kI_1 ?_
    refine i_ald C dX12_cell_15 (shR_1 hX) (fun v3 => ?_)
    refine i_bipush C dX12_cell_16 kB_16 ?_
    refine i_icmp_ne (tgt := 24) C dX12_cell_18 (by decide) ?_ ?_
    · refine i_aload_n C dX12_cell_24 rfl (q := 0) rfl ?_
      refine i_aload_n C dX12_cell_25 rfl (q := 0) rfl ?_
      refine i_getR C (k := 0) kX12 dX12_cell_26 (shR_0 hX) rfl (by decide) fl_X12_7 ?_
      refine i_iconst C dX12_cell_29 kI_1 ?_
      refine i_ald C dX12_cell_30 (shR_1 hX) (fun v4 => ?_)
      refine i_cI (kc' := 0) (ks' := 0) 0 0 2 (fun q hq hM hS => crV C (as := [aI v4]) dX12_cell_31.1 kX12 (shR_0 hX) ml_X12_90 cal_X12_cellAt cv_X12_cellAt (hRm ⟨Nat.le_of_ble_eq_true rfl, Nat.le_of_ble_eq_true rfl⟩) rfl (Nat.le_of_ble_eq_true rfl) (c_X12_cellAt (xl X) (xG X) hX hM ⟨hS.2.1, hS.1, trivial⟩ hq)) (Nat.le_of_ble_eq_true rfl) (Nat.le_of_ble_eq_true rfl) rfl rfl rfl (fun v6 M5 => ?_)
      refine i_istore_n C dX12_cell_34 rfl hl2 (L' := [(0, aR 0), (1, aI x1), (2, aI v6)]) rfl ?_
      refine i_aload_n C dX12_cell_35 rfl (q := 0) rfl ?_
      refine i_getR C (k := 0) kX12 dX12_cell_36 (shR_0 hX) rfl (by decide) fl_X12_7 ?_
      refine i_iload_n C dX12_cell_39 rfl (q := 2) rfl ?_
      refine i_iconst C dX12_cell_40 kI_0 ?_
      refine i_iadd C dX12_cell_41 ?_
      refine i_iload_n C dX12_cell_42 rfl (q := 1) rfl ?_
      refine i_ast C dX12_cell_43 (shR_1 hX) (fun M7 => ?_)
      refine i_aload_n C dX12_cell_44 rfl (q := 0) rfl ?_
      refine i_getR C (k := 0) kX12 dX12_cell_45 (shR_0 hX) rfl (by decide) fl_X12_7 ?_
      refine i_iload_n C dX12_cell_48 rfl (q := 2) rfl ?_
      refine i_iconst C dX12_cell_49 kI_1 ?_
      refine i_iadd C dX12_cell_50 ?_
      refine i_iconst C dX12_cell_51 kI_0 ?_
      refine i_ast C dX12_cell_52 (shR_1 hX) (fun M8 => ?_)
      refine i_aload_n C dX12_cell_53 rfl (q := 0) rfl ?_
      refine i_getR C (k := 0) kX12 dX12_cell_54 (shR_0 hX) rfl (by decide) fl_X12_7 ?_
      refine i_iload_n C dX12_cell_57 rfl (q := 2) rfl ?_
      refine i_iconst C dX12_cell_58 kI_2 ?_
      refine i_iadd C dX12_cell_59 ?_
      refine i_iconst C dX12_cell_60 kI_0 ?_
      refine i_ast C dX12_cell_61 (shR_1 hX) (fun M9 => ?_)
      refine i_aload_n C dX12_cell_62 rfl (q := 0) rfl ?_
      refine i_getR C (k := 0) kX12 dX12_cell_63 (shR_0 hX) rfl (by decide) fl_X12_7 ?_
      refine i_iconst C dX12_cell_66 kI_1 ?_
      refine i_dup2 C dX12_cell_67 rfl rfl ?_
      refine i_ald C dX12_cell_68 (shR_1 hX) (fun v10 => ?_)
      refine i_iconst C dX12_cell_69 kI_1 ?_
      refine i_iadd C dX12_cell_70 ?_
      refine i_ast C dX12_cell_71 (shR_1 hX) (fun M11 => ?_)
      refine i_aload_n C dX12_cell_72 rfl (q := 0) rfl ?_
      refine i_getR C (k := 0) kX12 dX12_cell_73 (shR_0 hX) rfl (by decide) fl_X12_7 ?_
      refine i_iconst C dX12_cell_76 kI_1 ?_
      refine i_ald C dX12_cell_77 (shR_1 hX) (fun v12 => ?_)
      refine i_iconst C dX12_cell_78 kI_1 ?_
      refine i_isub C dX12_cell_79 ?_
      exact i_iret C hq dX12_cell_80
    · refine i_ldc C dX12_cell_21 kc_X12_103 kI_m1000000003 ?_
      exact i_iret C hq dX12_cell_23
  · refine i_ldc C dX12_cell_7 kc_X12_102 kI_m1000000001 ?_
    exact i_iret C hq dX12_cell_9
set_option maxRecDepth 100000 in
set_option maxHeartbeats 4000000 in
theorem c_X12_water (l : Launch) (G : Gx) {K : Kx} (hK : K = kR) {x1 : Int} {x2 : Int} {x3 : Int} {M : Mem} {res : Int × Mem} (hM : OkM M) (ha : okS [aR 0, aI x1, aI x2, aI x3]) (hF : rM_water x1 x2 x3 M = some res) : Ct l G K yX12_water (wsM yX12_water cX12_water 4 (some .int)) rmX12_water [aR 0, aI x1, aI x2, aI x3] M (some (aI res.1)) res.2 := by
  refine ct_of RX12 (by decide +kernel) rfl (hK ▸ kR_ok) hM ha (Nat.le_of_ble_eq_true rfl) hF ?_
  intro X C hl hG hX0 hN hR hq
  have hX : xK X = kR := hX0.trans hK
  show Im X 0 0 0 [(0, aR 0), (1, aI x1), (2, aI x2), (3, aI x3)] [] M res (rM_water x1 x2 x3 M)
  unfold rM_water
  have hRm : ∀ {rm : Room} {ny : Nat}, RmOk rmX12_water rm ny → RmOk (xR X) rm ny := fun h => by rw [hR]; exact h
  refine i_aload_n C dX12_water_0 rfl (q := 0) rfl ?_
  refine i_iload_n C dX12_water_1 rfl (q := 1) rfl ?_
  refine i_cI (kc' := 0) (ks' := 0) 0 0 2 (fun q hq hM hS => crV C (as := [aI x1]) dX12_water_2.1 kX12 (shR_0 hX) ml_X12_104 cal_X12_isCell cv_X12_isCell (hRm ⟨Nat.le_of_ble_eq_true rfl, Nat.le_of_ble_eq_true rfl⟩) rfl (Nat.le_of_ble_eq_true rfl) (c_X12_isCell (xl X) (xG X) hX hM ⟨hS.2.1, hS.1, trivial⟩ hq)) (Nat.le_of_ble_eq_true rfl) (Nat.le_of_ble_eq_true rfl) rfl rfl rfl (fun v2 M1 => ?_)
  refine i_if_eq (tgt := 57) C dX12_water_5 (by decide) ?_ ?_
  · refine i_ldc C dX12_water_57 kc_X12_102 kI_m1000000001 ?_
    exact i_iret C hq dX12_water_59
  · refine i_iload_n C dX12_water_8 rfl (q := 2) rfl ?_
    refine i_i2l C dX12_water_9 ?_
    refine i_lconst C dX12_water_10 kL_0 ?_
    refine i_lconst C dX12_water_11 kL_1 ?_
    refine i_cI (kc' := 0) (ks' := 0) 0 0 3 (fun q hq hM hS => crS C (as := [aL x2, aL 0, aL 1]) dX12_water_12.1 ml_X12_78 cal_X12_isIn st_X12_isIn (hRm ⟨Nat.le_of_ble_eq_true rfl, Nat.le_of_ble_eq_true rfl⟩) rfl (Nat.le_of_ble_eq_true rfl) (c_X12_isIn (xl X) (xG X) hX hM ⟨hS.2.2.1, hS.2.1, hS.1, trivial⟩ hq)) (Nat.le_of_ble_eq_true rfl) (Nat.le_of_ble_eq_true rfl) rfl rfl rfl (fun v4 M3 => ?_)
    refine i_if_eq (tgt := 57) C dX12_water_15 (by decide) ?_ ?_
    · refine i_ldc C dX12_water_57 kc_X12_102 kI_m1000000001 ?_
      exact i_iret C hq dX12_water_59
    · refine i_iload_n C dX12_water_18 rfl (q := 3) rfl ?_
      refine i_i2l C dX12_water_19 ?_
      refine i_lconst C dX12_water_20 kL_0 ?_
      refine i_iload_n C dX12_water_21 rfl (q := 2) rfl ?_
      refine i_jn (fun j => ∀ (p5 : Int) (M7 : Mem), Im X 0 0 34 [(0, aR 0), (1, aI x1), (2, aI x2), (3, aI x3)] [aL p5, aL 0, aL x3] M7 res (j p5 M7)) ?_ (fun j6 hj6 => ?_)
      · intro p5 M7
        refine i_cI (kc' := 0) (ks' := 0) 0 0 3 (fun q hq hM hS => crS C (as := [aL x3, aL 0, aL p5]) dX12_water_34.1 ml_X12_78 cal_X12_isIn st_X12_isIn (hRm ⟨Nat.le_of_ble_eq_true rfl, Nat.le_of_ble_eq_true rfl⟩) rfl (Nat.le_of_ble_eq_true rfl) (c_X12_isIn (xl X) (xG X) hX hM ⟨hS.2.2.1, hS.2.1, hS.1, trivial⟩ hq)) (Nat.le_of_ble_eq_true rfl) (Nat.le_of_ble_eq_true rfl) rfl rfl rfl (fun v9 M8 => ?_)
        refine i_if_eq (tgt := 57) C dX12_water_37 (by decide) ?_ ?_
        · refine i_ldc C dX12_water_57 kc_X12_102 kI_m1000000001 ?_
          exact i_iret C hq dX12_water_59
        · refine i_aload_n C dX12_water_40 rfl (q := 0) rfl ?_
          refine i_aload_n C dX12_water_41 rfl (q := 0) rfl ?_
          refine i_iload_n C dX12_water_42 rfl (q := 1) rfl ?_
          refine i_cI (kc' := 0) (ks' := 0) 0 0 2 (fun q hq hM hS => crV C (as := [aI x1]) dX12_water_43.1 kX12 (shR_0 hX) ml_X12_90 cal_X12_cellAt cv_X12_cellAt (hRm ⟨Nat.le_of_ble_eq_true rfl, Nat.le_of_ble_eq_true rfl⟩) rfl (Nat.le_of_ble_eq_true rfl) (c_X12_cellAt (xl X) (xG X) hX hM ⟨hS.2.1, hS.1, trivial⟩ hq)) (Nat.le_of_ble_eq_true rfl) (Nat.le_of_ble_eq_true rfl) rfl rfl rfl (fun v11 M10 => ?_)
          refine i_iconst C dX12_water_46 kI_1 ?_
          refine i_iadd C dX12_water_47 ?_
          refine i_iload_n C dX12_water_48 rfl (q := 2) rfl ?_
          refine i_iadd C dX12_water_49 ?_
          refine i_iload_n C dX12_water_50 rfl (q := 3) rfl ?_
          refine i_cI (kc' := 0) (ks' := 0) 0 0 3 (fun q hq hM hS => crV C (as := [aI (w32 ((w32 (v11 + 1)) + x2)), aI x3]) dX12_water_51.1 kX12 (shR_0 hX) ml_X12_111 cal_X12_becomes cv_X12_becomes (hRm ⟨Nat.le_of_ble_eq_true rfl, Nat.le_of_ble_eq_true rfl⟩) rfl (Nat.le_of_ble_eq_true rfl) (c_X12_becomes (xl X) (xG X) hX hM ⟨hS.2.2.1, hS.2.1, hS.1, trivial⟩ hq)) (Nat.le_of_ble_eq_true rfl) (Nat.le_of_ble_eq_true rfl) rfl rfl rfl (fun v13 M12 => ?_)
          refine i_goto (tgt := 59) C dX12_water_54 (by decide) ?_
          exact i_iret C hq dX12_water_59
      refine i_if_ne (tgt := 31) C dX12_water_22 (by decide) ?_ ?_
      · refine i_ldc2 C dX12_water_31 k2_X12_109 kJ_9999 ?_
        exact (hj6 9999 M3)
      · refine i_ldc2 C dX12_water_25 k2_X12_107 kJ_999 ?_
        refine i_goto (tgt := 34) C dX12_water_28 (by decide) ?_
        exact (hj6 999 M3)
set_option maxRecDepth 100000 in
set_option maxHeartbeats 4000000 in
theorem c_X12_person (l : Launch) (G : Gx) {K : Kx} (hK : K = kR) {x1 : Int} {x2 : Int} {x3 : Int} {M : Mem} {res : Int × Mem} (hM : OkM M) (ha : okS [aR 0, aI x1, aI x2, aI x3]) (hF : rM_person x1 x2 x3 M = some res) : Ct l G K yX12_person (wsM yX12_person cX12_person 5 (some .int)) rmX12_person [aR 0, aI x1, aI x2, aI x3] M (some (aI res.1)) res.2 := by
  refine ct_of RX12 (by decide +kernel) rfl (hK ▸ kR_ok) hM ha (Nat.le_of_ble_eq_true rfl) hF ?_
  intro X C hl hG hX0 hN hR hq
  have hX : xK X = kR := hX0.trans hK
  show Im X 0 0 0 [(0, aR 0), (1, aI x1), (2, aI x2), (3, aI x3)] [] M res (rM_person x1 x2 x3 M)
  unfold rM_person
  have hl4 : 4 < xn X := by rw [hN]; decide
  have hRm : ∀ {rm : Room} {ny : Nat}, RmOk rmX12_person rm ny → RmOk (xR X) rm ny := fun h => by rw [hR]; exact h
  refine i_aload_n C dX12_person_0 rfl (q := 0) rfl ?_
  refine i_iload_n C dX12_person_1 rfl (q := 1) rfl ?_
  refine i_cI (kc' := 0) (ks' := 0) 0 0 2 (fun q hq hM hS => crV C (as := [aI x1]) dX12_person_2.1 kX12 (shR_0 hX) ml_X12_104 cal_X12_isCell cv_X12_isCell (hRm ⟨Nat.le_of_ble_eq_true rfl, Nat.le_of_ble_eq_true rfl⟩) rfl (Nat.le_of_ble_eq_true rfl) (c_X12_isCell (xl X) (xG X) hX hM ⟨hS.2.1, hS.1, trivial⟩ hq)) (Nat.le_of_ble_eq_true rfl) (Nat.le_of_ble_eq_true rfl) rfl rfl rfl (fun v2 M1 => ?_)
  refine i_if_eq (tgt := 32) C dX12_person_5 (by decide) ?_ ?_
  · refine i_ldc C dX12_person_32 kc_X12_102 kI_m1000000001 ?_
    exact i_iret C hq dX12_person_34
  · refine i_iload_n C dX12_person_8 rfl (q := 2) rfl ?_
    refine i_i2l C dX12_person_9 ?_
    refine i_lconst C dX12_person_10 kL_0 ?_
    refine i_ldc2 C dX12_person_11 k2_X12_115 kJ_99 ?_
    refine i_cI (kc' := 0) (ks' := 0) 0 0 3 (fun q hq hM hS => crS C (as := [aL x2, aL 0, aL 99]) dX12_person_14.1 ml_X12_78 cal_X12_isIn st_X12_isIn (hRm ⟨Nat.le_of_ble_eq_true rfl, Nat.le_of_ble_eq_true rfl⟩) rfl (Nat.le_of_ble_eq_true rfl) (c_X12_isIn (xl X) (xG X) hX hM ⟨hS.2.2.1, hS.2.1, hS.1, trivial⟩ hq)) (Nat.le_of_ble_eq_true rfl) (Nat.le_of_ble_eq_true rfl) rfl rfl rfl (fun v4 M3 => ?_)
    refine i_if_eq (tgt := 32) C dX12_person_17 (by decide) ?_ ?_
    · refine i_ldc C dX12_person_32 kc_X12_102 kI_m1000000001 ?_
      exact i_iret C hq dX12_person_34
    · refine i_iload_n C dX12_person_20 rfl (q := 3) rfl ?_
      refine i_i2l C dX12_person_21 ?_
      refine i_lconst C dX12_person_22 kL_0 ?_
      refine i_ldc2 C dX12_person_23 k2_X12_117 kJ_3 ?_
      refine i_cI (kc' := 0) (ks' := 0) 0 0 3 (fun q hq hM hS => crS C (as := [aL x3, aL 0, aL 3]) dX12_person_26.1 ml_X12_78 cal_X12_isIn st_X12_isIn (hRm ⟨Nat.le_of_ble_eq_true rfl, Nat.le_of_ble_eq_true rfl⟩) rfl (Nat.le_of_ble_eq_true rfl) (c_X12_isIn (xl X) (xG X) hX hM ⟨hS.2.2.1, hS.2.1, hS.1, trivial⟩ hq)) (Nat.le_of_ble_eq_true rfl) (Nat.le_of_ble_eq_true rfl) rfl rfl rfl (fun v6 M5 => ?_)
      refine i_if_ne (tgt := 35) C dX12_person_29 (by decide) ?_ ?_
      · refine i_aload_n C dX12_person_35 rfl (q := 0) rfl ?_
        refine i_getR C (k := 0) kX12 dX12_person_36 (shR_0 hX) rfl (by decide) fl_X12_7 ?_
        refine i_iconst C dX12_person_39 kI_2 ?_
        refine i_ald C dX12_person_40 (shR_1 hX) (fun v7 => ?_)
        refine i_bipush C dX12_person_41 kB_20 ?_
        refine i_icmp_ne (tgt := 49) C dX12_person_43 (by decide) ?_ ?_
        · refine i_aload_n C dX12_person_49 rfl (q := 0) rfl ?_
          refine i_aload_n C dX12_person_50 rfl (q := 0) rfl ?_
          refine i_getR C (k := 0) kX12 dX12_person_51 (shR_0 hX) rfl (by decide) fl_X12_7 ?_
          refine i_iconst C dX12_person_54 kI_2 ?_
          refine i_ald C dX12_person_55 (shR_1 hX) (fun v8 => ?_)
          refine i_cI (kc' := 0) (ks' := 0) 0 0 2 (fun q hq hM hS => crV C (as := [aI v8]) dX12_person_56.1 kX12 (shR_0 hX) ml_X12_93 cal_X12_personAt cv_X12_personAt (hRm ⟨Nat.le_of_ble_eq_true rfl, Nat.le_of_ble_eq_true rfl⟩) rfl (Nat.le_of_ble_eq_true rfl) (c_X12_personAt (xl X) (xG X) hX hM ⟨hS.2.1, hS.1, trivial⟩ hq)) (Nat.le_of_ble_eq_true rfl) (Nat.le_of_ble_eq_true rfl) rfl rfl rfl (fun v10 M9 => ?_)
          refine i_istore C dX12_person_59 hl4 (L' := [(0, aR 0), (1, aI x1), (2, aI x2), (3, aI x3), (4, aI v10)]) rfl ?_
          refine i_aload_n C dX12_person_61 rfl (q := 0) rfl ?_
          refine i_getR C (k := 0) kX12 dX12_person_62 (shR_0 hX) rfl (by decide) fl_X12_7 ?_
          refine i_iload C dX12_person_65 (q := 4) rfl ?_
          refine i_iconst C dX12_person_67 kI_0 ?_
          refine i_iadd C dX12_person_68 ?_
          refine i_iload_n C dX12_person_69 rfl (q := 1) rfl ?_
          refine i_ast C dX12_person_70 (shR_1 hX) (fun M11 => ?_)
          refine i_aload_n C dX12_person_71 rfl (q := 0) rfl ?_
          refine i_getR C (k := 0) kX12 dX12_person_72 (shR_0 hX) rfl (by decide) fl_X12_7 ?_
          refine i_iload C dX12_person_75 (q := 4) rfl ?_
          refine i_iconst C dX12_person_77 kI_1 ?_
          refine i_iadd C dX12_person_78 ?_
          refine i_iload_n C dX12_person_79 rfl (q := 2) rfl ?_
          refine i_ast C dX12_person_80 (shR_1 hX) (fun M12 => ?_)
          refine i_aload_n C dX12_person_81 rfl (q := 0) rfl ?_
          refine i_getR C (k := 0) kX12 dX12_person_82 (shR_0 hX) rfl (by decide) fl_X12_7 ?_
          refine i_iload C dX12_person_85 (q := 4) rfl ?_
          refine i_iconst C dX12_person_87 kI_2 ?_
          refine i_iadd C dX12_person_88 ?_
          refine i_iload_n C dX12_person_89 rfl (q := 3) rfl ?_
          refine i_ast C dX12_person_90 (shR_1 hX) (fun M13 => ?_)
          refine i_aload_n C dX12_person_91 rfl (q := 0) rfl ?_
          refine i_getR C (k := 0) kX12 dX12_person_92 (shR_0 hX) rfl (by decide) fl_X12_7 ?_
          refine i_iload C dX12_person_95 (q := 4) rfl ?_
          refine i_iconst C dX12_person_97 kI_3 ?_
          refine i_iadd C dX12_person_98 ?_
          refine i_iload_n C dX12_person_99 rfl (q := 1) rfl ?_
          refine i_ast C dX12_person_100 (shR_1 hX) (fun M14 => ?_)
          refine i_aload_n C dX12_person_101 rfl (q := 0) rfl ?_
          refine i_getR C (k := 0) kX12 dX12_person_102 (shR_0 hX) rfl (by decide) fl_X12_7 ?_
          refine i_iload C dX12_person_105 (q := 4) rfl ?_
          refine i_iconst C dX12_person_107 kI_4 ?_
          refine i_iadd C dX12_person_108 ?_
          refine i_iconst C dX12_person_109 kI_m1 ?_
          refine i_ast C dX12_person_110 (shR_1 hX) (fun M15 => ?_)
          refine i_aload_n C dX12_person_111 rfl (q := 0) rfl ?_
          refine i_getR C (k := 0) kX12 dX12_person_112 (shR_0 hX) rfl (by decide) fl_X12_7 ?_
          refine i_iload C dX12_person_115 (q := 4) rfl ?_
          refine i_iconst C dX12_person_117 kI_5 ?_
          refine i_iadd C dX12_person_118 ?_
          refine i_iconst C dX12_person_119 kI_m1 ?_
          refine i_ast C dX12_person_120 (shR_1 hX) (fun M16 => ?_)
          refine i_aload_n C dX12_person_121 rfl (q := 0) rfl ?_
          refine i_getR C (k := 0) kX12 dX12_person_122 (shR_0 hX) rfl (by decide) fl_X12_7 ?_
          refine i_iload C dX12_person_125 (q := 4) rfl ?_
          refine i_bipush C dX12_person_127 kB_6 ?_
          refine i_iadd C dX12_person_129 ?_
          refine i_iconst C dX12_person_130 kI_0 ?_
          refine i_ast C dX12_person_131 (shR_1 hX) (fun M17 => ?_)
          refine i_aload_n C dX12_person_132 rfl (q := 0) rfl ?_
          refine i_getR C (k := 0) kX12 dX12_person_133 (shR_0 hX) rfl (by decide) fl_X12_7 ?_
          refine i_iload C dX12_person_136 (q := 4) rfl ?_
          refine i_bipush C dX12_person_138 kB_7 ?_
          refine i_iadd C dX12_person_140 ?_
          refine i_iconst C dX12_person_141 kI_0 ?_
          refine i_ast C dX12_person_142 (shR_1 hX) (fun M18 => ?_)
          refine i_aload_n C dX12_person_143 rfl (q := 0) rfl ?_
          refine i_getR C (k := 0) kX12 dX12_person_144 (shR_0 hX) rfl (by decide) fl_X12_7 ?_
          refine i_iconst C dX12_person_147 kI_2 ?_
          refine i_dup2 C dX12_person_148 rfl rfl ?_
          refine i_ald C dX12_person_149 (shR_1 hX) (fun v19 => ?_)
          refine i_iconst C dX12_person_150 kI_1 ?_
          refine i_iadd C dX12_person_151 ?_
          refine i_ast C dX12_person_152 (shR_1 hX) (fun M20 => ?_)
          refine i_aload_n C dX12_person_153 rfl (q := 0) rfl ?_
          refine i_getR C (k := 0) kX12 dX12_person_154 (shR_0 hX) rfl (by decide) fl_X12_7 ?_
          refine i_iconst C dX12_person_157 kI_2 ?_
          refine i_ald C dX12_person_158 (shR_1 hX) (fun v21 => ?_)
          refine i_iconst C dX12_person_159 kI_1 ?_
          refine i_isub C dX12_person_160 ?_
          exact i_iret C hq dX12_person_161
        · refine i_ldc C dX12_person_46 kc_X12_103 kI_m1000000003 ?_
          exact i_iret C hq dX12_person_48
      · refine i_ldc C dX12_person_32 kc_X12_102 kI_m1000000001 ?_
        exact i_iret C hq dX12_person_34
set_option maxRecDepth 100000 in
set_option maxHeartbeats 4000000 in
theorem c_X12_is (l : Launch) (G : Gx) {K : Kx} (hK : K = kR) {x1 : Int} {x2 : Int} {M : Mem} {res : Int × Mem} (hM : OkM M) (ha : okS [aR 0, aI x1, aI x2]) (hF : rM_is x1 x2 M = some res) : Ct l G K yX12_is (wsM yX12_is cX12_is 4 (some .int)) rmX12_is [aR 0, aI x1, aI x2] M (some (aI res.1)) res.2 := by
  refine ct_of RX12 (by decide +kernel) rfl (hK ▸ kR_ok) hM ha (Nat.le_of_ble_eq_true rfl) hF ?_
  intro X C hl hG hX0 hN hR hq
  have hX : xK X = kR := hX0.trans hK
  show Im X 0 0 0 [(0, aR 0), (1, aI x1), (2, aI x2)] [] M res (rM_is x1 x2 M)
  unfold rM_is
  have hl3 : 3 < xn X := by rw [hN]; decide
  have hRm : ∀ {rm : Room} {ny : Nat}, RmOk rmX12_is rm ny → RmOk (xR X) rm ny := fun h => by rw [hR]; exact h
  refine i_aload_n C dX12_is_0 rfl (q := 0) rfl ?_
  refine i_iload_n C dX12_is_1 rfl (q := 1) rfl ?_
  refine i_cI (kc' := 0) (ks' := 0) 0 0 2 (fun q hq hM hS => crV C (as := [aI x1]) dX12_is_2.1 kX12 (shR_0 hX) ml_X12_119 cal_X12_isPerson cv_X12_isPerson (hRm ⟨Nat.le_of_ble_eq_true rfl, Nat.le_of_ble_eq_true rfl⟩) rfl (Nat.le_of_ble_eq_true rfl) (c_X12_isPerson (xl X) (xG X) hX hM ⟨hS.2.1, hS.1, trivial⟩ hq)) (Nat.le_of_ble_eq_true rfl) (Nat.le_of_ble_eq_true rfl) rfl rfl rfl (fun v2 M1 => ?_)
  refine i_if_eq (tgt := 20) C dX12_is_5 (by decide) ?_ ?_
  · refine i_ldc C dX12_is_20 kc_X12_102 kI_m1000000001 ?_
    exact i_iret C hq dX12_is_22
  · refine i_iload_n C dX12_is_8 rfl (q := 2) rfl ?_
    refine i_i2l C dX12_is_9 ?_
    refine i_lconst C dX12_is_10 kL_0 ?_
    refine i_ldc2 C dX12_is_11 k2_X12_122 kJ_7 ?_
    refine i_cI (kc' := 0) (ks' := 0) 0 0 3 (fun q hq hM hS => crS C (as := [aL x2, aL 0, aL 7]) dX12_is_14.1 ml_X12_78 cal_X12_isIn st_X12_isIn (hRm ⟨Nat.le_of_ble_eq_true rfl, Nat.le_of_ble_eq_true rfl⟩) rfl (Nat.le_of_ble_eq_true rfl) (c_X12_isIn (xl X) (xG X) hX hM ⟨hS.2.2.1, hS.2.1, hS.1, trivial⟩ hq)) (Nat.le_of_ble_eq_true rfl) (Nat.le_of_ble_eq_true rfl) rfl rfl rfl (fun v4 M3 => ?_)
    refine i_if_ne (tgt := 23) C dX12_is_17 (by decide) ?_ ?_
    · refine i_aload_n C dX12_is_23 rfl (q := 0) rfl ?_
      refine i_iload_n C dX12_is_24 rfl (q := 1) rfl ?_
      refine i_cI (kc' := 0) (ks' := 0) 0 0 2 (fun q hq hM hS => crV C (as := [aI x1]) dX12_is_25.1 kX12 (shR_0 hX) ml_X12_93 cal_X12_personAt cv_X12_personAt (hRm ⟨Nat.le_of_ble_eq_true rfl, Nat.le_of_ble_eq_true rfl⟩) rfl (Nat.le_of_ble_eq_true rfl) (c_X12_personAt (xl X) (xG X) hX hM ⟨hS.2.1, hS.1, trivial⟩ hq)) (Nat.le_of_ble_eq_true rfl) (Nat.le_of_ble_eq_true rfl) rfl rfl rfl (fun v6 M5 => ?_)
      refine i_istore_n C dX12_is_28 rfl hl3 (L' := [(0, aR 0), (1, aI x1), (2, aI x2), (3, aI v6)]) rfl ?_
      refine i_iload_n C dX12_is_29 rfl (q := 2) rfl ?_
      refine i_split (fun e10 => ?_) (fun e10 => ?_)
      · refine i_tswIn (tgt := 64) C dX12_is_30 e10 (by decide) (by decide) rfl (by decide) ?_
        refine i_aload_n C dX12_is_64 rfl (q := 0) rfl ?_
        refine i_getR C (k := 0) kX12 dX12_is_65 (shR_0 hX) rfl (by decide) fl_X12_7 ?_
        refine i_iload_n C dX12_is_68 rfl (q := 3) rfl ?_
        refine i_iconst C dX12_is_69 kI_3 ?_
        refine i_iadd C dX12_is_70 ?_
        refine i_ald C dX12_is_71 (shR_1 hX) (fun v7 => ?_)
        refine i_cI (kc' := 0) (ks' := 0) 0 0 1 (fun q hq hM hS => crS C (as := [aI v7]) dX12_is_72.1 ml_X12_124 cal_X12_orNone st_X12_orNone (hRm ⟨Nat.le_of_ble_eq_true rfl, Nat.le_of_ble_eq_true rfl⟩) rfl (Nat.le_of_ble_eq_true rfl) (c_X12_orNone (xl X) (xG X) hX hM ⟨hS.1, trivial⟩ hq)) (Nat.le_of_ble_eq_true rfl) (Nat.le_of_ble_eq_true rfl) rfl rfl rfl (fun v9 M8 => ?_)
        exact i_iret C hq dX12_is_75
      refine i_split (fun e14 => ?_) (fun e14 => ?_)
      · refine i_tswIn (tgt := 76) C dX12_is_30 e14 (by decide) (by decide) rfl (by decide) ?_
        refine i_aload_n C dX12_is_76 rfl (q := 0) rfl ?_
        refine i_getR C (k := 0) kX12 dX12_is_77 (shR_0 hX) rfl (by decide) fl_X12_7 ?_
        refine i_iload_n C dX12_is_80 rfl (q := 3) rfl ?_
        refine i_iconst C dX12_is_81 kI_4 ?_
        refine i_iadd C dX12_is_82 ?_
        refine i_ald C dX12_is_83 (shR_1 hX) (fun v11 => ?_)
        refine i_cI (kc' := 0) (ks' := 0) 0 0 1 (fun q hq hM hS => crS C (as := [aI v11]) dX12_is_84.1 ml_X12_124 cal_X12_orNone st_X12_orNone (hRm ⟨Nat.le_of_ble_eq_true rfl, Nat.le_of_ble_eq_true rfl⟩) rfl (Nat.le_of_ble_eq_true rfl) (c_X12_orNone (xl X) (xG X) hX hM ⟨hS.1, trivial⟩ hq)) (Nat.le_of_ble_eq_true rfl) (Nat.le_of_ble_eq_true rfl) rfl rfl rfl (fun v13 M12 => ?_)
        exact i_iret C hq dX12_is_87
      refine i_split (fun e16 => ?_) (fun e16 => ?_)
      · refine i_tswIn (tgt := 88) C dX12_is_30 e16 (by decide) (by decide) rfl (by decide) ?_
        refine i_aload_n C dX12_is_88 rfl (q := 0) rfl ?_
        refine i_getR C (k := 0) kX12 dX12_is_89 (shR_0 hX) rfl (by decide) fl_X12_7 ?_
        refine i_iload_n C dX12_is_92 rfl (q := 3) rfl ?_
        refine i_bipush C dX12_is_93 kB_7 ?_
        refine i_iadd C dX12_is_95 ?_
        refine i_ald C dX12_is_96 (shR_1 hX) (fun v15 => ?_)
        exact i_iret C hq dX12_is_97
      refine i_split (fun e18 => ?_) (fun e18 => ?_)
      · refine i_tswIn (tgt := 98) C dX12_is_30 e18 (by decide) (by decide) rfl (by decide) ?_
        refine i_aload_n C dX12_is_98 rfl (q := 0) rfl ?_
        refine i_getR C (k := 0) kX12 dX12_is_99 (shR_0 hX) rfl (by decide) fl_X12_7 ?_
        refine i_bipush C dX12_is_102 kB_15 ?_
        refine i_iload_n C dX12_is_104 rfl (q := 2) rfl ?_
        refine i_iadd C dX12_is_105 ?_
        refine i_bipush C dX12_is_106 kB_6 ?_
        refine i_isub C dX12_is_108 ?_
        refine i_ald C dX12_is_109 (shR_1 hX) (fun v17 => ?_)
        refine i_iload_n C dX12_is_110 rfl (q := 1) rfl ?_
        refine i_ishr C dX12_is_111 ?_
        refine i_iconst C dX12_is_112 kI_1 ?_
        refine i_iand C dX12_is_113 ?_
        exact i_iret C hq dX12_is_114
      refine i_split (fun e20 => ?_) (fun e20 => ?_)
      · refine i_tswIn (tgt := 98) C dX12_is_30 e20 (by decide) (by decide) rfl (by decide) ?_
        refine i_aload_n C dX12_is_98 rfl (q := 0) rfl ?_
        refine i_getR C (k := 0) kX12 dX12_is_99 (shR_0 hX) rfl (by decide) fl_X12_7 ?_
        refine i_bipush C dX12_is_102 kB_15 ?_
        refine i_iload_n C dX12_is_104 rfl (q := 2) rfl ?_
        refine i_iadd C dX12_is_105 ?_
        refine i_bipush C dX12_is_106 kB_6 ?_
        refine i_isub C dX12_is_108 ?_
        refine i_ald C dX12_is_109 (shR_1 hX) (fun v19 => ?_)
        refine i_iload_n C dX12_is_110 rfl (q := 1) rfl ?_
        refine i_ishr C dX12_is_111 ?_
        refine i_iconst C dX12_is_112 kI_1 ?_
        refine i_iand C dX12_is_113 ?_
        exact i_iret C hq dX12_is_114
      refine i_tswOut (tgt := 115) C dX12_is_30 (by omega) (by decide) ?_
      refine i_aload_n C dX12_is_115 rfl (q := 0) rfl ?_
      refine i_getR C (k := 0) kX12 dX12_is_116 (shR_0 hX) rfl (by decide) fl_X12_7 ?_
      refine i_iload_n C dX12_is_119 rfl (q := 3) rfl ?_
      refine i_iload_n C dX12_is_120 rfl (q := 2) rfl ?_
      refine i_iadd C dX12_is_121 ?_
      refine i_ald C dX12_is_122 (shR_1 hX) (fun v21 => ?_)
      exact i_iret C hq dX12_is_123
    · refine i_ldc C dX12_is_20 kc_X12_102 kI_m1000000001 ?_
      exact i_iret C hq dX12_is_22
set_option maxRecDepth 100000 in
set_option maxHeartbeats 4000000 in
theorem c_X12_be (l : Launch) (G : Gx) {K : Kx} (hK : K = kR) {x1 : Int} {x2 : Int} {x3 : Int} {M : Mem} {res : Int × Mem} (hM : OkM M) (ha : okS [aR 0, aI x1, aI x2, aI x3]) (hF : rM_be x1 x2 x3 M = some res) : Ct l G K yX12_be (wsM yX12_be cX12_be 4 (some .int)) rmX12_be [aR 0, aI x1, aI x2, aI x3] M (some (aI res.1)) res.2 := by
  refine ct_of RX12 (by decide +kernel) rfl (hK ▸ kR_ok) hM ha (Nat.le_of_ble_eq_true rfl) hF ?_
  intro X C hl hG hX0 hN hR hq
  have hX : xK X = kR := hX0.trans hK
  show Im X 0 0 0 [(0, aR 0), (1, aI x1), (2, aI x2), (3, aI x3)] [] M res (rM_be x1 x2 x3 M)
  unfold rM_be
  have hRm : ∀ {rm : Room} {ny : Nat}, RmOk rmX12_be rm ny → RmOk (xR X) rm ny := fun h => by rw [hR]; exact h
  refine i_aload_n C dX12_be_0 rfl (q := 0) rfl ?_
  refine i_iload_n C dX12_be_1 rfl (q := 1) rfl ?_
  refine i_cI (kc' := 0) (ks' := 0) 0 0 2 (fun q hq hM hS => crV C (as := [aI x1]) dX12_be_2.1 kX12 (shR_0 hX) ml_X12_119 cal_X12_isPerson cv_X12_isPerson (hRm ⟨Nat.le_of_ble_eq_true rfl, Nat.le_of_ble_eq_true rfl⟩) rfl (Nat.le_of_ble_eq_true rfl) (c_X12_isPerson (xl X) (xG X) hX hM ⟨hS.2.1, hS.1, trivial⟩ hq)) (Nat.le_of_ble_eq_true rfl) (Nat.le_of_ble_eq_true rfl) rfl rfl rfl (fun v2 M1 => ?_)
  refine i_if_eq (tgt := 58) C dX12_be_5 (by decide) ?_ ?_
  · refine i_ldc C dX12_be_58 kc_X12_102 kI_m1000000001 ?_
    exact i_iret C hq dX12_be_60
  · refine i_iload_n C dX12_be_8 rfl (q := 2) rfl ?_
    refine i_i2l C dX12_be_9 ?_
    refine i_lconst C dX12_be_10 kL_1 ?_
    refine i_ldc2 C dX12_be_11 k2_X12_127 kJ_2 ?_
    refine i_cI (kc' := 0) (ks' := 0) 0 0 3 (fun q hq hM hS => crS C (as := [aL x2, aL 1, aL 2]) dX12_be_14.1 ml_X12_78 cal_X12_isIn st_X12_isIn (hRm ⟨Nat.le_of_ble_eq_true rfl, Nat.le_of_ble_eq_true rfl⟩) rfl (Nat.le_of_ble_eq_true rfl) (c_X12_isIn (xl X) (xG X) hX hM ⟨hS.2.2.1, hS.2.1, hS.1, trivial⟩ hq)) (Nat.le_of_ble_eq_true rfl) (Nat.le_of_ble_eq_true rfl) rfl rfl rfl (fun v4 M3 => ?_)
    refine i_if_eq (tgt := 58) C dX12_be_17 (by decide) ?_ ?_
    · refine i_ldc C dX12_be_58 kc_X12_102 kI_m1000000001 ?_
      exact i_iret C hq dX12_be_60
    · refine i_iload_n C dX12_be_20 rfl (q := 3) rfl ?_
      refine i_i2l C dX12_be_21 ?_
      refine i_lconst C dX12_be_22 kL_0 ?_
      refine i_iload_n C dX12_be_23 rfl (q := 2) rfl ?_
      refine i_iconst C dX12_be_24 kI_1 ?_
      refine i_jn (fun j => ∀ (p5 : Int) (M7 : Mem), Im X 0 0 37 [(0, aR 0), (1, aI x1), (2, aI x2), (3, aI x3)] [aL p5, aL 0, aL x3] M7 res (j p5 M7)) ?_ (fun j6 hj6 => ?_)
      · intro p5 M7
        refine i_cI (kc' := 0) (ks' := 0) 0 0 3 (fun q hq hM hS => crS C (as := [aL x3, aL 0, aL p5]) dX12_be_37.1 ml_X12_78 cal_X12_isIn st_X12_isIn (hRm ⟨Nat.le_of_ble_eq_true rfl, Nat.le_of_ble_eq_true rfl⟩) rfl (Nat.le_of_ble_eq_true rfl) (c_X12_isIn (xl X) (xG X) hX hM ⟨hS.2.2.1, hS.2.1, hS.1, trivial⟩ hq)) (Nat.le_of_ble_eq_true rfl) (Nat.le_of_ble_eq_true rfl) rfl rfl rfl (fun v9 M8 => ?_)
        refine i_if_eq (tgt := 58) C dX12_be_40 (by decide) ?_ ?_
        · refine i_ldc C dX12_be_58 kc_X12_102 kI_m1000000001 ?_
          exact i_iret C hq dX12_be_60
        · refine i_aload_n C dX12_be_43 rfl (q := 0) rfl ?_
          refine i_aload_n C dX12_be_44 rfl (q := 0) rfl ?_
          refine i_iload_n C dX12_be_45 rfl (q := 1) rfl ?_
          refine i_cI (kc' := 0) (ks' := 0) 0 0 2 (fun q hq hM hS => crV C (as := [aI x1]) dX12_be_46.1 kX12 (shR_0 hX) ml_X12_93 cal_X12_personAt cv_X12_personAt (hRm ⟨Nat.le_of_ble_eq_true rfl, Nat.le_of_ble_eq_true rfl⟩) rfl (Nat.le_of_ble_eq_true rfl) (c_X12_personAt (xl X) (xG X) hX hM ⟨hS.2.1, hS.1, trivial⟩ hq)) (Nat.le_of_ble_eq_true rfl) (Nat.le_of_ble_eq_true rfl) rfl rfl rfl (fun v11 M10 => ?_)
          refine i_iload_n C dX12_be_49 rfl (q := 2) rfl ?_
          refine i_iadd C dX12_be_50 ?_
          refine i_iload_n C dX12_be_51 rfl (q := 3) rfl ?_
          refine i_cI (kc' := 0) (ks' := 0) 0 0 3 (fun q hq hM hS => crV C (as := [aI (w32 (v11 + x2)), aI x3]) dX12_be_52.1 kX12 (shR_0 hX) ml_X12_111 cal_X12_becomes cv_X12_becomes (hRm ⟨Nat.le_of_ble_eq_true rfl, Nat.le_of_ble_eq_true rfl⟩) rfl (Nat.le_of_ble_eq_true rfl) (c_X12_becomes (xl X) (xG X) hX hM ⟨hS.2.2.1, hS.2.1, hS.1, trivial⟩ hq)) (Nat.le_of_ble_eq_true rfl) (Nat.le_of_ble_eq_true rfl) rfl rfl rfl (fun v13 M12 => ?_)
          refine i_goto (tgt := 60) C dX12_be_55 (by decide) ?_
          exact i_iret C hq dX12_be_60
      refine i_icmp_ne (tgt := 34) C dX12_be_25 (by decide) ?_ ?_
      · refine i_ldc2 C dX12_be_34 k2_X12_117 kJ_3 ?_
        exact (hj6 3 M3)
      · refine i_ldc2 C dX12_be_28 k2_X12_115 kJ_99 ?_
        refine i_goto (tgt := 37) C dX12_be_31 (by decide) ?_
        exact (hj6 99 M3)
set_option maxRecDepth 100000 in
set_option maxHeartbeats 4000000 in
theorem c_X12_die (l : Launch) (G : Gx) {K : Kx} (hK : K = kR) {x1 : Int} {M : Mem} {res : Int × Mem} (hM : OkM M) (ha : okS [aR 0, aI x1]) (hF : rM_die x1 M = some res) : Ct l G K yX12_die (wsM yX12_die cX12_die 4 (some .int)) rmX12_die [aR 0, aI x1] M (some (aI res.1)) res.2 := by
  refine ct_of RX12 (by decide +kernel) rfl (hK ▸ kR_ok) hM ha (Nat.le_of_ble_eq_true rfl) hF ?_
  intro X C hl hG hX0 hN hR hq
  have hX : xK X = kR := hX0.trans hK
  show Im X 0 0 0 [(0, aR 0), (1, aI x1)] [] M res (rM_die x1 M)
  unfold rM_die
  have hl2 : 2 < xn X := by rw [hN]; decide
  have hl3 : 3 < xn X := by rw [hN]; decide
  have hRm : ∀ {rm : Room} {ny : Nat}, RmOk rmX12_die rm ny → RmOk (xR X) rm ny := fun h => by rw [hR]; exact h
  refine i_aload_n C dX12_die_0 rfl (q := 0) rfl ?_
  refine i_iload_n C dX12_die_1 rfl (q := 1) rfl ?_
  refine i_cI (kc' := 0) (ks' := 0) 0 0 2 (fun q hq hM hS => crV C (as := [aI x1]) dX12_die_2.1 kX12 (shR_0 hX) ml_X12_119 cal_X12_isPerson cv_X12_isPerson (hRm ⟨Nat.le_of_ble_eq_true rfl, Nat.le_of_ble_eq_true rfl⟩) rfl (Nat.le_of_ble_eq_true rfl) (c_X12_isPerson (xl X) (xG X) hX hM ⟨hS.2.1, hS.1, trivial⟩ hq)) (Nat.le_of_ble_eq_true rfl) (Nat.le_of_ble_eq_true rfl) rfl rfl rfl (fun v2 M1 => ?_)
  refine i_if_ne (tgt := 11) C dX12_die_5 (by decide) ?_ ?_
  · refine i_aload_n C dX12_die_11 rfl (q := 0) rfl ?_
    refine i_iload_n C dX12_die_12 rfl (q := 1) rfl ?_
    refine i_cI (kc' := 0) (ks' := 0) 0 0 2 (fun q hq hM hS => crV C (as := [aI x1]) dX12_die_13.1 kX12 (shR_0 hX) ml_X12_129 cal_X12_isDead cv_X12_isDead (hRm ⟨Nat.le_of_ble_eq_true rfl, Nat.le_of_ble_eq_true rfl⟩) rfl (Nat.le_of_ble_eq_true rfl) (c_X12_isDead (xl X) (xG X) hX hM ⟨hS.2.1, hS.1, trivial⟩ hq)) (Nat.le_of_ble_eq_true rfl) (Nat.le_of_ble_eq_true rfl) rfl rfl rfl (fun v4 M3 => ?_)
    refine i_if_eq (tgt := 22) C dX12_die_16 (by decide) ?_ ?_
    · refine i_aload_n C dX12_die_22 rfl (q := 0) rfl ?_
      refine i_iload_n C dX12_die_23 rfl (q := 1) rfl ?_
      refine i_cI (kc' := 0) (ks' := 0) 0 0 2 (fun q hq hM hS => crV C (as := [aI x1]) dX12_die_24.1 kX12 (shR_0 hX) ml_X12_93 cal_X12_personAt cv_X12_personAt (hRm ⟨Nat.le_of_ble_eq_true rfl, Nat.le_of_ble_eq_true rfl⟩) rfl (Nat.le_of_ble_eq_true rfl) (c_X12_personAt (xl X) (xG X) hX hM ⟨hS.2.1, hS.1, trivial⟩ hq)) (Nat.le_of_ble_eq_true rfl) (Nat.le_of_ble_eq_true rfl) rfl rfl rfl (fun v6 M5 => ?_)
      refine i_istore_n C dX12_die_27 rfl hl2 (L' := [(0, aR 0), (1, aI x1), (2, aI v6)]) rfl ?_
      refine i_aload_n C dX12_die_28 rfl (q := 0) rfl ?_
      refine i_iload_n C dX12_die_29 rfl (q := 1) rfl ?_
      refine i_cI (kc' := 0) (ks' := 0) 0 0 2 (fun q hq hM hS => crV C (as := [aI x1]) dX12_die_30.1 kX12 (shR_0 hX) ml_X12_133 cal_X12_waits cv_X12_waits (hRm ⟨Nat.le_of_ble_eq_true rfl, Nat.le_of_ble_eq_true rfl⟩) rfl (Nat.le_of_ble_eq_true rfl) (c_X12_waits (xl X) (xG X) hX hM ⟨hS.2.1, hS.1, trivial⟩ hq)) (Nat.le_of_ble_eq_true rfl) (Nat.le_of_ble_eq_true rfl) rfl rfl rfl (fun v8 M7 => ?_)
      refine i_jn (fun j => ∀ (p9 : Int) (M11 : Mem), Im X 0 0 56 [(0, aR 0), (1, aI x1), (2, aI v6)] [aI p9] M11 res (j p9 M11)) ?_ (fun j10 hj10 => ?_)
      · intro p9 M11
        refine i_istore_n C dX12_die_56 rfl hl3 (L' := [(0, aR 0), (1, aI x1), (2, aI v6), (3, aI p9)]) rfl ?_
        refine i_aload_n C dX12_die_57 rfl (q := 0) rfl ?_
        refine i_getR C (k := 0) kX12 dX12_die_58 (shR_0 hX) rfl (by decide) fl_X12_7 ?_
        refine i_bipush C dX12_die_61 kB_15 ?_
        refine i_iload_n C dX12_die_63 rfl (q := 3) rfl ?_
        refine i_iadd C dX12_die_64 ?_
        refine i_dup2 C dX12_die_65 rfl rfl ?_
        refine i_ald C dX12_die_66 (shR_1 hX) (fun v12 => ?_)
        refine i_iconst C dX12_die_67 kI_1 ?_
        refine i_iload_n C dX12_die_68 rfl (q := 1) rfl ?_
        refine i_ishl C dX12_die_69 ?_
        refine i_ior C dX12_die_70 ?_
        refine i_ast C dX12_die_71 (shR_1 hX) (fun M13 => ?_)
        refine i_aload_n C dX12_die_72 rfl (q := 0) rfl ?_
        refine i_getR C (k := 0) kX12 dX12_die_73 (shR_0 hX) rfl (by decide) fl_X12_7 ?_
        refine i_iload_n C dX12_die_76 rfl (q := 2) rfl ?_
        refine i_bipush C dX12_die_77 kB_7 ?_
        refine i_iadd C dX12_die_79 ?_
        refine i_iconst C dX12_die_80 kI_1 ?_
        refine i_ast C dX12_die_81 (shR_1 hX) (fun M14 => ?_)
        refine i_aload_n C dX12_die_82 rfl (q := 0) rfl ?_
        refine i_getR C (k := 0) kX12 dX12_die_83 (shR_0 hX) rfl (by decide) fl_X12_7 ?_
        refine i_iload_n C dX12_die_86 rfl (q := 2) rfl ?_
        refine i_iconst C dX12_die_87 kI_3 ?_
        refine i_iadd C dX12_die_88 ?_
        refine i_iconst C dX12_die_89 kI_m1 ?_
        refine i_ast C dX12_die_90 (shR_1 hX) (fun M15 => ?_)
        refine i_aload_n C dX12_die_91 rfl (q := 0) rfl ?_
        refine i_getR C (k := 0) kX12 dX12_die_92 (shR_0 hX) rfl (by decide) fl_X12_7 ?_
        refine i_iload_n C dX12_die_95 rfl (q := 2) rfl ?_
        refine i_iconst C dX12_die_96 kI_4 ?_
        refine i_iadd C dX12_die_97 ?_
        refine i_iconst C dX12_die_98 kI_m1 ?_
        refine i_ast C dX12_die_99 (shR_1 hX) (fun M16 => ?_)
        refine i_aload_n C dX12_die_100 rfl (q := 0) rfl ?_
        refine i_getR C (k := 0) kX12 dX12_die_101 (shR_0 hX) rfl (by decide) fl_X12_7 ?_
        refine i_iload_n C dX12_die_104 rfl (q := 2) rfl ?_
        refine i_iconst C dX12_die_105 kI_5 ?_
        refine i_iadd C dX12_die_106 ?_
        refine i_iconst C dX12_die_107 kI_m1 ?_
        refine i_ast C dX12_die_108 (shR_1 hX) (fun M17 => ?_)
        refine i_iconst C dX12_die_109 kI_1 ?_
        exact i_iret C hq dX12_die_110
      refine i_if_eq (tgt := 44) C dX12_die_33 (by decide) ?_ ?_
      · refine i_aload_n C dX12_die_44 rfl (q := 0) rfl ?_
        refine i_aload_n C dX12_die_45 rfl (q := 0) rfl ?_
        refine i_getR C (k := 0) kX12 dX12_die_46 (shR_0 hX) rfl (by decide) fl_X12_7 ?_
        refine i_iload_n C dX12_die_49 rfl (q := 2) rfl ?_
        refine i_iconst C dX12_die_50 kI_3 ?_
        refine i_iadd C dX12_die_51 ?_
        refine i_ald C dX12_die_52 (shR_1 hX) (fun v18 => ?_)
        refine i_cI (kc' := 0) (ks' := 0) 0 0 2 (fun q hq hM hS => crV C (as := [aI v18]) dX12_die_53.1 kX12 (shR_0 hX) ml_X12_96 cal_X12_sideOf cv_X12_sideOf (hRm ⟨Nat.le_of_ble_eq_true rfl, Nat.le_of_ble_eq_true rfl⟩) rfl (Nat.le_of_ble_eq_true rfl) (c_X12_sideOf (xl X) (xG X) hX hM ⟨hS.2.1, hS.1, trivial⟩ hq)) (Nat.le_of_ble_eq_true rfl) (Nat.le_of_ble_eq_true rfl) rfl rfl rfl (fun v20 M19 => ?_)
        exact (hj10 v20 M19)
      · refine i_aload_n C dX12_die_36 rfl (q := 0) rfl ?_
        refine i_iload_n C dX12_die_37 rfl (q := 1) rfl ?_
        refine i_cI (kc' := 0) (ks' := 0) 0 0 2 (fun q hq hM hS => crV C (as := [aI x1]) dX12_die_38.1 kX12 (shR_0 hX) ml_X12_135 cal_X12_ownSide cv_X12_ownSide (hRm ⟨Nat.le_of_ble_eq_true rfl, Nat.le_of_ble_eq_true rfl⟩) rfl (Nat.le_of_ble_eq_true rfl) (c_X12_ownSide (xl X) (xG X) hX hM ⟨hS.2.1, hS.1, trivial⟩ hq)) (Nat.le_of_ble_eq_true rfl) (Nat.le_of_ble_eq_true rfl) rfl rfl rfl (fun v22 M21 => ?_)
        refine i_goto (tgt := 56) C dX12_die_41 (by decide) ?_
        exact (hj10 v22 M21)
    · refine i_ldc C dX12_die_19 kc_X12_132 kI_m1000000002 ?_
      exact i_iret C hq dX12_die_21
  · refine i_ldc C dX12_die_8 kc_X12_102 kI_m1000000001 ?_
    exact i_iret C hq dX12_die_10
set_option maxRecDepth 100000 in
set_option maxHeartbeats 4000000 in
theorem c_X12_fits (l : Launch) (G : Gx) {K : Kx} (hK : K = kR) {x1 : Int} {x2 : Int} {M : Mem} {res : Int × Mem} (hM : OkM M) (ha : okS [aR 0, aI x1, aI x2]) (hF : rM_fits x1 x2 M = some res) : Ct l G K yX12_fits (wsM yX12_fits cX12_fits 3 (some .boolean)) rmX12_fits [aR 0, aI x1, aI x2] M (some (aI res.1)) res.2 := by
  refine ct_of RX12 (by decide +kernel) rfl (hK ▸ kR_ok) hM ha (Nat.le_of_ble_eq_true rfl) hF ?_
  intro X C hl hG hX0 hN hR hq
  have hX : xK X = kR := hX0.trans hK
  show Im X 0 0 0 [(0, aR 0), (1, aI x1), (2, aI x2)] [] M res (rM_fits x1 x2 M)
  unfold rM_fits
  have hRm : ∀ {rm : Room} {ny : Nat}, RmOk rmX12_fits rm ny → RmOk (xR X) rm ny := fun h => by rw [hR]; exact h
  refine i_iload_n C dX12_fits_0 rfl (q := 1) rfl ?_
  refine i_split (fun e3 => ?_) (fun e3 => ?_)
  · refine i_tswIn (tgt := 36) C dX12_fits_1 e3 (by decide) (by decide) rfl (by decide) ?_
    refine i_iload_n C dX12_fits_36 rfl (q := 2) rfl ?_
    refine i_i2l C dX12_fits_37 ?_
    refine i_lconst C dX12_fits_38 kL_0 ?_
    refine i_ldc2 C dX12_fits_39 k2_X12_138 kJ_9 ?_
    refine i_cI (kc' := 0) (ks' := 0) 0 0 3 (fun q hq hM hS => crS C (as := [aL x2, aL 0, aL 9]) dX12_fits_42.1 ml_X12_78 cal_X12_isIn st_X12_isIn (hRm ⟨Nat.le_of_ble_eq_true rfl, Nat.le_of_ble_eq_true rfl⟩) rfl (Nat.le_of_ble_eq_true rfl) (c_X12_isIn (xl X) (xG X) hX hM ⟨hS.2.2.1, hS.2.1, hS.1, trivial⟩ hq)) (Nat.le_of_ble_eq_true rfl) (Nat.le_of_ble_eq_true rfl) rfl rfl rfl (fun v2 M1 => ?_)
    exact i_zretQ C hq dX12_fits_45
  refine i_split (fun e4 => ?_) (fun e4 => ?_)
  · refine i_tswIn (tgt := 76) C dX12_fits_1 e4 (by decide) (by decide) rfl (by decide) ?_
    refine i_iload_n C dX12_fits_76 rfl (q := 2) rfl ?_
    refine i_if_ne (tgt := 84) C dX12_fits_77 (by decide) ?_ ?_
    · refine i_iconst C dX12_fits_84 kI_0 ?_
      exact i_zret C hq dX12_fits_85 (Or.inl rfl)
    · refine i_iconst C dX12_fits_80 kI_1 ?_
      refine i_goto (tgt := 85) C dX12_fits_81 (by decide) ?_
      exact i_zret C hq dX12_fits_85 (Or.inr rfl)
  refine i_split (fun e7 => ?_) (fun e7 => ?_)
  · refine i_tswIn (tgt := 46) C dX12_fits_1 e7 (by decide) (by decide) rfl (by decide) ?_
    refine i_iload_n C dX12_fits_46 rfl (q := 2) rfl ?_
    refine i_i2l C dX12_fits_47 ?_
    refine i_lconst C dX12_fits_48 kL_0 ?_
    refine i_ldc2 C dX12_fits_49 k2_X12_109 kJ_9999 ?_
    refine i_cI (kc' := 0) (ks' := 0) 0 0 3 (fun q hq hM hS => crS C (as := [aL x2, aL 0, aL 9999]) dX12_fits_52.1 ml_X12_78 cal_X12_isIn st_X12_isIn (hRm ⟨Nat.le_of_ble_eq_true rfl, Nat.le_of_ble_eq_true rfl⟩) rfl (Nat.le_of_ble_eq_true rfl) (c_X12_isIn (xl X) (xG X) hX hM ⟨hS.2.2.1, hS.2.1, hS.1, trivial⟩ hq)) (Nat.le_of_ble_eq_true rfl) (Nat.le_of_ble_eq_true rfl) rfl rfl rfl (fun v6 M5 => ?_)
    exact i_zretQ C hq dX12_fits_55
  refine i_split (fun e10 => ?_) (fun e10 => ?_)
  · refine i_tswIn (tgt := 56) C dX12_fits_1 e10 (by decide) (by decide) rfl (by decide) ?_
    refine i_iload_n C dX12_fits_56 rfl (q := 2) rfl ?_
    refine i_i2l C dX12_fits_57 ?_
    refine i_lconst C dX12_fits_58 kL_0 ?_
    refine i_ldc2 C dX12_fits_59 k2_X12_140 kJ_60 ?_
    refine i_cI (kc' := 0) (ks' := 0) 0 0 3 (fun q hq hM hS => crS C (as := [aL x2, aL 0, aL 60]) dX12_fits_62.1 ml_X12_78 cal_X12_isIn st_X12_isIn (hRm ⟨Nat.le_of_ble_eq_true rfl, Nat.le_of_ble_eq_true rfl⟩) rfl (Nat.le_of_ble_eq_true rfl) (c_X12_isIn (xl X) (xG X) hX hM ⟨hS.2.2.1, hS.2.1, hS.1, trivial⟩ hq)) (Nat.le_of_ble_eq_true rfl) (Nat.le_of_ble_eq_true rfl) rfl rfl rfl (fun v9 M8 => ?_)
    exact i_zretQ C hq dX12_fits_65
  refine i_split (fun e13 => ?_) (fun e13 => ?_)
  · refine i_tswIn (tgt := 66) C dX12_fits_1 e13 (by decide) (by decide) rfl (by decide) ?_
    refine i_iload_n C dX12_fits_66 rfl (q := 2) rfl ?_
    refine i_i2l C dX12_fits_67 ?_
    refine i_lconst C dX12_fits_68 kL_1 ?_
    refine i_ldc2 C dX12_fits_69 k2_X12_138 kJ_9 ?_
    refine i_cI (kc' := 0) (ks' := 0) 0 0 3 (fun q hq hM hS => crS C (as := [aL x2, aL 1, aL 9]) dX12_fits_72.1 ml_X12_78 cal_X12_isIn st_X12_isIn (hRm ⟨Nat.le_of_ble_eq_true rfl, Nat.le_of_ble_eq_true rfl⟩) rfl (Nat.le_of_ble_eq_true rfl) (c_X12_isIn (xl X) (xG X) hX hM ⟨hS.2.2.1, hS.2.1, hS.1, trivial⟩ hq)) (Nat.le_of_ble_eq_true rfl) (Nat.le_of_ble_eq_true rfl) rfl rfl rfl (fun v12 M11 => ?_)
    exact i_zretQ C hq dX12_fits_75
  refine i_tswOut (tgt := 76) C dX12_fits_1 (by omega) (by decide) ?_
  refine i_iload_n C dX12_fits_76 rfl (q := 2) rfl ?_
  refine i_if_ne (tgt := 84) C dX12_fits_77 (by decide) ?_ ?_
  · refine i_iconst C dX12_fits_84 kI_0 ?_
    exact i_zret C hq dX12_fits_85 (Or.inl rfl)
  · refine i_iconst C dX12_fits_80 kI_1 ?_
    refine i_goto (tgt := 85) C dX12_fits_81 (by decide) ?_
    exact i_zret C hq dX12_fits_85 (Or.inr rfl)
set_option maxRecDepth 100000 in
set_option maxHeartbeats 4000000 in
theorem w_X12_newTie_15 {X : Xc} (C : Cx X RX12 cX12_newTie (some .int)) (hX : xK X = kR) (hN : xn X = 7) (hR : xR X = rmX12_newTie) {res : Int × Mem} (hq : Rq X (some (aI res.1)) res.2) (y1 : Int) (y2 : Int) (y3 : Int) (y4 : Int) (y5 : Int) {k39 : Mem → Option (Int × Mem)} (hk39 : ∀ (M : Mem), Im X 0 0 39 [(0, aR 0), (1, aI y1), (2, aI y2), (3, aI y3), (4, aI y4), (5, aI y5)] [] M res (k39 M)) : ∀ (n : Nat) (u6 : Int) (M : Mem), Im X 0 0 15 [(0, aR 0), (1, aI y1), (2, aI y2), (3, aI y3), (4, aI y4), (5, aI y5), (6, aI u6)] [] M res (lpX12_newTie_15 y1 y2 y3 y4 y5 k39 n u6 M) := by
  have hl5 : 5 < xn X := by rw [hN]; decide
  have hl6 : 6 < xn X := by rw [hN]; decide
  have hRm : ∀ {rm : Room} {ny : Nat}, RmOk rmX12_newTie rm ny → RmOk (xR X) rm ny := fun h => by rw [hR]; exact h
  intro n
  induction n with
  | zero => intro _ _; exact i_none
  | succ n ih =>
    intro u6 M
    unfold lpX12_newTie_15
    refine i_iload C dX12_newTie_15 (q := 6) rfl ?_
    refine i_bipush C dX12_newTie_17 kB_10 ?_
    refine i_icmp_ge (tgt := 39) C dX12_newTie_19 (by decide) ?_ ?_
    · exact i_sub [0, 1, 2, 3, 4, 5] rfl (hk39  M)
    · refine i_aload_n C dX12_newTie_22 rfl (q := 0) rfl ?_
      refine i_getR C (k := 0) kX12 dX12_newTie_23 (shR_0 hX) rfl (by decide) fl_X12_7 ?_
      refine i_iload C dX12_newTie_26 (q := 5) rfl ?_
      refine i_iload C dX12_newTie_28 (q := 6) rfl ?_
      refine i_iadd C dX12_newTie_30 ?_
      refine i_iconst C dX12_newTie_31 kI_0 ?_
      refine i_ast C dX12_newTie_32 (shR_1 hX) (fun M4 => ?_)
      refine i_iincN (L' := fun v5 => [(0, aR 0), (1, aI y1), (2, aI y2), (3, aI y3), (4, aI y4), (5, aI y5), (6, aI v5)]) C dX12_newTie_33 (q := 6) rfl hl6 (fun _ => rfl) (fun v5 => ?_)
      refine i_goto (tgt := 15) C dX12_newTie_36 (by decide) ?_
      exact (ih v5 M4)
set_option maxRecDepth 100000 in
set_option maxHeartbeats 4000000 in
theorem c_X12_newTie (l : Launch) (G : Gx) {K : Kx} (hK : K = kR) {x1 : Int} {x2 : Int} {x3 : Int} {x4 : Int} {M : Mem} {res : Int × Mem} (hM : OkM M) (ha : okS [aR 0, aI x1, aI x2, aI x3, aI x4]) (hF : rM_newTie x1 x2 x3 x4 M = some res) : Ct l G K yX12_newTie (wsM yX12_newTie cX12_newTie 7 (some .int)) rmX12_newTie [aR 0, aI x1, aI x2, aI x3, aI x4] M (some (aI res.1)) res.2 := by
  refine ct_of RX12 (by decide +kernel) rfl (hK ▸ kR_ok) hM ha (Nat.le_of_ble_eq_true rfl) hF ?_
  intro X C hl hG hX0 hN hR hq
  have hX : xK X = kR := hX0.trans hK
  show Im X 0 0 0 [(0, aR 0), (1, aI x1), (2, aI x2), (3, aI x3), (4, aI x4)] [] M res (rM_newTie x1 x2 x3 x4 M)
  unfold rM_newTie
  have hl5 : 5 < xn X := by rw [hN]; decide
  have hl6 : 6 < xn X := by rw [hN]; decide
  have hRm : ∀ {rm : Room} {ny : Nat}, RmOk rmX12_newTie rm ny → RmOk (xR X) rm ny := fun h => by rw [hR]; exact h
  refine i_aload_n C dX12_newTie_0 rfl (q := 0) rfl ?_
  refine i_aload_n C dX12_newTie_1 rfl (q := 0) rfl ?_
  refine i_getR C (k := 0) kX12 dX12_newTie_2 (shR_0 hX) rfl (by decide) fl_X12_7 ?_
  refine i_iconst C dX12_newTie_5 kI_3 ?_
  refine i_ald C dX12_newTie_6 (shR_1 hX) (fun v1 => ?_)
  refine i_cI (kc' := 0) (ks' := 0) 0 0 2 (fun q hq hM hS => crV C (as := [aI v1]) dX12_newTie_7.1 kX12 (shR_0 hX) ml_X12_86 cal_X12_tieAt cv_X12_tieAt (hRm ⟨Nat.le_of_ble_eq_true rfl, Nat.le_of_ble_eq_true rfl⟩) rfl (Nat.le_of_ble_eq_true rfl) (c_X12_tieAt (xl X) (xG X) hX hM ⟨hS.2.1, hS.1, trivial⟩ hq)) (Nat.le_of_ble_eq_true rfl) (Nat.le_of_ble_eq_true rfl) rfl rfl rfl (fun v3 M2 => ?_)
  refine i_istore C dX12_newTie_10 hl5 (L' := [(0, aR 0), (1, aI x1), (2, aI x2), (3, aI x3), (4, aI x4), (5, aI v3)]) rfl ?_
  refine i_iconst C dX12_newTie_12 kI_0 ?_
  refine i_istore C dX12_newTie_13 hl6 (L' := [(0, aR 0), (1, aI x1), (2, aI x2), (3, aI x3), (4, aI x4), (5, aI v3), (6, aI 0)]) rfl ?_
  refine (w_X12_newTie_15 C hX hN hR hq x1 x2 x3 x4 v3 (fun M6 => ?_) FU 0 M2)
  refine i_aload_n C dX12_newTie_39 rfl (q := 0) rfl ?_
  refine i_getR C (k := 0) kX12 dX12_newTie_40 (shR_0 hX) rfl (by decide) fl_X12_7 ?_
  refine i_iload C dX12_newTie_43 (q := 5) rfl ?_
  refine i_iload_n C dX12_newTie_45 rfl (q := 1) rfl ?_
  refine i_ast C dX12_newTie_46 (shR_1 hX) (fun M7 => ?_)
  refine i_aload_n C dX12_newTie_47 rfl (q := 0) rfl ?_
  refine i_getR C (k := 0) kX12 dX12_newTie_48 (shR_0 hX) rfl (by decide) fl_X12_7 ?_
  refine i_iload C dX12_newTie_51 (q := 5) rfl ?_
  refine i_iconst C dX12_newTie_53 kI_1 ?_
  refine i_iadd C dX12_newTie_54 ?_
  refine i_iload_n C dX12_newTie_55 rfl (q := 2) rfl ?_
  refine i_ast C dX12_newTie_56 (shR_1 hX) (fun M8 => ?_)
  refine i_aload_n C dX12_newTie_57 rfl (q := 0) rfl ?_
  refine i_getR C (k := 0) kX12 dX12_newTie_58 (shR_0 hX) rfl (by decide) fl_X12_7 ?_
  refine i_iload C dX12_newTie_61 (q := 5) rfl ?_
  refine i_iconst C dX12_newTie_63 kI_2 ?_
  refine i_iadd C dX12_newTie_64 ?_
  refine i_iload_n C dX12_newTie_65 rfl (q := 3) rfl ?_
  refine i_ast C dX12_newTie_66 (shR_1 hX) (fun M9 => ?_)
  refine i_aload_n C dX12_newTie_67 rfl (q := 0) rfl ?_
  refine i_getR C (k := 0) kX12 dX12_newTie_68 (shR_0 hX) rfl (by decide) fl_X12_7 ?_
  refine i_iload C dX12_newTie_71 (q := 5) rfl ?_
  refine i_iconst C dX12_newTie_73 kI_3 ?_
  refine i_iadd C dX12_newTie_74 ?_
  refine i_iload C dX12_newTie_75 (q := 4) rfl ?_
  refine i_ast C dX12_newTie_77 (shR_1 hX) (fun M10 => ?_)
  refine i_aload_n C dX12_newTie_78 rfl (q := 0) rfl ?_
  refine i_getR C (k := 0) kX12 dX12_newTie_79 (shR_0 hX) rfl (by decide) fl_X12_7 ?_
  refine i_iload C dX12_newTie_82 (q := 5) rfl ?_
  refine i_iconst C dX12_newTie_84 kI_5 ?_
  refine i_iadd C dX12_newTie_85 ?_
  refine i_iload_n C dX12_newTie_86 rfl (q := 1) rfl ?_
  refine i_iconst C dX12_newTie_87 kI_1 ?_
  refine i_jn (fun j => ∀ (p11 : Int) (M13 : Mem), Im X 0 0 97 [(0, aR 0), (5, aI v3)] [aI p11, aI (w32 (v3 + 5)), aR 1] M13 res (j p11 M13)) ?_ (fun j12 hj12 => ?_)
  · intro p11 M13
    refine i_ast C dX12_newTie_97 (shR_1 hX) (fun M14 => ?_)
    refine i_aload_n C dX12_newTie_98 rfl (q := 0) rfl ?_
    refine i_getR C (k := 0) kX12 dX12_newTie_99 (shR_0 hX) rfl (by decide) fl_X12_7 ?_
    refine i_iload C dX12_newTie_102 (q := 1) rfl ?_
    refine i_bipush C dX12_newTie_104 kB_8 ?_
    refine i_iadd C dX12_newTie_106 ?_
    refine i_iconst C dX12_newTie_107 kI_m1 ?_
    refine i_ast C dX12_newTie_108 (shR_1 hX) (fun M15 => ?_)
    refine i_aload_n C dX12_newTie_109 rfl (q := 0) rfl ?_
    refine i_getR C (k := 0) kX12 dX12_newTie_110 (shR_0 hX) rfl (by decide) fl_X12_7 ?_
    refine i_sipush C dX12_newTie_113 kS_630 ?_
    refine i_bipush C dX12_newTie_116 kB_17 ?_
    refine i_aload_n C dX12_newTie_118 rfl (q := 0) rfl ?_
    refine i_getR C (k := 0) kX12 dX12_newTie_119 (shR_0 hX) rfl (by decide) fl_X12_7 ?_
    refine i_iconst C dX12_newTie_122 kI_3 ?_
    refine i_ald C dX12_newTie_123 (shR_1 hX) (fun v16 => ?_)
    refine i_imul C dX12_newTie_124 ?_
    refine i_iadd C dX12_newTie_125 ?_
    refine i_iconst C dX12_newTie_126 kI_0 ?_
    refine i_ast C dX12_newTie_127 (shR_1 hX) (fun M17 => ?_)
    refine i_aload_n C dX12_newTie_128 rfl (q := 0) rfl ?_
    refine i_getR C (k := 0) kX12 dX12_newTie_129 (shR_0 hX) rfl (by decide) fl_X12_7 ?_
    refine i_iconst C dX12_newTie_132 kI_3 ?_
    refine i_dup2 C dX12_newTie_133 rfl rfl ?_
    refine i_ald C dX12_newTie_134 (shR_1 hX) (fun v18 => ?_)
    refine i_iconst C dX12_newTie_135 kI_1 ?_
    refine i_iadd C dX12_newTie_136 ?_
    refine i_ast C dX12_newTie_137 (shR_1 hX) (fun M19 => ?_)
    refine i_aload_n C dX12_newTie_138 rfl (q := 0) rfl ?_
    refine i_getR C (k := 0) kX12 dX12_newTie_139 (shR_0 hX) rfl (by decide) fl_X12_7 ?_
    refine i_iconst C dX12_newTie_142 kI_3 ?_
    refine i_ald C dX12_newTie_143 (shR_1 hX) (fun v20 => ?_)
    refine i_iconst C dX12_newTie_144 kI_1 ?_
    refine i_isub C dX12_newTie_145 ?_
    exact i_iret C hq dX12_newTie_146
  refine i_icmp_ne (tgt := 96) C dX12_newTie_88 (by decide) ?_ ?_
  · refine i_iconst C dX12_newTie_96 kI_0 ?_
    exact i_sub [0, 5] rfl (hj12 0 M10)
  · refine i_bipush C dX12_newTie_91 kB_23 ?_
    refine i_goto (tgt := 97) C dX12_newTie_93 (by decide) ?_
    exact i_sub [0, 5] rfl (hj12 23 M10)
set_option maxRecDepth 100000 in
set_option maxHeartbeats 4000000 in
theorem c_X12_tie (l : Launch) (G : Gx) {K : Kx} (hK : K = kR) {x1 : Int} {x2 : Int} {x3 : Int} {x4 : Int} {M : Mem} {res : Int × Mem} (hM : OkM M) (ha : okS [aR 0, aI x1, aI x2, aI x3, aI x4]) (hF : rM_tie x1 x2 x3 x4 M = some res) : Ct l G K yX12_tie (wsM yX12_tie cX12_tie 6 (some .int)) rmX12_tie [aR 0, aI x1, aI x2, aI x3, aI x4] M (some (aI res.1)) res.2 := by
  refine ct_of RX12 (by decide +kernel) rfl (hK ▸ kR_ok) hM ha (Nat.le_of_ble_eq_true rfl) hF ?_
  intro X C hl hG hX0 hN hR hq
  have hX : xK X = kR := hX0.trans hK
  show Im X 0 0 0 [(0, aR 0), (1, aI x1), (2, aI x2), (3, aI x3), (4, aI x4)] [] M res (rM_tie x1 x2 x3 x4 M)
  unfold rM_tie
  have hl5 : 5 < xn X := by rw [hN]; decide
  have hRm : ∀ {rm : Room} {ny : Nat}, RmOk rmX12_tie rm ny → RmOk (xR X) rm ny := fun h => by rw [hR]; exact h
  refine i_iload_n C dX12_tie_0 rfl (q := 1) rfl ?_
  refine i_i2l C dX12_tie_1 ?_
  refine i_lconst C dX12_tie_2 kL_0 ?_
  refine i_ldc2 C dX12_tie_3 k2_X12_142 kJ_5 ?_
  refine i_cI (kc' := 0) (ks' := 0) 0 0 3 (fun q hq hM hS => crS C (as := [aL x1, aL 0, aL 5]) dX12_tie_6.1 ml_X12_78 cal_X12_isIn st_X12_isIn (hRm ⟨Nat.le_of_ble_eq_true rfl, Nat.le_of_ble_eq_true rfl⟩) rfl (Nat.le_of_ble_eq_true rfl) (c_X12_isIn (xl X) (xG X) hX hM ⟨hS.2.2.1, hS.2.1, hS.1, trivial⟩ hq)) (Nat.le_of_ble_eq_true rfl) (Nat.le_of_ble_eq_true rfl) rfl rfl rfl (fun v2 M1 => ?_)
  refine i_jn (fun j => ∀ (p3 : Int) (M5 : Mem), Im X 0 0 62 [(0, aR 0), (1, aI x1), (2, aI x2), (3, aI x3), (4, aI x4)] [aI p3] M5 res (j p3 M5)) ?_ (fun j4 hj4 => ?_)
  · intro p3 M5
    refine i_istore C dX12_tie_62 hl5 (L' := [(0, aR 0), (1, aI x1), (2, aI x2), (3, aI x3), (4, aI x4), (5, aI p3)]) rfl ?_
    refine i_iload C dX12_tie_64 (q := 5) rfl ?_
    refine i_if_eq (tgt := 79) C dX12_tie_66 (by decide) ?_ ?_
    · refine i_ldc C dX12_tie_79 kc_X12_102 kI_m1000000001 ?_
      exact i_iret C hq dX12_tie_81
    · refine i_aload_n C dX12_tie_69 rfl (q := 0) rfl ?_
      refine i_iload_n C dX12_tie_70 rfl (q := 1) rfl ?_
      refine i_iload C dX12_tie_71 (q := 4) rfl ?_
      refine i_cI (kc' := 0) (ks' := 0) 0 0 3 (fun q hq hM hS => crV C (as := [aI x1, aI x4]) dX12_tie_73.1 kX12 (shR_0 hX) ml_X12_144 cal_X12_fits cv_X12_fits (hRm ⟨Nat.le_of_ble_eq_true rfl, Nat.le_of_ble_eq_true rfl⟩) rfl (Nat.le_of_ble_eq_true rfl) (c_X12_fits (xl X) (xG X) hX hM ⟨hS.2.2.1, hS.2.1, hS.1, trivial⟩ hq)) (Nat.le_of_ble_eq_true rfl) (Nat.le_of_ble_eq_true rfl) rfl rfl rfl (fun v7 M6 => ?_)
      refine i_if_ne (tgt := 82) C dX12_tie_76 (by decide) ?_ ?_
      · refine i_aload_n C dX12_tie_82 rfl (q := 0) rfl ?_
        refine i_getR C (k := 0) kX12 dX12_tie_83 (shR_0 hX) rfl (by decide) fl_X12_7 ?_
        refine i_iconst C dX12_tie_86 kI_3 ?_
        refine i_ald C dX12_tie_87 (shR_1 hX) (fun v8 => ?_)
        refine i_bipush C dX12_tie_88 kB_40 ?_
        refine i_icmp_ne (tgt := 98) C dX12_tie_90 (by decide) ?_ ?_
        · refine i_aload_n C dX12_tie_98 rfl (q := 0) rfl ?_
          refine i_iload_n C dX12_tie_99 rfl (q := 1) rfl ?_
          refine i_iload_n C dX12_tie_100 rfl (q := 2) rfl ?_
          refine i_iload_n C dX12_tie_101 rfl (q := 3) rfl ?_
          refine i_iload C dX12_tie_102 (q := 4) rfl ?_
          refine i_cI (kc' := 0) (ks' := 0) 0 0 5 (fun q hq hM hS => crV C (as := [aI x1, aI x2, aI x3, aI x4]) dX12_tie_104.1 kX12 (shR_0 hX) ml_X12_148 cal_X12_newTie cv_X12_newTie (hRm ⟨Nat.le_of_ble_eq_true rfl, Nat.le_of_ble_eq_true rfl⟩) rfl (Nat.le_of_ble_eq_true rfl) (c_X12_newTie (xl X) (xG X) hX hM ⟨hS.2.2.2.2.1, hS.2.2.2.1, hS.2.2.1, hS.2.1, hS.1, trivial⟩ hq)) (Nat.le_of_ble_eq_true rfl) (Nat.le_of_ble_eq_true rfl) rfl rfl rfl (fun v10 M9 => ?_)
          exact i_iret C hq dX12_tie_107
        · refine i_ldc C dX12_tie_93 kc_X12_103 kI_m1000000003 ?_
          refine i_goto (tgt := 107) C dX12_tie_95 (by decide) ?_
          exact i_iret C hq dX12_tie_107
      · refine i_ldc C dX12_tie_79 kc_X12_102 kI_m1000000001 ?_
        exact i_iret C hq dX12_tie_81
  refine i_jn (fun j => ∀  (M12 : Mem), Im X 0 0 61 [(0, aR 0), (1, aI x1), (2, aI x2), (3, aI x3), (4, aI x4)] [] M12 res (j  M12)) ?_ (fun j11 hj11 => ?_)
  · intro  M12
    refine i_iconst C dX12_tie_61 kI_0 ?_
    exact (hj4 0 M12)
  refine i_if_eq (tgt := 61) C dX12_tie_9 (by decide) ?_ ?_
  · exact (hj11  M1)
  · refine i_iload_n C dX12_tie_12 rfl (q := 2) rfl ?_
    refine i_iload_n C dX12_tie_13 rfl (q := 3) rfl ?_
    refine i_icmp_eq (tgt := 61) C dX12_tie_14 (by decide) ?_ ?_
    · exact (hj11  M1)
    · refine i_iload_n C dX12_tie_17 rfl (q := 1) rfl ?_
      refine i_iconst C dX12_tie_18 kI_5 ?_
      refine i_jn (fun j => ∀  (M14 : Mem), Im X 0 0 57 [(0, aR 0), (1, aI x1), (2, aI x2), (3, aI x3), (4, aI x4)] [] M14 res (j  M14)) ?_ (fun j13 hj13 => ?_)
      · intro  M14
        refine i_iconst C dX12_tie_57 kI_1 ?_
        refine i_goto (tgt := 62) C dX12_tie_58 (by decide) ?_
        exact (hj4 1 M14)
      refine i_icmp_ne (tgt := 41) C dX12_tie_19 (by decide) ?_ ?_
      · refine i_aload_n C dX12_tie_41 rfl (q := 0) rfl ?_
        refine i_iload_n C dX12_tie_42 rfl (q := 2) rfl ?_
        refine i_cI (kc' := 0) (ks' := 0) 0 0 2 (fun q hq hM hS => crV C (as := [aI x2]) dX12_tie_43.1 kX12 (shR_0 hX) ml_X12_104 cal_X12_isCell cv_X12_isCell (hRm ⟨Nat.le_of_ble_eq_true rfl, Nat.le_of_ble_eq_true rfl⟩) rfl (Nat.le_of_ble_eq_true rfl) (c_X12_isCell (xl X) (xG X) hX hM ⟨hS.2.1, hS.1, trivial⟩ hq)) (Nat.le_of_ble_eq_true rfl) (Nat.le_of_ble_eq_true rfl) rfl rfl rfl (fun v16 M15 => ?_)
        refine i_if_eq (tgt := 61) C dX12_tie_46 (by decide) ?_ ?_
        · exact (hj11  M15)
        · refine i_aload_n C dX12_tie_49 rfl (q := 0) rfl ?_
          refine i_iload_n C dX12_tie_50 rfl (q := 3) rfl ?_
          refine i_cI (kc' := 0) (ks' := 0) 0 0 2 (fun q hq hM hS => crV C (as := [aI x3]) dX12_tie_51.1 kX12 (shR_0 hX) ml_X12_104 cal_X12_isCell cv_X12_isCell (hRm ⟨Nat.le_of_ble_eq_true rfl, Nat.le_of_ble_eq_true rfl⟩) rfl (Nat.le_of_ble_eq_true rfl) (c_X12_isCell (xl X) (xG X) hX hM ⟨hS.2.1, hS.1, trivial⟩ hq)) (Nat.le_of_ble_eq_true rfl) (Nat.le_of_ble_eq_true rfl) rfl rfl rfl (fun v18 M17 => ?_)
          refine i_if_eq (tgt := 61) C dX12_tie_54 (by decide) ?_ ?_
          · exact (hj11  M17)
          · exact (hj13  M17)
      · refine i_aload_n C dX12_tie_22 rfl (q := 0) rfl ?_
        refine i_iload_n C dX12_tie_23 rfl (q := 2) rfl ?_
        refine i_cI (kc' := 0) (ks' := 0) 0 0 2 (fun q hq hM hS => crV C (as := [aI x2]) dX12_tie_24.1 kX12 (shR_0 hX) ml_X12_119 cal_X12_isPerson cv_X12_isPerson (hRm ⟨Nat.le_of_ble_eq_true rfl, Nat.le_of_ble_eq_true rfl⟩) rfl (Nat.le_of_ble_eq_true rfl) (c_X12_isPerson (xl X) (xG X) hX hM ⟨hS.2.1, hS.1, trivial⟩ hq)) (Nat.le_of_ble_eq_true rfl) (Nat.le_of_ble_eq_true rfl) rfl rfl rfl (fun v20 M19 => ?_)
        refine i_if_eq (tgt := 61) C dX12_tie_27 (by decide) ?_ ?_
        · exact (hj11  M19)
        · refine i_aload_n C dX12_tie_30 rfl (q := 0) rfl ?_
          refine i_iload_n C dX12_tie_31 rfl (q := 3) rfl ?_
          refine i_cI (kc' := 0) (ks' := 0) 0 0 2 (fun q hq hM hS => crV C (as := [aI x3]) dX12_tie_32.1 kX12 (shR_0 hX) ml_X12_119 cal_X12_isPerson cv_X12_isPerson (hRm ⟨Nat.le_of_ble_eq_true rfl, Nat.le_of_ble_eq_true rfl⟩) rfl (Nat.le_of_ble_eq_true rfl) (c_X12_isPerson (xl X) (xG X) hX hM ⟨hS.2.1, hS.1, trivial⟩ hq)) (Nat.le_of_ble_eq_true rfl) (Nat.le_of_ble_eq_true rfl) rfl rfl rfl (fun v22 M21 => ?_)
          refine i_if_eq (tgt := 61) C dX12_tie_35 (by decide) ?_ ?_
          · exact (hj11  M21)
          · refine i_goto (tgt := 57) C dX12_tie_38 (by decide) ?_
            exact (hj13  M21)
set_option maxRecDepth 100000 in
set_option maxHeartbeats 4000000 in
theorem c_X12_pass (l : Launch) (G : Gx) {K : Kx} (hK : K = kR) {x1 : Int} {x2 : Int} {x3 : Int} {x4 : Int} {M : Mem} {res : Int × Mem} (hM : OkM M) (ha : okS [aR 0, aI x1, aI x2, aI x3, aI x4]) (hF : rM_pass x1 x2 x3 x4 M = some res) : Ct l G K yX12_pass (wsM yX12_pass cX12_pass 7 (some .int)) rmX12_pass [aR 0, aI x1, aI x2, aI x3, aI x4] M (some (aI res.1)) res.2 := by
  refine ct_of RX12 (by decide +kernel) rfl (hK ▸ kR_ok) hM ha (Nat.le_of_ble_eq_true rfl) hF ?_
  intro X C hl hG hX0 hN hR hq
  have hX : xK X = kR := hX0.trans hK
  show Im X 0 0 0 [(0, aR 0), (1, aI x1), (2, aI x2), (3, aI x3), (4, aI x4)] [] M res (rM_pass x1 x2 x3 x4 M)
  unfold rM_pass
  have hl5 : 5 < xn X := by rw [hN]; decide
  have hl6 : 6 < xn X := by rw [hN]; decide
  have hRm : ∀ {rm : Room} {ny : Nat}, RmOk rmX12_pass rm ny → RmOk (xR X) rm ny := fun h => by rw [hR]; exact h
  refine i_aload_n C dX12_pass_0 rfl (q := 0) rfl ?_
  refine i_iload_n C dX12_pass_1 rfl (q := 1) rfl ?_
  refine i_cI (kc' := 0) (ks' := 0) 0 0 2 (fun q hq hM hS => crV C (as := [aI x1]) dX12_pass_2.1 kX12 (shR_0 hX) ml_X12_119 cal_X12_isPerson cv_X12_isPerson (hRm ⟨Nat.le_of_ble_eq_true rfl, Nat.le_of_ble_eq_true rfl⟩) rfl (Nat.le_of_ble_eq_true rfl) (c_X12_isPerson (xl X) (xG X) hX hM ⟨hS.2.1, hS.1, trivial⟩ hq)) (Nat.le_of_ble_eq_true rfl) (Nat.le_of_ble_eq_true rfl) rfl rfl rfl (fun v2 M1 => ?_)
  refine i_jn (fun j => ∀ (p3 : Int) (M5 : Mem), Im X 0 0 38 [(0, aR 0), (1, aI x1), (2, aI x2), (3, aI x3), (4, aI x4)] [aI p3] M5 res (j p3 M5)) ?_ (fun j4 hj4 => ?_)
  · intro p3 M5
    refine i_istore C dX12_pass_38 hl5 (L' := [(0, aR 0), (1, aI x1), (2, aI x2), (3, aI x3), (4, aI x4), (5, aI p3)]) rfl ?_
    refine i_iload C dX12_pass_40 (q := 5) rfl ?_
    refine i_if_eq (tgt := 85) C dX12_pass_42 (by decide) ?_ ?_
    · refine i_ldc C dX12_pass_85 kc_X12_102 kI_m1000000001 ?_
      exact i_iret C hq dX12_pass_87
    · refine i_iload C dX12_pass_45 (q := 4) rfl ?_
      refine i_sipush C dX12_pass_47 kS_1000 ?_
      refine i_idiv C dX12_pass_50 (by decide) ?_
      refine i_iload C dX12_pass_51 (q := 4) rfl ?_
      refine i_sipush C dX12_pass_53 kS_1000 ?_
      refine i_irem C dX12_pass_56 (by decide) ?_
      refine i_icmp_gt (tgt := 85) C dX12_pass_57 (by decide) ?_ ?_
      · refine i_ldc C dX12_pass_85 kc_X12_102 kI_m1000000001 ?_
        exact i_iret C hq dX12_pass_87
      · refine i_iload C dX12_pass_60 (q := 4) rfl ?_
        refine i_sipush C dX12_pass_62 kS_1000 ?_
        refine i_irem C dX12_pass_65 (by decide) ?_
        refine i_sipush C dX12_pass_66 kS_416 ?_
        refine i_icmp_gt (tgt := 85) C dX12_pass_69 (by decide) ?_ ?_
        · refine i_ldc C dX12_pass_85 kc_X12_102 kI_m1000000001 ?_
          exact i_iret C hq dX12_pass_87
        · refine i_aload_n C dX12_pass_72 rfl (q := 0) rfl ?_
          refine i_iload_n C dX12_pass_73 rfl (q := 1) rfl ?_
          refine i_cI (kc' := 0) (ks' := 0) 0 0 2 (fun q hq hM hS => crV C (as := [aI x1]) dX12_pass_74.1 kX12 (shR_0 hX) ml_X12_135 cal_X12_ownSide cv_X12_ownSide (hRm ⟨Nat.le_of_ble_eq_true rfl, Nat.le_of_ble_eq_true rfl⟩) rfl (Nat.le_of_ble_eq_true rfl) (c_X12_ownSide (xl X) (xG X) hX hM ⟨hS.2.1, hS.1, trivial⟩ hq)) (Nat.le_of_ble_eq_true rfl) (Nat.le_of_ble_eq_true rfl) rfl rfl rfl (fun v7 M6 => ?_)
          refine i_aload_n C dX12_pass_77 rfl (q := 0) rfl ?_
          refine i_iload_n C dX12_pass_78 rfl (q := 2) rfl ?_
          refine i_cI (kc' := 0) (ks' := 0) 0 0 2 (fun q hq hM hS => crV C (as := [aI x2]) dX12_pass_79.1 kX12 (shR_0 hX) ml_X12_135 cal_X12_ownSide cv_X12_ownSide (hRm ⟨Nat.le_of_ble_eq_true rfl, Nat.le_of_ble_eq_true rfl⟩) rfl (Nat.le_of_ble_eq_true rfl) (c_X12_ownSide (xl X) (xG X) hX hM ⟨hS.2.1, hS.1, trivial⟩ hq)) (Nat.le_of_ble_eq_true rfl) (Nat.le_of_ble_eq_true rfl) rfl rfl rfl (fun v9 M8 => ?_)
          refine i_icmp_ne (tgt := 88) C dX12_pass_82 (by decide) ?_ ?_
          · refine i_aload_n C dX12_pass_88 rfl (q := 0) rfl ?_
            refine i_getR C (k := 0) kX12 dX12_pass_89 (shR_0 hX) rfl (by decide) fl_X12_7 ?_
            refine i_iconst C dX12_pass_92 kI_3 ?_
            refine i_ald C dX12_pass_93 (shR_1 hX) (fun v10 => ?_)
            refine i_bipush C dX12_pass_94 kB_40 ?_
            refine i_icmp_ne (tgt := 102) C dX12_pass_96 (by decide) ?_ ?_
            · refine i_aload_n C dX12_pass_102 rfl (q := 0) rfl ?_
              refine i_bipush C dX12_pass_103 kB_6 ?_
              refine i_iload_n C dX12_pass_105 rfl (q := 1) rfl ?_
              refine i_iload_n C dX12_pass_106 rfl (q := 2) rfl ?_
              refine i_iload_n C dX12_pass_107 rfl (q := 3) rfl ?_
              refine i_cI (kc' := 0) (ks' := 0) 0 0 5 (fun q hq hM hS => crV C (as := [aI 6, aI x1, aI x2, aI x3]) dX12_pass_108.1 kX12 (shR_0 hX) ml_X12_148 cal_X12_newTie cv_X12_newTie (hRm ⟨Nat.le_of_ble_eq_true rfl, Nat.le_of_ble_eq_true rfl⟩) rfl (Nat.le_of_ble_eq_true rfl) (c_X12_newTie (xl X) (xG X) hX hM ⟨hS.2.2.2.2.1, hS.2.2.2.1, hS.2.2.1, hS.2.1, hS.1, trivial⟩ hq)) (Nat.le_of_ble_eq_true rfl) (Nat.le_of_ble_eq_true rfl) rfl rfl rfl (fun v12 M11 => ?_)
              refine i_istore C dX12_pass_111 hl6 (L' := [(0, aR 0), (1, aI x1), (2, aI x2), (3, aI x3), (4, aI x4), (5, aI p3), (6, aI v12)]) rfl ?_
              refine i_aload_n C dX12_pass_113 rfl (q := 0) rfl ?_
              refine i_getR C (k := 0) kX12 dX12_pass_114 (shR_0 hX) rfl (by decide) fl_X12_7 ?_
              refine i_aload_n C dX12_pass_117 rfl (q := 0) rfl ?_
              refine i_iload C dX12_pass_118 (q := 6) rfl ?_
              refine i_cI (kc' := 0) (ks' := 0) 0 0 2 (fun q hq hM hS => crV C (as := [aI v12]) dX12_pass_120.1 kX12 (shR_0 hX) ml_X12_86 cal_X12_tieAt cv_X12_tieAt (hRm ⟨Nat.le_of_ble_eq_true rfl, Nat.le_of_ble_eq_true rfl⟩) rfl (Nat.le_of_ble_eq_true rfl) (c_X12_tieAt (xl X) (xG X) hX hM ⟨hS.2.1, hS.1, trivial⟩ hq)) (Nat.le_of_ble_eq_true rfl) (Nat.le_of_ble_eq_true rfl) rfl rfl rfl (fun v14 M13 => ?_)
              refine i_iconst C dX12_pass_123 kI_4 ?_
              refine i_iadd C dX12_pass_124 ?_
              refine i_iload C dX12_pass_125 (q := 4) rfl ?_
              refine i_sipush C dX12_pass_127 kS_1000 ?_
              refine i_idiv C dX12_pass_130 (by decide) ?_
              refine i_ast C dX12_pass_131 (shR_1 hX) (fun M15 => ?_)
              refine i_aload_n C dX12_pass_132 rfl (q := 0) rfl ?_
              refine i_getR C (k := 0) kX12 dX12_pass_133 (shR_0 hX) rfl (by decide) fl_X12_7 ?_
              refine i_aload_n C dX12_pass_136 rfl (q := 0) rfl ?_
              refine i_iload C dX12_pass_137 (q := 6) rfl ?_
              refine i_cI (kc' := 0) (ks' := 0) 0 0 2 (fun q hq hM hS => crV C (as := [aI v12]) dX12_pass_139.1 kX12 (shR_0 hX) ml_X12_86 cal_X12_tieAt cv_X12_tieAt (hRm ⟨Nat.le_of_ble_eq_true rfl, Nat.le_of_ble_eq_true rfl⟩) rfl (Nat.le_of_ble_eq_true rfl) (c_X12_tieAt (xl X) (xG X) hX hM ⟨hS.2.1, hS.1, trivial⟩ hq)) (Nat.le_of_ble_eq_true rfl) (Nat.le_of_ble_eq_true rfl) rfl rfl rfl (fun v17 M16 => ?_)
              refine i_iconst C dX12_pass_142 kI_5 ?_
              refine i_iadd C dX12_pass_143 ?_
              refine i_iload C dX12_pass_144 (q := 4) rfl ?_
              refine i_sipush C dX12_pass_146 kS_1000 ?_
              refine i_irem C dX12_pass_149 (by decide) ?_
              refine i_ast C dX12_pass_150 (shR_1 hX) (fun M18 => ?_)
              refine i_iload C dX12_pass_151 (q := 6) rfl ?_
              exact i_iret C hq dX12_pass_153
            · refine i_ldc C dX12_pass_99 kc_X12_103 kI_m1000000003 ?_
              exact i_iret C hq dX12_pass_101
          · refine i_ldc C dX12_pass_85 kc_X12_102 kI_m1000000001 ?_
            exact i_iret C hq dX12_pass_87
  refine i_jn (fun j => ∀  (M20 : Mem), Im X 0 0 37 [(0, aR 0), (1, aI x1), (2, aI x2), (3, aI x3), (4, aI x4)] [] M20 res (j  M20)) ?_ (fun j19 hj19 => ?_)
  · intro  M20
    refine i_iconst C dX12_pass_37 kI_0 ?_
    exact (hj4 0 M20)
  refine i_if_eq (tgt := 37) C dX12_pass_5 (by decide) ?_ ?_
  · exact (hj19  M1)
  · refine i_aload_n C dX12_pass_8 rfl (q := 0) rfl ?_
    refine i_iload_n C dX12_pass_9 rfl (q := 2) rfl ?_
    refine i_cI (kc' := 0) (ks' := 0) 0 0 2 (fun q hq hM hS => crV C (as := [aI x2]) dX12_pass_10.1 kX12 (shR_0 hX) ml_X12_119 cal_X12_isPerson cv_X12_isPerson (hRm ⟨Nat.le_of_ble_eq_true rfl, Nat.le_of_ble_eq_true rfl⟩) rfl (Nat.le_of_ble_eq_true rfl) (c_X12_isPerson (xl X) (xG X) hX hM ⟨hS.2.1, hS.1, trivial⟩ hq)) (Nat.le_of_ble_eq_true rfl) (Nat.le_of_ble_eq_true rfl) rfl rfl rfl (fun v22 M21 => ?_)
    refine i_if_eq (tgt := 37) C dX12_pass_13 (by decide) ?_ ?_
    · exact (hj19  M21)
    · refine i_iload_n C dX12_pass_16 rfl (q := 3) rfl ?_
      refine i_i2l C dX12_pass_17 ?_
      refine i_lconst C dX12_pass_18 kL_1 ?_
      refine i_ldc2 C dX12_pass_19 k2_X12_115 kJ_99 ?_
      refine i_cI (kc' := 0) (ks' := 0) 0 0 3 (fun q hq hM hS => crS C (as := [aL x3, aL 1, aL 99]) dX12_pass_22.1 ml_X12_78 cal_X12_isIn st_X12_isIn (hRm ⟨Nat.le_of_ble_eq_true rfl, Nat.le_of_ble_eq_true rfl⟩) rfl (Nat.le_of_ble_eq_true rfl) (c_X12_isIn (xl X) (xG X) hX hM ⟨hS.2.2.1, hS.2.1, hS.1, trivial⟩ hq)) (Nat.le_of_ble_eq_true rfl) (Nat.le_of_ble_eq_true rfl) rfl rfl rfl (fun v24 M23 => ?_)
      refine i_if_eq (tgt := 37) C dX12_pass_25 (by decide) ?_ ?_
      · exact (hj19  M23)
      · refine i_iload C dX12_pass_28 (q := 4) rfl ?_
        refine i_if_lt (tgt := 37) C dX12_pass_30 (by decide) ?_ ?_
        · exact (hj19  M23)
        · refine i_iconst C dX12_pass_33 kI_1 ?_
          refine i_goto (tgt := 38) C dX12_pass_34 (by decide) ?_
          exact (hj4 1 M23)
set_option maxRecDepth 100000 in
set_option maxHeartbeats 4000000 in
theorem c_X12_parcel (l : Launch) (G : Gx) {K : Kx} (hK : K = kR) {x1 : Int} {x2 : Int} {x3 : Int} {M : Mem} {res : Int × Mem} (hM : OkM M) (ha : okS [aR 0, aI x1, aI x2, aI x3]) (hF : rM_parcel x1 x2 x3 M = some res) : Ct l G K yX12_parcel (wsM yX12_parcel cX12_parcel 5 (some .int)) rmX12_parcel [aR 0, aI x1, aI x2, aI x3] M (some (aI res.1)) res.2 := by
  refine ct_of RX12 (by decide +kernel) rfl (hK ▸ kR_ok) hM ha (Nat.le_of_ble_eq_true rfl) hF ?_
  intro X C hl hG hX0 hN hR hq
  have hX : xK X = kR := hX0.trans hK
  show Im X 0 0 0 [(0, aR 0), (1, aI x1), (2, aI x2), (3, aI x3)] [] M res (rM_parcel x1 x2 x3 M)
  unfold rM_parcel
  have hl4 : 4 < xn X := by rw [hN]; decide
  have hRm : ∀ {rm : Room} {ny : Nat}, RmOk rmX12_parcel rm ny → RmOk (xR X) rm ny := fun h => by rw [hR]; exact h
  refine i_aload_n C dX12_parcel_0 rfl (q := 0) rfl ?_
  refine i_iload_n C dX12_parcel_1 rfl (q := 1) rfl ?_
  refine i_bipush C dX12_parcel_2 kB_6 ?_
  refine i_cI (kc' := 0) (ks' := 0) 0 0 3 (fun q hq hM hS => crV C (as := [aI x1, aI 6]) dX12_parcel_4.1 kX12 (shR_0 hX) ml_X12_152 cal_X12_isOf cv_X12_isOf (hRm ⟨Nat.le_of_ble_eq_true rfl, Nat.le_of_ble_eq_true rfl⟩) rfl (Nat.le_of_ble_eq_true rfl) (c_X12_isOf (xl X) (xG X) hX hM ⟨hS.2.2.1, hS.2.1, hS.1, trivial⟩ hq)) (Nat.le_of_ble_eq_true rfl) (Nat.le_of_ble_eq_true rfl) rfl rfl rfl (fun v2 M1 => ?_)
  refine i_if_eq (tgt := 34) C dX12_parcel_7 (by decide) ?_ ?_
  · refine i_ldc C dX12_parcel_34 kc_X12_102 kI_m1000000001 ?_
    exact i_iret C hq dX12_parcel_36
  · refine i_iload_n C dX12_parcel_10 rfl (q := 2) rfl ?_
    refine i_i2l C dX12_parcel_11 ?_
    refine i_lconst C dX12_parcel_12 kL_1 ?_
    refine i_ldc2 C dX12_parcel_13 k2_X12_115 kJ_99 ?_
    refine i_cI (kc' := 0) (ks' := 0) 0 0 3 (fun q hq hM hS => crS C (as := [aL x2, aL 1, aL 99]) dX12_parcel_16.1 ml_X12_78 cal_X12_isIn st_X12_isIn (hRm ⟨Nat.le_of_ble_eq_true rfl, Nat.le_of_ble_eq_true rfl⟩) rfl (Nat.le_of_ble_eq_true rfl) (c_X12_isIn (xl X) (xG X) hX hM ⟨hS.2.2.1, hS.2.1, hS.1, trivial⟩ hq)) (Nat.le_of_ble_eq_true rfl) (Nat.le_of_ble_eq_true rfl) rfl rfl rfl (fun v4 M3 => ?_)
    refine i_if_eq (tgt := 34) C dX12_parcel_19 (by decide) ?_ ?_
    · refine i_ldc C dX12_parcel_34 kc_X12_102 kI_m1000000001 ?_
      exact i_iret C hq dX12_parcel_36
    · refine i_iload_n C dX12_parcel_22 rfl (q := 3) rfl ?_
      refine i_i2l C dX12_parcel_23 ?_
      refine i_lconst C dX12_parcel_24 kL_0 ?_
      refine i_ldc2 C dX12_parcel_25 k2_X12_122 kJ_7 ?_
      refine i_cI (kc' := 0) (ks' := 0) 0 0 3 (fun q hq hM hS => crS C (as := [aL x3, aL 0, aL 7]) dX12_parcel_28.1 ml_X12_78 cal_X12_isIn st_X12_isIn (hRm ⟨Nat.le_of_ble_eq_true rfl, Nat.le_of_ble_eq_true rfl⟩) rfl (Nat.le_of_ble_eq_true rfl) (c_X12_isIn (xl X) (xG X) hX hM ⟨hS.2.2.1, hS.2.1, hS.1, trivial⟩ hq)) (Nat.le_of_ble_eq_true rfl) (Nat.le_of_ble_eq_true rfl) rfl rfl rfl (fun v6 M5 => ?_)
      refine i_if_ne (tgt := 37) C dX12_parcel_31 (by decide) ?_ ?_
      · refine i_aload_n C dX12_parcel_37 rfl (q := 0) rfl ?_
        refine i_getR C (k := 0) kX12 dX12_parcel_38 (shR_0 hX) rfl (by decide) fl_X12_7 ?_
        refine i_aload_n C dX12_parcel_41 rfl (q := 0) rfl ?_
        refine i_iload_n C dX12_parcel_42 rfl (q := 1) rfl ?_
        refine i_cI (kc' := 0) (ks' := 0) 0 0 2 (fun q hq hM hS => crV C (as := [aI x1]) dX12_parcel_43.1 kX12 (shR_0 hX) ml_X12_86 cal_X12_tieAt cv_X12_tieAt (hRm ⟨Nat.le_of_ble_eq_true rfl, Nat.le_of_ble_eq_true rfl⟩) rfl (Nat.le_of_ble_eq_true rfl) (c_X12_tieAt (xl X) (xG X) hX hM ⟨hS.2.1, hS.1, trivial⟩ hq)) (Nat.le_of_ble_eq_true rfl) (Nat.le_of_ble_eq_true rfl) rfl rfl rfl (fun v8 M7 => ?_)
        refine i_bipush C dX12_parcel_46 kB_6 ?_
        refine i_iadd C dX12_parcel_48 ?_
        refine i_ald C dX12_parcel_49 (shR_1 hX) (fun v9 => ?_)
        refine i_if_eq (tgt := 56) C dX12_parcel_50 (by decide) ?_ ?_
        · refine i_aload_n C dX12_parcel_56 rfl (q := 0) rfl ?_
          refine i_getR C (k := 0) kX12 dX12_parcel_57 (shR_0 hX) rfl (by decide) fl_X12_7 ?_
          refine i_iconst C dX12_parcel_60 kI_3 ?_
          refine i_ald C dX12_parcel_61 (shR_1 hX) (fun v10 => ?_)
          refine i_bipush C dX12_parcel_62 kB_40 ?_
          refine i_icmp_ne (tgt := 70) C dX12_parcel_64 (by decide) ?_ ?_
          · refine i_aload_n C dX12_parcel_70 rfl (q := 0) rfl ?_
            refine i_bipush C dX12_parcel_71 kB_7 ?_
            refine i_aload_n C dX12_parcel_73 rfl (q := 0) rfl ?_
            refine i_getR C (k := 0) kX12 dX12_parcel_74 (shR_0 hX) rfl (by decide) fl_X12_7 ?_
            refine i_aload_n C dX12_parcel_77 rfl (q := 0) rfl ?_
            refine i_iload_n C dX12_parcel_78 rfl (q := 1) rfl ?_
            refine i_cI (kc' := 0) (ks' := 0) 0 0 2 (fun q hq hM hS => crV C (as := [aI x1]) dX12_parcel_79.1 kX12 (shR_0 hX) ml_X12_86 cal_X12_tieAt cv_X12_tieAt (hRm ⟨Nat.le_of_ble_eq_true rfl, Nat.le_of_ble_eq_true rfl⟩) rfl (Nat.le_of_ble_eq_true rfl) (c_X12_tieAt (xl X) (xG X) hX hM ⟨hS.2.1, hS.1, trivial⟩ hq)) (Nat.le_of_ble_eq_true rfl) (Nat.le_of_ble_eq_true rfl) rfl rfl rfl (fun v12 M11 => ?_)
            refine i_iconst C dX12_parcel_82 kI_1 ?_
            refine i_iadd C dX12_parcel_83 ?_
            refine i_ald C dX12_parcel_84 (shR_1 hX) (fun v13 => ?_)
            refine i_aload_n C dX12_parcel_85 rfl (q := 0) rfl ?_
            refine i_getR C (k := 0) kX12 dX12_parcel_86 (shR_0 hX) rfl (by decide) fl_X12_7 ?_
            refine i_aload_n C dX12_parcel_89 rfl (q := 0) rfl ?_
            refine i_iload_n C dX12_parcel_90 rfl (q := 1) rfl ?_
            refine i_cI (kc' := 0) (ks' := 0) 0 0 2 (fun q hq hM hS => crV C (as := [aI x1]) dX12_parcel_91.1 kX12 (shR_0 hX) ml_X12_86 cal_X12_tieAt cv_X12_tieAt (hRm ⟨Nat.le_of_ble_eq_true rfl, Nat.le_of_ble_eq_true rfl⟩) rfl (Nat.le_of_ble_eq_true rfl) (c_X12_tieAt (xl X) (xG X) hX hM ⟨hS.2.1, hS.1, trivial⟩ hq)) (Nat.le_of_ble_eq_true rfl) (Nat.le_of_ble_eq_true rfl) rfl rfl rfl (fun v15 M14 => ?_)
            refine i_iconst C dX12_parcel_94 kI_2 ?_
            refine i_iadd C dX12_parcel_95 ?_
            refine i_ald C dX12_parcel_96 (shR_1 hX) (fun v16 => ?_)
            refine i_iload_n C dX12_parcel_97 rfl (q := 2) rfl ?_
            refine i_cI (kc' := 0) (ks' := 0) 0 0 5 (fun q hq hM hS => crV C (as := [aI 7, aI v13, aI v16, aI x2]) dX12_parcel_98.1 kX12 (shR_0 hX) ml_X12_148 cal_X12_newTie cv_X12_newTie (hRm ⟨Nat.le_of_ble_eq_true rfl, Nat.le_of_ble_eq_true rfl⟩) rfl (Nat.le_of_ble_eq_true rfl) (c_X12_newTie (xl X) (xG X) hX hM ⟨hS.2.2.2.2.1, hS.2.2.2.1, hS.2.2.1, hS.2.1, hS.1, trivial⟩ hq)) (Nat.le_of_ble_eq_true rfl) (Nat.le_of_ble_eq_true rfl) rfl rfl rfl (fun v18 M17 => ?_)
            refine i_istore C dX12_parcel_101 hl4 (L' := [(0, aR 0), (1, aI x1), (2, aI x2), (3, aI x3), (4, aI v18)]) rfl ?_
            refine i_aload_n C dX12_parcel_103 rfl (q := 0) rfl ?_
            refine i_getR C (k := 0) kX12 dX12_parcel_104 (shR_0 hX) rfl (by decide) fl_X12_7 ?_
            refine i_aload_n C dX12_parcel_107 rfl (q := 0) rfl ?_
            refine i_iload C dX12_parcel_108 (q := 4) rfl ?_
            refine i_cI (kc' := 0) (ks' := 0) 0 0 2 (fun q hq hM hS => crV C (as := [aI v18]) dX12_parcel_110.1 kX12 (shR_0 hX) ml_X12_86 cal_X12_tieAt cv_X12_tieAt (hRm ⟨Nat.le_of_ble_eq_true rfl, Nat.le_of_ble_eq_true rfl⟩) rfl (Nat.le_of_ble_eq_true rfl) (c_X12_tieAt (xl X) (xG X) hX hM ⟨hS.2.1, hS.1, trivial⟩ hq)) (Nat.le_of_ble_eq_true rfl) (Nat.le_of_ble_eq_true rfl) rfl rfl rfl (fun v20 M19 => ?_)
            refine i_bipush C dX12_parcel_113 kB_7 ?_
            refine i_iadd C dX12_parcel_115 ?_
            refine i_iload_n C dX12_parcel_116 rfl (q := 3) rfl ?_
            refine i_ast C dX12_parcel_117 (shR_1 hX) (fun M21 => ?_)
            refine i_aload_n C dX12_parcel_118 rfl (q := 0) rfl ?_
            refine i_getR C (k := 0) kX12 dX12_parcel_119 (shR_0 hX) rfl (by decide) fl_X12_7 ?_
            refine i_aload_n C dX12_parcel_122 rfl (q := 0) rfl ?_
            refine i_iload C dX12_parcel_123 (q := 4) rfl ?_
            refine i_cI (kc' := 0) (ks' := 0) 0 0 2 (fun q hq hM hS => crV C (as := [aI v18]) dX12_parcel_125.1 kX12 (shR_0 hX) ml_X12_86 cal_X12_tieAt cv_X12_tieAt (hRm ⟨Nat.le_of_ble_eq_true rfl, Nat.le_of_ble_eq_true rfl⟩) rfl (Nat.le_of_ble_eq_true rfl) (c_X12_tieAt (xl X) (xG X) hX hM ⟨hS.2.1, hS.1, trivial⟩ hq)) (Nat.le_of_ble_eq_true rfl) (Nat.le_of_ble_eq_true rfl) rfl rfl rfl (fun v23 M22 => ?_)
            refine i_bipush C dX12_parcel_128 kB_8 ?_
            refine i_iadd C dX12_parcel_130 ?_
            refine i_iload_n C dX12_parcel_131 rfl (q := 1) rfl ?_
            refine i_ast C dX12_parcel_132 (shR_1 hX) (fun M24 => ?_)
            refine i_iload C dX12_parcel_133 (q := 4) rfl ?_
            exact i_iret C hq dX12_parcel_135
          · refine i_ldc C dX12_parcel_67 kc_X12_103 kI_m1000000003 ?_
            exact i_iret C hq dX12_parcel_69
        · refine i_ldc C dX12_parcel_53 kc_X12_132 kI_m1000000002 ?_
          exact i_iret C hq dX12_parcel_55
      · refine i_ldc C dX12_parcel_34 kc_X12_102 kI_m1000000001 ?_
        exact i_iret C hq dX12_parcel_36
set_option maxRecDepth 100000 in
set_option maxHeartbeats 4000000 in
theorem w_X12_waiting0_4 {X : Xc} (C : Cx X RX12 cX12_waiting0 (some .int)) (hX : xK X = kR) (hN : xn X = 4) (hR : xR X = rmX12_waiting0) {res : Int × Mem} (hq : Rq X (some (aI res.1)) res.2) (y1 : Int) : ∀ (n : Nat) (u2 : Int) (u3 : Int) (M : Mem), Im X 0 0 4 [(0, aR 0), (1, aI y1), (2, aI u2), (3, aI u3)] [] M res (lpX12_waiting0_4 y1 n u2 u3 M) := by
  have hl2 : 2 < xn X := by rw [hN]; decide
  have hl3 : 3 < xn X := by rw [hN]; decide
  have hRm : ∀ {rm : Room} {ny : Nat}, RmOk rmX12_waiting0 rm ny → RmOk (xR X) rm ny := fun h => by rw [hR]; exact h
  intro n
  induction n with
  | zero => intro _ _ _; exact i_none
  | succ n ih =>
    intro u2 u3 M
    unfold lpX12_waiting0_4
    refine i_iload_n C dX12_waiting0_4 rfl (q := 3) rfl ?_
    refine i_aload_n C dX12_waiting0_5 rfl (q := 0) rfl ?_
    refine i_getR C (k := 0) kX12 dX12_waiting0_6 (shR_0 hX) rfl (by decide) fl_X12_7 ?_
    refine i_iconst C dX12_waiting0_9 kI_2 ?_
    refine i_ald C dX12_waiting0_10 (shR_1 hX) (fun v1 => ?_)
    refine i_icmp_ge (tgt := 44) C dX12_waiting0_11 (by decide) ?_ ?_
    · refine i_iload_n C dX12_waiting0_44 rfl (q := 2) rfl ?_
      exact i_iret C hq dX12_waiting0_45
    · refine i_iload_n C dX12_waiting0_14 rfl (q := 2) rfl ?_
      refine i_aload_n C dX12_waiting0_15 rfl (q := 0) rfl ?_
      refine i_getR C (k := 0) kX12 dX12_waiting0_16 (shR_0 hX) rfl (by decide) fl_X12_7 ?_
      refine i_aload_n C dX12_waiting0_19 rfl (q := 0) rfl ?_
      refine i_iload_n C dX12_waiting0_20 rfl (q := 3) rfl ?_
      refine i_cI (kc' := 0) (ks' := 0) 0 0 2 (fun q hq hM hS => crV C (as := [aI u3]) dX12_waiting0_21.1 kX12 (shR_0 hX) ml_X12_93 cal_X12_personAt cv_X12_personAt (hRm ⟨Nat.le_of_ble_eq_true rfl, Nat.le_of_ble_eq_true rfl⟩) rfl (Nat.le_of_ble_eq_true rfl) (c_X12_personAt (xl X) (xG X) hX hM ⟨hS.2.1, hS.1, trivial⟩ hq)) (Nat.le_of_ble_eq_true rfl) (Nat.le_of_ble_eq_true rfl) rfl rfl rfl (fun v3 M2 => ?_)
      refine i_iconst C dX12_waiting0_24 kI_4 ?_
      refine i_iadd C dX12_waiting0_25 ?_
      refine i_ald C dX12_waiting0_26 (shR_1 hX) (fun v4 => ?_)
      refine i_iload_n C dX12_waiting0_27 rfl (q := 1) rfl ?_
      refine i_jn (fun j => ∀ (p5 : Int) (M7 : Mem), Im X 0 0 36 [(0, aR 0), (1, aI y1), (3, aI u3)] [aI p5, aI u2] M7 res (j p5 M7)) ?_ (fun j6 hj6 => ?_)
      · intro p5 M7
        refine i_iadd C dX12_waiting0_36 ?_
        refine i_nm (fun v8 => ?_)
        refine i_istore_n C dX12_waiting0_37 rfl hl2 (L' := [(0, aR 0), (1, aI y1), (2, aI v8), (3, aI u3)]) rfl ?_
        refine i_iincN (L' := fun v9 => [(0, aR 0), (1, aI y1), (2, aI v8), (3, aI v9)]) C dX12_waiting0_38 (q := 3) rfl hl3 (fun _ => rfl) (fun v9 => ?_)
        refine i_goto (tgt := 4) C dX12_waiting0_41 (by decide) ?_
        exact (ih v8 v9 M7)
      refine i_icmp_ne (tgt := 35) C dX12_waiting0_28 (by decide) ?_ ?_
      · refine i_iconst C dX12_waiting0_35 kI_0 ?_
        exact i_sub [0, 1, 3] rfl (hj6 0 M2)
      · refine i_iconst C dX12_waiting0_31 kI_1 ?_
        refine i_goto (tgt := 36) C dX12_waiting0_32 (by decide) ?_
        exact i_sub [0, 1, 3] rfl (hj6 1 M2)
set_option maxRecDepth 100000 in
set_option maxHeartbeats 4000000 in
theorem c_X12_waiting0 (l : Launch) (G : Gx) {K : Kx} (hK : K = kR) {x1 : Int} {M : Mem} {res : Int × Mem} (hM : OkM M) (ha : okS [aR 0, aI x1]) (hF : rM_waiting0 x1 M = some res) : Ct l G K yX12_waiting0 (wsM yX12_waiting0 cX12_waiting0 4 (some .int)) rmX12_waiting0 [aR 0, aI x1] M (some (aI res.1)) res.2 := by
  refine ct_of RX12 (by decide +kernel) rfl (hK ▸ kR_ok) hM ha (Nat.le_of_ble_eq_true rfl) hF ?_
  intro X C hl hG hX0 hN hR hq
  have hX : xK X = kR := hX0.trans hK
  show Im X 0 0 0 [(0, aR 0), (1, aI x1)] [] M res (rM_waiting0 x1 M)
  unfold rM_waiting0
  have hl2 : 2 < xn X := by rw [hN]; decide
  have hl3 : 3 < xn X := by rw [hN]; decide
  have hRm : ∀ {rm : Room} {ny : Nat}, RmOk rmX12_waiting0 rm ny → RmOk (xR X) rm ny := fun h => by rw [hR]; exact h
  refine i_iconst C dX12_waiting0_0 kI_0 ?_
  refine i_istore_n C dX12_waiting0_1 rfl hl2 (L' := [(0, aR 0), (1, aI x1), (2, aI 0)]) rfl ?_
  refine i_iconst C dX12_waiting0_2 kI_0 ?_
  refine i_istore_n C dX12_waiting0_3 rfl hl3 (L' := [(0, aR 0), (1, aI x1), (2, aI 0), (3, aI 0)]) rfl ?_
  exact (w_X12_waiting0_4 C hX hN hR hq x1 FU 0 0 M)
set_option maxRecDepth 100000 in
set_option maxHeartbeats 4000000 in
theorem w_X12_calls_4 {X : Xc} (C : Cx X RX12 cX12_calls (some .int)) (hX : xK X = kR) (hN : xn X = 4) (hR : xR X = rmX12_calls) {res : Int × Mem} (hq : Rq X (some (aI res.1)) res.2) (y1 : Int) : ∀ (n : Nat) (u2 : Int) (u3 : Int) (M : Mem), Im X 0 0 4 [(0, aR 0), (1, aI y1), (2, aI u2), (3, aI u3)] [] M res (lpX12_calls_4 y1 n u2 u3 M) := by
  have hl2 : 2 < xn X := by rw [hN]; decide
  have hl3 : 3 < xn X := by rw [hN]; decide
  intro n
  induction n with
  | zero => intro _ _ _; exact i_none
  | succ n ih =>
    intro u2 u3 M
    unfold lpX12_calls_4
    refine i_iload_n C dX12_calls_4 rfl (q := 3) rfl ?_
    refine i_aload_n C dX12_calls_5 rfl (q := 0) rfl ?_
    refine i_getR C (k := 0) kX12 dX12_calls_6 (shR_0 hX) rfl (by decide) fl_X12_7 ?_
    refine i_bipush C dX12_calls_9 kB_6 ?_
    refine i_ald C dX12_calls_11 (shR_1 hX) (fun v1 => ?_)
    refine i_icmp_ge (tgt := 45) C dX12_calls_12 (by decide) ?_ ?_
    · refine i_iload_n C dX12_calls_45 rfl (q := 2) rfl ?_
      exact i_iret C hq dX12_calls_46
    · refine i_iload_n C dX12_calls_15 rfl (q := 2) rfl ?_
      refine i_aload_n C dX12_calls_16 rfl (q := 0) rfl ?_
      refine i_getR C (k := 0) kX12 dX12_calls_17 (shR_0 hX) rfl (by decide) fl_X12_7 ?_
      refine i_sipush C dX12_calls_20 kS_3770 ?_
      refine i_iconst C dX12_calls_23 kI_3 ?_
      refine i_iload_n C dX12_calls_24 rfl (q := 3) rfl ?_
      refine i_imul C dX12_calls_25 ?_
      refine i_iadd C dX12_calls_26 ?_
      refine i_ald C dX12_calls_27 (shR_1 hX) (fun v2 => ?_)
      refine i_iload_n C dX12_calls_28 rfl (q := 1) rfl ?_
      refine i_jn (fun j => ∀ (p3 : Int) (M5 : Mem), Im X 0 0 37 [(0, aR 0), (1, aI y1), (3, aI u3)] [aI p3, aI u2] M5 res (j p3 M5)) ?_ (fun j4 hj4 => ?_)
      · intro p3 M5
        refine i_iadd C dX12_calls_37 ?_
        refine i_nm (fun v6 => ?_)
        refine i_istore_n C dX12_calls_38 rfl hl2 (L' := [(0, aR 0), (1, aI y1), (2, aI v6), (3, aI u3)]) rfl ?_
        refine i_iincN (L' := fun v7 => [(0, aR 0), (1, aI y1), (2, aI v6), (3, aI v7)]) C dX12_calls_39 (q := 3) rfl hl3 (fun _ => rfl) (fun v7 => ?_)
        refine i_goto (tgt := 4) C dX12_calls_42 (by decide) ?_
        exact (ih v6 v7 M5)
      refine i_icmp_ne (tgt := 36) C dX12_calls_29 (by decide) ?_ ?_
      · refine i_iconst C dX12_calls_36 kI_0 ?_
        exact i_sub [0, 1, 3] rfl (hj4 0 M)
      · refine i_iconst C dX12_calls_32 kI_1 ?_
        refine i_goto (tgt := 37) C dX12_calls_33 (by decide) ?_
        exact i_sub [0, 1, 3] rfl (hj4 1 M)
set_option maxRecDepth 100000 in
set_option maxHeartbeats 4000000 in
theorem c_X12_calls (l : Launch) (G : Gx) {K : Kx} (hK : K = kR) {x1 : Int} {M : Mem} {res : Int × Mem} (hM : OkM M) (ha : okS [aR 0, aI x1]) (hF : rM_calls x1 M = some res) : Ct l G K yX12_calls (wsM yX12_calls cX12_calls 4 (some .int)) rmX12_calls [aR 0, aI x1] M (some (aI res.1)) res.2 := by
  refine ct_of RX12 (by decide +kernel) rfl (hK ▸ kR_ok) hM ha (Nat.le_of_ble_eq_true rfl) hF ?_
  intro X C hl hG hX0 hN hR hq
  have hX : xK X = kR := hX0.trans hK
  show Im X 0 0 0 [(0, aR 0), (1, aI x1)] [] M res (rM_calls x1 M)
  unfold rM_calls
  have hl2 : 2 < xn X := by rw [hN]; decide
  have hl3 : 3 < xn X := by rw [hN]; decide
  refine i_iconst C dX12_calls_0 kI_0 ?_
  refine i_istore_n C dX12_calls_1 rfl hl2 (L' := [(0, aR 0), (1, aI x1), (2, aI 0)]) rfl ?_
  refine i_iconst C dX12_calls_2 kI_0 ?_
  refine i_istore_n C dX12_calls_3 rfl hl3 (L' := [(0, aR 0), (1, aI x1), (2, aI 0), (3, aI 0)]) rfl ?_
  exact (w_X12_calls_4 C hX hN hR hq x1 FU 0 0 M)
set_option maxRecDepth 100000 in
set_option maxHeartbeats 4000000 in
theorem c_X12_told (l : Launch) (G : Gx) {K : Kx} (hK : K = kR) {x1 : Int} {x2 : Int} {M : Mem} {res : Int × Mem} (hM : OkM M) (ha : okS [aR 0, aI x1, aI x2]) (hF : rM_told x1 x2 M = some res) : Ct l G K yX12_told (wsM yX12_told cX12_told 4 (some .int)) rmX12_told [aR 0, aI x1, aI x2] M (some (aI res.1)) res.2 := by
  refine ct_of RX12 (by decide +kernel) rfl (hK ▸ kR_ok) hM ha (Nat.le_of_ble_eq_true rfl) hF ?_
  intro X C hl hG hX0 hN hR hq
  have hX : xK X = kR := hX0.trans hK
  show Im X 0 0 0 [(0, aR 0), (1, aI x1), (2, aI x2)] [] M res (rM_told x1 x2 M)
  unfold rM_told
  have hl3 : 3 < xn X := by rw [hN]; decide
  have hRm : ∀ {rm : Room} {ny : Nat}, RmOk rmX12_told rm ny → RmOk (xR X) rm ny := fun h => by rw [hR]; exact h
  refine i_aload_n C dX12_told_0 rfl (q := 0) rfl ?_
  refine i_iload_n C dX12_told_1 rfl (q := 1) rfl ?_
  refine i_cI (kc' := 0) (ks' := 0) 0 0 2 (fun q hq hM hS => crV C (as := [aI x1]) dX12_told_2.1 kX12 (shR_0 hX) ml_X12_82 cal_X12_isTie cv_X12_isTie (hRm ⟨Nat.le_of_ble_eq_true rfl, Nat.le_of_ble_eq_true rfl⟩) rfl (Nat.le_of_ble_eq_true rfl) (c_X12_isTie (xl X) (xG X) hX hM ⟨hS.2.1, hS.1, trivial⟩ hq)) (Nat.le_of_ble_eq_true rfl) (Nat.le_of_ble_eq_true rfl) rfl rfl rfl (fun v2 M1 => ?_)
  refine i_if_eq (tgt := 20) C dX12_told_5 (by decide) ?_ ?_
  · refine i_ldc C dX12_told_20 kc_X12_102 kI_m1000000001 ?_
    exact i_iret C hq dX12_told_22
  · refine i_iload_n C dX12_told_8 rfl (q := 2) rfl ?_
    refine i_i2l C dX12_told_9 ?_
    refine i_lconst C dX12_told_10 kL_0 ?_
    refine i_ldc2 C dX12_told_11 k2_X12_138 kJ_9 ?_
    refine i_cI (kc' := 0) (ks' := 0) 0 0 3 (fun q hq hM hS => crS C (as := [aL x2, aL 0, aL 9]) dX12_told_14.1 ml_X12_78 cal_X12_isIn st_X12_isIn (hRm ⟨Nat.le_of_ble_eq_true rfl, Nat.le_of_ble_eq_true rfl⟩) rfl (Nat.le_of_ble_eq_true rfl) (c_X12_isIn (xl X) (xG X) hX hM ⟨hS.2.2.1, hS.2.1, hS.1, trivial⟩ hq)) (Nat.le_of_ble_eq_true rfl) (Nat.le_of_ble_eq_true rfl) rfl rfl rfl (fun v4 M3 => ?_)
    refine i_if_ne (tgt := 23) C dX12_told_17 (by decide) ?_ ?_
    · refine i_aload_n C dX12_told_23 rfl (q := 0) rfl ?_
      refine i_getR C (k := 0) kX12 dX12_told_24 (shR_0 hX) rfl (by decide) fl_X12_7 ?_
      refine i_aload_n C dX12_told_27 rfl (q := 0) rfl ?_
      refine i_iload_n C dX12_told_28 rfl (q := 1) rfl ?_
      refine i_cI (kc' := 0) (ks' := 0) 0 0 2 (fun q hq hM hS => crV C (as := [aI x1]) dX12_told_29.1 kX12 (shR_0 hX) ml_X12_86 cal_X12_tieAt cv_X12_tieAt (hRm ⟨Nat.le_of_ble_eq_true rfl, Nat.le_of_ble_eq_true rfl⟩) rfl (Nat.le_of_ble_eq_true rfl) (c_X12_tieAt (xl X) (xG X) hX hM ⟨hS.2.1, hS.1, trivial⟩ hq)) (Nat.le_of_ble_eq_true rfl) (Nat.le_of_ble_eq_true rfl) rfl rfl rfl (fun v6 M5 => ?_)
      refine i_ald C dX12_told_32 (shR_1 hX) (fun v7 => ?_)
      refine i_istore_n C dX12_told_33 rfl hl3 (L' := [(0, aR 0), (1, aI x1), (2, aI x2), (3, aI v7)]) rfl ?_
      refine i_iload_n C dX12_told_34 rfl (q := 2) rfl ?_
      refine i_bipush C dX12_told_35 kB_9 ?_
      refine i_icmp_ne (tgt := 68) C dX12_told_37 (by decide) ?_ ?_
      · refine i_iload_n C dX12_told_68 rfl (q := 2) rfl ?_
        refine i_bipush C dX12_told_69 kB_8 ?_
        refine i_icmp_ne (tgt := 93) C dX12_told_71 (by decide) ?_ ?_
        · refine i_aload_n C dX12_told_93 rfl (q := 0) rfl ?_
          refine i_getR C (k := 0) kX12 dX12_told_94 (shR_0 hX) rfl (by decide) fl_X12_7 ?_
          refine i_aload_n C dX12_told_97 rfl (q := 0) rfl ?_
          refine i_iload_n C dX12_told_98 rfl (q := 1) rfl ?_
          refine i_cI (kc' := 0) (ks' := 0) 0 0 2 (fun q hq hM hS => crV C (as := [aI x1]) dX12_told_99.1 kX12 (shR_0 hX) ml_X12_86 cal_X12_tieAt cv_X12_tieAt (hRm ⟨Nat.le_of_ble_eq_true rfl, Nat.le_of_ble_eq_true rfl⟩) rfl (Nat.le_of_ble_eq_true rfl) (c_X12_tieAt (xl X) (xG X) hX hM ⟨hS.2.1, hS.1, trivial⟩ hq)) (Nat.le_of_ble_eq_true rfl) (Nat.le_of_ble_eq_true rfl) rfl rfl rfl (fun v9 M8 => ?_)
          refine i_iload_n C dX12_told_102 rfl (q := 2) rfl ?_
          refine i_iadd C dX12_told_103 ?_
          refine i_ald C dX12_told_104 (shR_1 hX) (fun v10 => ?_)
          exact i_iret C hq dX12_told_105
        · refine i_aload_n C dX12_told_74 rfl (q := 0) rfl ?_
          refine i_getR C (k := 0) kX12 dX12_told_75 (shR_0 hX) rfl (by decide) fl_X12_7 ?_
          refine i_aload_n C dX12_told_78 rfl (q := 0) rfl ?_
          refine i_iload_n C dX12_told_79 rfl (q := 1) rfl ?_
          refine i_cI (kc' := 0) (ks' := 0) 0 0 2 (fun q hq hM hS => crV C (as := [aI x1]) dX12_told_80.1 kX12 (shR_0 hX) ml_X12_86 cal_X12_tieAt cv_X12_tieAt (hRm ⟨Nat.le_of_ble_eq_true rfl, Nat.le_of_ble_eq_true rfl⟩) rfl (Nat.le_of_ble_eq_true rfl) (c_X12_tieAt (xl X) (xG X) hX hM ⟨hS.2.1, hS.1, trivial⟩ hq)) (Nat.le_of_ble_eq_true rfl) (Nat.le_of_ble_eq_true rfl) rfl rfl rfl (fun v12 M11 => ?_)
          refine i_bipush C dX12_told_83 kB_8 ?_
          refine i_iadd C dX12_told_85 ?_
          refine i_ald C dX12_told_86 (shR_1 hX) (fun v13 => ?_)
          refine i_cI (kc' := 0) (ks' := 0) 0 0 1 (fun q hq hM hS => crS C (as := [aI v13]) dX12_told_87.1 ml_X12_124 cal_X12_orNone st_X12_orNone (hRm ⟨Nat.le_of_ble_eq_true rfl, Nat.le_of_ble_eq_true rfl⟩) rfl (Nat.le_of_ble_eq_true rfl) (c_X12_orNone (xl X) (xG X) hX hM ⟨hS.1, trivial⟩ hq)) (Nat.le_of_ble_eq_true rfl) (Nat.le_of_ble_eq_true rfl) rfl rfl rfl (fun v15 M14 => ?_)
          refine i_goto (tgt := 105) C dX12_told_90 (by decide) ?_
          exact i_iret C hq dX12_told_105
      · refine i_iload_n C dX12_told_40 rfl (q := 3) rfl ?_
        refine i_iconst C dX12_told_41 kI_1 ?_
        refine i_icmp_ne (tgt := 53) C dX12_told_42 (by decide) ?_ ?_
        · refine i_iload_n C dX12_told_53 rfl (q := 3) rfl ?_
          refine i_iconst C dX12_told_54 kI_4 ?_
          refine i_icmp_ne (tgt := 66) C dX12_told_55 (by decide) ?_ ?_
          · refine i_iconst C dX12_told_66 kI_0 ?_
            exact i_iret C hq dX12_told_67
          · refine i_aload_n C dX12_told_58 rfl (q := 0) rfl ?_
            refine i_iload_n C dX12_told_59 rfl (q := 1) rfl ?_
            refine i_cI (kc' := 0) (ks' := 0) 0 0 2 (fun q hq hM hS => crV C (as := [aI x1]) dX12_told_60.1 kX12 (shR_0 hX) ml_X12_158 cal_X12_calls cv_X12_calls (hRm ⟨Nat.le_of_ble_eq_true rfl, Nat.le_of_ble_eq_true rfl⟩) rfl (Nat.le_of_ble_eq_true rfl) (c_X12_calls (xl X) (xG X) hX hM ⟨hS.2.1, hS.1, trivial⟩ hq)) (Nat.le_of_ble_eq_true rfl) (Nat.le_of_ble_eq_true rfl) rfl rfl rfl (fun v17 M16 => ?_)
            refine i_goto (tgt := 67) C dX12_told_63 (by decide) ?_
            exact i_iret C hq dX12_told_67
        · refine i_aload_n C dX12_told_45 rfl (q := 0) rfl ?_
          refine i_iload_n C dX12_told_46 rfl (q := 1) rfl ?_
          refine i_cI (kc' := 0) (ks' := 0) 0 0 2 (fun q hq hM hS => crV C (as := [aI x1]) dX12_told_47.1 kX12 (shR_0 hX) ml_X12_155 cal_X12_waiting0 cv_X12_waiting0 (hRm ⟨Nat.le_of_ble_eq_true rfl, Nat.le_of_ble_eq_true rfl⟩) rfl (Nat.le_of_ble_eq_true rfl) (c_X12_waiting0 (xl X) (xG X) hX hM ⟨hS.2.1, hS.1, trivial⟩ hq)) (Nat.le_of_ble_eq_true rfl) (Nat.le_of_ble_eq_true rfl) rfl rfl rfl (fun v19 M18 => ?_)
          refine i_goto (tgt := 67) C dX12_told_50 (by decide) ?_
          exact i_iret C hq dX12_told_67
    · refine i_ldc C dX12_told_20 kc_X12_102 kI_m1000000001 ?_
      exact i_iret C hq dX12_told_22
set_option maxRecDepth 100000 in
set_option maxHeartbeats 4000000 in
theorem c_X12_as (l : Launch) (G : Gx) {K : Kx} (hK : K = kR) {x1 : Int} {x2 : Int} {M : Mem} {res : Int × Mem} (hM : OkM M) (ha : okS [aR 0, aI x1, aI x2]) (hF : rM_as x1 x2 M = some res) : Ct l G K yX12_as (wsM yX12_as cX12_as 5 (some .int)) rmX12_as [aR 0, aI x1, aI x2] M (some (aI res.1)) res.2 := by
  refine ct_of RX12 (by decide +kernel) rfl (hK ▸ kR_ok) hM ha (Nat.le_of_ble_eq_true rfl) hF ?_
  intro X C hl hG hX0 hN hR hq
  have hX : xK X = kR := hX0.trans hK
  show Im X 0 0 0 [(0, aR 0), (1, aI x1), (2, aI x2)] [] M res (rM_as x1 x2 M)
  unfold rM_as
  have hl3 : 3 < xn X := by rw [hN]; decide
  have hl4 : 4 < xn X := by rw [hN]; decide
  have hRm : ∀ {rm : Room} {ny : Nat}, RmOk rmX12_as rm ny → RmOk (xR X) rm ny := fun h => by rw [hR]; exact h
  refine i_aload_n C dX12_as_0 rfl (q := 0) rfl ?_
  refine i_iload_n C dX12_as_1 rfl (q := 1) rfl ?_
  refine i_cI (kc' := 0) (ks' := 0) 0 0 2 (fun q hq hM hS => crV C (as := [aI x1]) dX12_as_2.1 kX12 (shR_0 hX) ml_X12_82 cal_X12_isTie cv_X12_isTie (hRm ⟨Nat.le_of_ble_eq_true rfl, Nat.le_of_ble_eq_true rfl⟩) rfl (Nat.le_of_ble_eq_true rfl) (c_X12_isTie (xl X) (xG X) hX hM ⟨hS.2.1, hS.1, trivial⟩ hq)) (Nat.le_of_ble_eq_true rfl) (Nat.le_of_ble_eq_true rfl) rfl rfl rfl (fun v2 M1 => ?_)
  refine i_if_eq (tgt := 20) C dX12_as_5 (by decide) ?_ ?_
  · refine i_ldc C dX12_as_20 kc_X12_102 kI_m1000000001 ?_
    exact i_iret C hq dX12_as_22
  · refine i_iload_n C dX12_as_8 rfl (q := 2) rfl ?_
    refine i_i2l C dX12_as_9 ?_
    refine i_lconst C dX12_as_10 kL_0 ?_
    refine i_ldc2 C dX12_as_11 k2_X12_122 kJ_7 ?_
    refine i_cI (kc' := 0) (ks' := 0) 0 0 3 (fun q hq hM hS => crS C (as := [aL x2, aL 0, aL 7]) dX12_as_14.1 ml_X12_78 cal_X12_isIn st_X12_isIn (hRm ⟨Nat.le_of_ble_eq_true rfl, Nat.le_of_ble_eq_true rfl⟩) rfl (Nat.le_of_ble_eq_true rfl) (c_X12_isIn (xl X) (xG X) hX hM ⟨hS.2.2.1, hS.2.1, hS.1, trivial⟩ hq)) (Nat.le_of_ble_eq_true rfl) (Nat.le_of_ble_eq_true rfl) rfl rfl rfl (fun v4 M3 => ?_)
    refine i_if_ne (tgt := 23) C dX12_as_17 (by decide) ?_ ?_
    · refine i_aload_n C dX12_as_23 rfl (q := 0) rfl ?_
      refine i_getR C (k := 0) kX12 dX12_as_24 (shR_0 hX) rfl (by decide) fl_X12_7 ?_
      refine i_aload_n C dX12_as_27 rfl (q := 0) rfl ?_
      refine i_iload_n C dX12_as_28 rfl (q := 1) rfl ?_
      refine i_cI (kc' := 0) (ks' := 0) 0 0 2 (fun q hq hM hS => crV C (as := [aI x1]) dX12_as_29.1 kX12 (shR_0 hX) ml_X12_86 cal_X12_tieAt cv_X12_tieAt (hRm ⟨Nat.le_of_ble_eq_true rfl, Nat.le_of_ble_eq_true rfl⟩) rfl (Nat.le_of_ble_eq_true rfl) (c_X12_tieAt (xl X) (xG X) hX hM ⟨hS.2.1, hS.1, trivial⟩ hq)) (Nat.le_of_ble_eq_true rfl) (Nat.le_of_ble_eq_true rfl) rfl rfl rfl (fun v6 M5 => ?_)
      refine i_ald C dX12_as_32 (shR_1 hX) (fun v7 => ?_)
      refine i_istore_n C dX12_as_33 rfl hl3 (L' := [(0, aR 0), (1, aI x1), (2, aI x2), (3, aI v7)]) rfl ?_
      refine i_iload_n C dX12_as_34 rfl (q := 2) rfl ?_
      refine i_jn (fun j => ∀ (p8 : Int) (M10 : Mem), Im X 0 0 81 [(0, aR 0), (1, aI x1)] [aI p8] M10 res (j p8 M10)) ?_ (fun j9 hj9 => ?_)
      · intro p8 M10
        refine i_istore C dX12_as_81 hl4 (L' := [(0, aR 0), (1, aI x1), (4, aI p8)]) rfl ?_
        refine i_iload C dX12_as_83 (q := 2) rfl ?_
        refine i_if_eq (tgt := 103) C dX12_as_85 (by decide) ?_ ?_
        · refine i_ldc C dX12_as_103 kc_X12_161 kI_m1000000012 ?_
          exact i_iret C hq dX12_as_105
        · refine i_aload_n C dX12_as_88 rfl (q := 0) rfl ?_
          refine i_getR C (k := 0) kX12 dX12_as_89 (shR_0 hX) rfl (by decide) fl_X12_7 ?_
          refine i_aload_n C dX12_as_92 rfl (q := 0) rfl ?_
          refine i_iload_n C dX12_as_93 rfl (q := 1) rfl ?_
          refine i_cI (kc' := 0) (ks' := 0) 0 0 2 (fun q hq hM hS => crV C (as := [aI x1]) dX12_as_94.1 kX12 (shR_0 hX) ml_X12_86 cal_X12_tieAt cv_X12_tieAt (hRm ⟨Nat.le_of_ble_eq_true rfl, Nat.le_of_ble_eq_true rfl⟩) rfl (Nat.le_of_ble_eq_true rfl) (c_X12_tieAt (xl X) (xG X) hX hM ⟨hS.2.1, hS.1, trivial⟩ hq)) (Nat.le_of_ble_eq_true rfl) (Nat.le_of_ble_eq_true rfl) rfl rfl rfl (fun v12 M11 => ?_)
          refine i_iconst C dX12_as_97 kI_3 ?_
          refine i_iadd C dX12_as_98 ?_
          refine i_ald C dX12_as_99 (shR_1 hX) (fun v13 => ?_)
          refine i_goto (tgt := 105) C dX12_as_100 (by decide) ?_
          exact i_iret C hq dX12_as_105
      refine i_jn (fun j => ∀  (M15 : Mem), Im X 0 0 76 [(0, aR 0), (1, aI x1)] [] M15 res (j  M15)) ?_ (fun j14 hj14 => ?_)
      · intro  M15
        refine i_iconst C dX12_as_76 kI_1 ?_
        refine i_goto (tgt := 81) C dX12_as_77 (by decide) ?_
        exact (hj9 1 M15)
      refine i_if_eq (tgt := 76) C dX12_as_35 (by decide) ?_ ?_
      · exact i_sub [0, 1] rfl (hj14  M5)
      · refine i_iload_n C dX12_as_38 rfl (q := 2) rfl ?_
        refine i_iload_n C dX12_as_39 rfl (q := 3) rfl ?_
        refine i_icmp_eq (tgt := 76) C dX12_as_40 (by decide) ?_ ?_
        · exact i_sub [0, 1] rfl (hj14  M5)
        · refine i_iload_n C dX12_as_43 rfl (q := 2) rfl ?_
          refine i_iconst C dX12_as_44 kI_3 ?_
          refine i_jn (fun j => ∀  (M17 : Mem), Im X 0 0 53 [(0, aR 0), (1, aI x1), (2, aI x2), (3, aI v7)] [] M17 res (j  M17)) ?_ (fun j16 hj16 => ?_)
          · intro  M17
            refine i_iload_n C dX12_as_53 rfl (q := 2) rfl ?_
            refine i_iconst C dX12_as_54 kI_5 ?_
            refine i_jn (fun j => ∀  (M19 : Mem), Im X 0 0 64 [(0, aR 0), (1, aI x1), (2, aI x2), (3, aI v7)] [] M19 res (j  M19)) ?_ (fun j18 hj18 => ?_)
            · intro  M19
              refine i_iload_n C dX12_as_64 rfl (q := 2) rfl ?_
              refine i_bipush C dX12_as_65 kB_6 ?_
              refine i_jn (fun j => ∀  (M21 : Mem), Im X 0 0 80 [(0, aR 0), (1, aI x1)] [] M21 res (j  M21)) ?_ (fun j20 hj20 => ?_)
              · intro  M21
                refine i_iconst C dX12_as_80 kI_0 ?_
                exact (hj9 0 M21)
              refine i_icmp_ne (tgt := 80) C dX12_as_67 (by decide) ?_ ?_
              · exact i_sub [0, 1] rfl (hj20  M19)
              · refine i_iload_n C dX12_as_70 rfl (q := 3) rfl ?_
                refine i_bipush C dX12_as_71 kB_7 ?_
                refine i_icmp_ne (tgt := 80) C dX12_as_73 (by decide) ?_ ?_
                · exact i_sub [0, 1] rfl (hj20  M19)
                · exact i_sub [0, 1] rfl (hj14  M19)
            refine i_icmp_ne (tgt := 64) C dX12_as_55 (by decide) ?_ ?_
            · exact (hj18  M17)
            · refine i_iload_n C dX12_as_58 rfl (q := 3) rfl ?_
              refine i_bipush C dX12_as_59 kB_6 ?_
              refine i_icmp_ge (tgt := 76) C dX12_as_61 (by decide) ?_ ?_
              · exact i_sub [0, 1] rfl (hj14  M17)
              · exact (hj18  M17)
          refine i_icmp_ne (tgt := 53) C dX12_as_45 (by decide) ?_ ?_
          · exact (hj16  M5)
          · refine i_iload_n C dX12_as_48 rfl (q := 3) rfl ?_
            refine i_iconst C dX12_as_49 kI_4 ?_
            refine i_icmp_eq (tgt := 76) C dX12_as_50 (by decide) ?_ ?_
            · exact i_sub [0, 1] rfl (hj14  M5)
            · exact (hj16  M5)
    · refine i_ldc C dX12_as_20 kc_X12_102 kI_m1000000001 ?_
      exact i_iret C hq dX12_as_22
set_option maxRecDepth 100000 in
set_option maxHeartbeats 4000000 in
theorem c_X12_change (l : Launch) (G : Gx) {K : Kx} (hK : K = kR) {x1 : Int} {x2 : Int} {M : Mem} {res : Int × Mem} (hM : OkM M) (ha : okS [aR 0, aI x1, aI x2]) (hF : rM_change x1 x2 M = some res) : Ct l G K yX12_change (wsM yX12_change cX12_change 4 (some .int)) rmX12_change [aR 0, aI x1, aI x2] M (some (aI res.1)) res.2 := by
  refine ct_of RX12 (by decide +kernel) rfl (hK ▸ kR_ok) hM ha (Nat.le_of_ble_eq_true rfl) hF ?_
  intro X C hl hG hX0 hN hR hq
  have hX : xK X = kR := hX0.trans hK
  show Im X 0 0 0 [(0, aR 0), (1, aI x1), (2, aI x2)] [] M res (rM_change x1 x2 M)
  unfold rM_change
  have hl3 : 3 < xn X := by rw [hN]; decide
  have hRm : ∀ {rm : Room} {ny : Nat}, RmOk rmX12_change rm ny → RmOk (xR X) rm ny := fun h => by rw [hR]; exact h
  refine i_aload_n C dX12_change_0 rfl (q := 0) rfl ?_
  refine i_iload_n C dX12_change_1 rfl (q := 1) rfl ?_
  refine i_cI (kc' := 0) (ks' := 0) 0 0 2 (fun q hq hM hS => crV C (as := [aI x1]) dX12_change_2.1 kX12 (shR_0 hX) ml_X12_82 cal_X12_isTie cv_X12_isTie (hRm ⟨Nat.le_of_ble_eq_true rfl, Nat.le_of_ble_eq_true rfl⟩) rfl (Nat.le_of_ble_eq_true rfl) (c_X12_isTie (xl X) (xG X) hX hM ⟨hS.2.1, hS.1, trivial⟩ hq)) (Nat.le_of_ble_eq_true rfl) (Nat.le_of_ble_eq_true rfl) rfl rfl rfl (fun v2 M1 => ?_)
  refine i_if_ne (tgt := 11) C dX12_change_5 (by decide) ?_ ?_
  · refine i_aload_n C dX12_change_11 rfl (q := 0) rfl ?_
    refine i_getR C (k := 0) kX12 dX12_change_12 (shR_0 hX) rfl (by decide) fl_X12_7 ?_
    refine i_aload_n C dX12_change_15 rfl (q := 0) rfl ?_
    refine i_iload_n C dX12_change_16 rfl (q := 1) rfl ?_
    refine i_cI (kc' := 0) (ks' := 0) 0 0 2 (fun q hq hM hS => crV C (as := [aI x1]) dX12_change_17.1 kX12 (shR_0 hX) ml_X12_86 cal_X12_tieAt cv_X12_tieAt (hRm ⟨Nat.le_of_ble_eq_true rfl, Nat.le_of_ble_eq_true rfl⟩) rfl (Nat.le_of_ble_eq_true rfl) (c_X12_tieAt (xl X) (xG X) hX hM ⟨hS.2.1, hS.1, trivial⟩ hq)) (Nat.le_of_ble_eq_true rfl) (Nat.le_of_ble_eq_true rfl) rfl rfl rfl (fun v4 M3 => ?_)
    refine i_ald C dX12_change_20 (shR_1 hX) (fun v5 => ?_)
    refine i_istore_n C dX12_change_21 rfl hl3 (L' := [(0, aR 0), (1, aI x1), (2, aI x2), (3, aI v5)]) rfl ?_
    refine i_iload_n C dX12_change_22 rfl (q := 3) rfl ?_
    refine i_if_eq (tgt := 36) C dX12_change_23 (by decide) ?_ ?_
    · refine i_ldc C dX12_change_36 kc_X12_161 kI_m1000000012 ?_
      exact i_iret C hq dX12_change_38
    · refine i_iload_n C dX12_change_26 rfl (q := 3) rfl ?_
      refine i_iconst C dX12_change_27 kI_2 ?_
      refine i_icmp_eq (tgt := 36) C dX12_change_28 (by decide) ?_ ?_
      · refine i_ldc C dX12_change_36 kc_X12_161 kI_m1000000012 ?_
        exact i_iret C hq dX12_change_38
      · refine i_iload_n C dX12_change_31 rfl (q := 3) rfl ?_
        refine i_iconst C dX12_change_32 kI_5 ?_
        refine i_icmp_le (tgt := 39) C dX12_change_33 (by decide) ?_ ?_
        · refine i_aload_n C dX12_change_39 rfl (q := 0) rfl ?_
          refine i_iload_n C dX12_change_40 rfl (q := 3) rfl ?_
          refine i_iload_n C dX12_change_41 rfl (q := 2) rfl ?_
          refine i_cI (kc' := 0) (ks' := 0) 0 0 3 (fun q hq hM hS => crV C (as := [aI v5, aI x2]) dX12_change_42.1 kX12 (shR_0 hX) ml_X12_144 cal_X12_fits cv_X12_fits (hRm ⟨Nat.le_of_ble_eq_true rfl, Nat.le_of_ble_eq_true rfl⟩) rfl (Nat.le_of_ble_eq_true rfl) (c_X12_fits (xl X) (xG X) hX hM ⟨hS.2.2.1, hS.2.1, hS.1, trivial⟩ hq)) (Nat.le_of_ble_eq_true rfl) (Nat.le_of_ble_eq_true rfl) rfl rfl rfl (fun v7 M6 => ?_)
          refine i_if_eq (tgt := 63) C dX12_change_45 (by decide) ?_ ?_
          · refine i_ldc C dX12_change_63 kc_X12_102 kI_m1000000001 ?_
            exact i_iret C hq dX12_change_65
          · refine i_aload_n C dX12_change_48 rfl (q := 0) rfl ?_
            refine i_aload_n C dX12_change_49 rfl (q := 0) rfl ?_
            refine i_iload_n C dX12_change_50 rfl (q := 1) rfl ?_
            refine i_cI (kc' := 0) (ks' := 0) 0 0 2 (fun q hq hM hS => crV C (as := [aI x1]) dX12_change_51.1 kX12 (shR_0 hX) ml_X12_86 cal_X12_tieAt cv_X12_tieAt (hRm ⟨Nat.le_of_ble_eq_true rfl, Nat.le_of_ble_eq_true rfl⟩) rfl (Nat.le_of_ble_eq_true rfl) (c_X12_tieAt (xl X) (xG X) hX hM ⟨hS.2.1, hS.1, trivial⟩ hq)) (Nat.le_of_ble_eq_true rfl) (Nat.le_of_ble_eq_true rfl) rfl rfl rfl (fun v9 M8 => ?_)
            refine i_iconst C dX12_change_54 kI_3 ?_
            refine i_iadd C dX12_change_55 ?_
            refine i_iload_n C dX12_change_56 rfl (q := 2) rfl ?_
            refine i_cI (kc' := 0) (ks' := 0) 0 0 3 (fun q hq hM hS => crV C (as := [aI (w32 (v9 + 3)), aI x2]) dX12_change_57.1 kX12 (shR_0 hX) ml_X12_111 cal_X12_becomes cv_X12_becomes (hRm ⟨Nat.le_of_ble_eq_true rfl, Nat.le_of_ble_eq_true rfl⟩) rfl (Nat.le_of_ble_eq_true rfl) (c_X12_becomes (xl X) (xG X) hX hM ⟨hS.2.2.1, hS.2.1, hS.1, trivial⟩ hq)) (Nat.le_of_ble_eq_true rfl) (Nat.le_of_ble_eq_true rfl) rfl rfl rfl (fun v11 M10 => ?_)
            refine i_goto (tgt := 65) C dX12_change_60 (by decide) ?_
            exact i_iret C hq dX12_change_65
        · refine i_ldc C dX12_change_36 kc_X12_161 kI_m1000000012 ?_
          exact i_iret C hq dX12_change_38
  · refine i_ldc C dX12_change_8 kc_X12_102 kI_m1000000001 ?_
    exact i_iret C hq dX12_change_10
set_option maxRecDepth 100000 in
set_option maxHeartbeats 4000000 in
theorem c_X12_gate (l : Launch) (G : Gx) {K : Kx} (hK : K = kR) {x1 : Int} {x2 : Int} {x3 : Int} {M : Mem} {res : Int × Mem} (hM : OkM M) (ha : okS [aR 0, aI x1, aI x2, aI x3]) (hF : rM_gate x1 x2 x3 M = some res) : Ct l G K yX12_gate (wsM yX12_gate cX12_gate 4 (some .int)) rmX12_gate [aR 0, aI x1, aI x2, aI x3] M (some (aI res.1)) res.2 := by
  refine ct_of RX12 (by decide +kernel) rfl (hK ▸ kR_ok) hM ha (Nat.le_of_ble_eq_true rfl) hF ?_
  intro X C hl hG hX0 hN hR hq
  have hX : xK X = kR := hX0.trans hK
  show Im X 0 0 0 [(0, aR 0), (1, aI x1), (2, aI x2), (3, aI x3)] [] M res (rM_gate x1 x2 x3 M)
  unfold rM_gate
  have hRm : ∀ {rm : Room} {ny : Nat}, RmOk rmX12_gate rm ny → RmOk (xR X) rm ny := fun h => by rw [hR]; exact h
  refine i_aload_n C dX12_gate_0 rfl (q := 0) rfl ?_
  refine i_iload_n C dX12_gate_1 rfl (q := 1) rfl ?_
  refine i_cI (kc' := 0) (ks' := 0) 0 0 2 (fun q hq hM hS => crV C (as := [aI x1]) dX12_gate_2.1 kX12 (shR_0 hX) ml_X12_82 cal_X12_isTie cv_X12_isTie (hRm ⟨Nat.le_of_ble_eq_true rfl, Nat.le_of_ble_eq_true rfl⟩) rfl (Nat.le_of_ble_eq_true rfl) (c_X12_isTie (xl X) (xG X) hX hM ⟨hS.2.1, hS.1, trivial⟩ hq)) (Nat.le_of_ble_eq_true rfl) (Nat.le_of_ble_eq_true rfl) rfl rfl rfl (fun v2 M1 => ?_)
  refine i_if_eq (tgt := 32) C dX12_gate_5 (by decide) ?_ ?_
  · refine i_ldc C dX12_gate_32 kc_X12_102 kI_m1000000001 ?_
    exact i_iret C hq dX12_gate_34
  · refine i_iload_n C dX12_gate_8 rfl (q := 2) rfl ?_
    refine i_i2l C dX12_gate_9 ?_
    refine i_lconst C dX12_gate_10 kL_0 ?_
    refine i_ldc2 C dX12_gate_11 k2_X12_162 kJ_23 ?_
    refine i_cI (kc' := 0) (ks' := 0) 0 0 3 (fun q hq hM hS => crS C (as := [aL x2, aL 0, aL 23]) dX12_gate_14.1 ml_X12_78 cal_X12_isIn st_X12_isIn (hRm ⟨Nat.le_of_ble_eq_true rfl, Nat.le_of_ble_eq_true rfl⟩) rfl (Nat.le_of_ble_eq_true rfl) (c_X12_isIn (xl X) (xG X) hX hM ⟨hS.2.2.1, hS.2.1, hS.1, trivial⟩ hq)) (Nat.le_of_ble_eq_true rfl) (Nat.le_of_ble_eq_true rfl) rfl rfl rfl (fun v4 M3 => ?_)
    refine i_if_eq (tgt := 32) C dX12_gate_17 (by decide) ?_ ?_
    · refine i_ldc C dX12_gate_32 kc_X12_102 kI_m1000000001 ?_
      exact i_iret C hq dX12_gate_34
    · refine i_iload_n C dX12_gate_20 rfl (q := 3) rfl ?_
      refine i_i2l C dX12_gate_21 ?_
      refine i_lconst C dX12_gate_22 kL_0 ?_
      refine i_ldc2 C dX12_gate_23 k2_X12_162 kJ_23 ?_
      refine i_cI (kc' := 0) (ks' := 0) 0 0 3 (fun q hq hM hS => crS C (as := [aL x3, aL 0, aL 23]) dX12_gate_26.1 ml_X12_78 cal_X12_isIn st_X12_isIn (hRm ⟨Nat.le_of_ble_eq_true rfl, Nat.le_of_ble_eq_true rfl⟩) rfl (Nat.le_of_ble_eq_true rfl) (c_X12_isIn (xl X) (xG X) hX hM ⟨hS.2.2.1, hS.2.1, hS.1, trivial⟩ hq)) (Nat.le_of_ble_eq_true rfl) (Nat.le_of_ble_eq_true rfl) rfl rfl rfl (fun v6 M5 => ?_)
      refine i_if_ne (tgt := 35) C dX12_gate_29 (by decide) ?_ ?_
      · refine i_aload_n C dX12_gate_35 rfl (q := 0) rfl ?_
        refine i_getR C (k := 0) kX12 dX12_gate_36 (shR_0 hX) rfl (by decide) fl_X12_7 ?_
        refine i_aload_n C dX12_gate_39 rfl (q := 0) rfl ?_
        refine i_iload_n C dX12_gate_40 rfl (q := 1) rfl ?_
        refine i_cI (kc' := 0) (ks' := 0) 0 0 2 (fun q hq hM hS => crV C (as := [aI x1]) dX12_gate_41.1 kX12 (shR_0 hX) ml_X12_86 cal_X12_tieAt cv_X12_tieAt (hRm ⟨Nat.le_of_ble_eq_true rfl, Nat.le_of_ble_eq_true rfl⟩) rfl (Nat.le_of_ble_eq_true rfl) (c_X12_tieAt (xl X) (xG X) hX hM ⟨hS.2.1, hS.1, trivial⟩ hq)) (Nat.le_of_ble_eq_true rfl) (Nat.le_of_ble_eq_true rfl) rfl rfl rfl (fun v8 M7 => ?_)
        refine i_ald C dX12_gate_44 (shR_1 hX) (fun v9 => ?_)
        refine i_iconst C dX12_gate_45 kI_1 ?_
        refine i_icmp_eq (tgt := 52) C dX12_gate_46 (by decide) ?_ ?_
        · refine i_aload_n C dX12_gate_52 rfl (q := 0) rfl ?_
          refine i_getR C (k := 0) kX12 dX12_gate_53 (shR_0 hX) rfl (by decide) fl_X12_7 ?_
          refine i_aload_n C dX12_gate_56 rfl (q := 0) rfl ?_
          refine i_iload_n C dX12_gate_57 rfl (q := 1) rfl ?_
          refine i_cI (kc' := 0) (ks' := 0) 0 0 2 (fun q hq hM hS => crV C (as := [aI x1]) dX12_gate_58.1 kX12 (shR_0 hX) ml_X12_86 cal_X12_tieAt cv_X12_tieAt (hRm ⟨Nat.le_of_ble_eq_true rfl, Nat.le_of_ble_eq_true rfl⟩) rfl (Nat.le_of_ble_eq_true rfl) (c_X12_tieAt (xl X) (xG X) hX hM ⟨hS.2.1, hS.1, trivial⟩ hq)) (Nat.le_of_ble_eq_true rfl) (Nat.le_of_ble_eq_true rfl) rfl rfl rfl (fun v11 M10 => ?_)
          refine i_iconst C dX12_gate_61 kI_4 ?_
          refine i_iadd C dX12_gate_62 ?_
          refine i_iload_n C dX12_gate_63 rfl (q := 2) rfl ?_
          refine i_ast C dX12_gate_64 (shR_1 hX) (fun M12 => ?_)
          refine i_aload_n C dX12_gate_65 rfl (q := 0) rfl ?_
          refine i_getR C (k := 0) kX12 dX12_gate_66 (shR_0 hX) rfl (by decide) fl_X12_7 ?_
          refine i_aload_n C dX12_gate_69 rfl (q := 0) rfl ?_
          refine i_iload_n C dX12_gate_70 rfl (q := 1) rfl ?_
          refine i_cI (kc' := 0) (ks' := 0) 0 0 2 (fun q hq hM hS => crV C (as := [aI x1]) dX12_gate_71.1 kX12 (shR_0 hX) ml_X12_86 cal_X12_tieAt cv_X12_tieAt (hRm ⟨Nat.le_of_ble_eq_true rfl, Nat.le_of_ble_eq_true rfl⟩) rfl (Nat.le_of_ble_eq_true rfl) (c_X12_tieAt (xl X) (xG X) hX hM ⟨hS.2.1, hS.1, trivial⟩ hq)) (Nat.le_of_ble_eq_true rfl) (Nat.le_of_ble_eq_true rfl) rfl rfl rfl (fun v14 M13 => ?_)
          refine i_iconst C dX12_gate_74 kI_5 ?_
          refine i_iadd C dX12_gate_75 ?_
          refine i_iload_n C dX12_gate_76 rfl (q := 3) rfl ?_
          refine i_ast C dX12_gate_77 (shR_1 hX) (fun M15 => ?_)
          refine i_iconst C dX12_gate_78 kI_1 ?_
          exact i_iret C hq dX12_gate_79
        · refine i_ldc C dX12_gate_49 kc_X12_161 kI_m1000000012 ?_
          exact i_iret C hq dX12_gate_51
      · refine i_ldc C dX12_gate_32 kc_X12_102 kI_m1000000001 ?_
        exact i_iret C hq dX12_gate_34
set_option maxRecDepth 100000 in
set_option maxHeartbeats 4000000 in
theorem w_X12_findKin_9 {X : Xc} (C : Cx X RX12 cX12_findKin none) (hX : xK X = kR) (hN : xn X = 5) (hR : xR X = rmX12_findKin) {res : Mem} (hq : Rq X none res) (y1 : Int) {k42 : Mem → Option (Mem)} (hk42 : ∀ (M : Mem), Im X 0 0 42 [(0, aR 0), (1, aI y1)] [] M res (k42 M)) : ∀ (n : Nat) (u2 : Int) (M : Mem), Im X 0 0 9 [(0, aR 0), (1, aI y1), (2, aI u2)] [] M res (lpX12_findKin_9 y1 k42 n u2 M) := by
  have hl1 : 1 < xn X := by rw [hN]; decide
  have hl2 : 2 < xn X := by rw [hN]; decide
  intro n
  induction n with
  | zero => intro _ _; exact i_none
  | succ n ih =>
    intro u2 M
    unfold lpX12_findKin_9
    refine i_iload_n C dX12_findKin_9 rfl (q := 2) rfl ?_
    refine i_sipush C dX12_findKin_10 kS_400 ?_
    refine i_icmp_ge (tgt := 42) C dX12_findKin_13 (by decide) ?_ ?_
    · exact i_sub [0, 1] rfl (hk42  M)
    · refine i_aload_n C dX12_findKin_16 rfl (q := 0) rfl ?_
      refine i_getR C (k := 7) kX12 dX12_findKin_17 (shR_0 hX) rfl (by decide) fl_X12_28 ?_
      refine i_iload_n C dX12_findKin_20 rfl (q := 2) rfl ?_
      refine i_iload_n C dX12_findKin_21 rfl (q := 2) rfl ?_
      refine i_bipush C dX12_findKin_22 kB_21 ?_
      refine i_irem C dX12_findKin_24 (by decide) ?_
      refine i_jn (fun j => ∀ (p2 : Int) (M4 : Mem), Im X 0 0 35 [(0, aR 0), (1, aI y1), (2, aI u2)] [aI p2, aI u2, aR 7] M4 res (j p2 M4)) ?_ (fun j3 hj3 => ?_)
      · intro p2 M4
        refine i_ast C dX12_findKin_35 (shR_7 hX) (fun M5 => ?_)
        refine i_iincN (L' := fun v6 => [(0, aR 0), (1, aI y1), (2, aI v6)]) C dX12_findKin_36 (q := 2) rfl hl2 (fun _ => rfl) (fun v6 => ?_)
        refine i_goto (tgt := 9) C dX12_findKin_39 (by decide) ?_
        exact (ih v6 M5)
      refine i_if_ne (tgt := 32) C dX12_findKin_25 (by decide) ?_ ?_
      · refine i_sipush C dX12_findKin_32 kS_1000 ?_
        exact (hj3 1000 M)
      · refine i_iconst C dX12_findKin_28 kI_0 ?_
        refine i_goto (tgt := 35) C dX12_findKin_29 (by decide) ?_
        exact (hj3 0 M)
set_option maxRecDepth 100000 in
set_option maxHeartbeats 4000000 in
theorem w_X12_findKin_44 {X : Xc} (C : Cx X RX12 cX12_findKin none) (hX : xK X = kR) (hN : xn X = 5) (hR : xR X = rmX12_findKin) {res : Mem} (hq : Rq X none res) (y1 : Int) {k164 : Mem → Option (Mem)} (hk164 : ∀ (M : Mem), Im X 0 0 164 [(0, aR 0), (1, aI y1)] [] M res (k164 M)) : ∀ (n : Nat) (u2 : Int) (M : Mem), Im X 0 0 44 [(0, aR 0), (1, aI y1), (2, aI u2)] [] M res (lpX12_findKin_44 y1 k164 n u2 M) := by
  have hl1 : 1 < xn X := by rw [hN]; decide
  have hl2 : 2 < xn X := by rw [hN]; decide
  have hl3 : 3 < xn X := by rw [hN]; decide
  have hl4 : 4 < xn X := by rw [hN]; decide
  have hRm : ∀ {rm : Room} {ny : Nat}, RmOk rmX12_findKin rm ny → RmOk (xR X) rm ny := fun h => by rw [hR]; exact h
  intro n
  induction n with
  | zero => intro _ _; exact i_none
  | succ n ih =>
    intro u2 M
    unfold lpX12_findKin_44
    refine i_iload_n C dX12_findKin_44 rfl (q := 2) rfl ?_
    refine i_aload_n C dX12_findKin_45 rfl (q := 0) rfl ?_
    refine i_getR C (k := 0) kX12 dX12_findKin_46 (shR_0 hX) rfl (by decide) fl_X12_7 ?_
    refine i_iconst C dX12_findKin_49 kI_3 ?_
    refine i_ald C dX12_findKin_50 (shR_1 hX) (fun v8 => ?_)
    refine i_icmp_ge (tgt := 164) C dX12_findKin_51 (by decide) ?_ ?_
    · exact i_sub [0, 1] rfl (hk164  M)
    · refine i_aload_n C dX12_findKin_54 rfl (q := 0) rfl ?_
      refine i_getR C (k := 0) kX12 dX12_findKin_55 (shR_0 hX) rfl (by decide) fl_X12_7 ?_
      refine i_aload_n C dX12_findKin_58 rfl (q := 0) rfl ?_
      refine i_iload_n C dX12_findKin_59 rfl (q := 2) rfl ?_
      refine i_cI (kc' := 0) (ks' := 0) 0 0 2 (fun q hq hM hS => crV C (as := [aI u2]) dX12_findKin_60.1 kX12 (shR_0 hX) ml_X12_86 cal_X12_tieAt cv_X12_tieAt (hRm ⟨Nat.le_of_ble_eq_true rfl, Nat.le_of_ble_eq_true rfl⟩) rfl (Nat.le_of_ble_eq_true rfl) (c_X12_tieAt (xl X) (xG X) hX hM ⟨hS.2.1, hS.1, trivial⟩ hq)) (Nat.le_of_ble_eq_true rfl) (Nat.le_of_ble_eq_true rfl) rfl rfl rfl (fun v10 M9 => ?_)
      refine i_ald C dX12_findKin_63 (shR_1 hX) (fun v11 => ?_)
      refine i_iconst C dX12_findKin_64 kI_5 ?_
      refine i_jn (fun j => ∀  (M13 : Mem), Im X 0 0 158 [(0, aR 0), (1, aI y1), (2, aI u2)] [] M13 res (j  M13)) ?_ (fun j12 hj12 => ?_)
      · intro  M13
        refine i_iincN (L' := fun v14 => [(0, aR 0), (1, aI y1), (2, aI v14)]) C dX12_findKin_158 (q := 2) rfl hl2 (fun _ => rfl) (fun v14 => ?_)
        refine i_goto (tgt := 44) C dX12_findKin_161 (by decide) ?_
        exact (ih v14 M13)
      refine i_icmp_ne (tgt := 158) C dX12_findKin_65 (by decide) ?_ ?_
      · exact (hj12  M9)
      · refine i_aload_n C dX12_findKin_68 rfl (q := 0) rfl ?_
        refine i_getR C (k := 0) kX12 dX12_findKin_69 (shR_0 hX) rfl (by decide) fl_X12_7 ?_
        refine i_aload_n C dX12_findKin_72 rfl (q := 0) rfl ?_
        refine i_iload_n C dX12_findKin_73 rfl (q := 2) rfl ?_
        refine i_cI (kc' := 0) (ks' := 0) 0 0 2 (fun q hq hM hS => crV C (as := [aI u2]) dX12_findKin_74.1 kX12 (shR_0 hX) ml_X12_86 cal_X12_tieAt cv_X12_tieAt (hRm ⟨Nat.le_of_ble_eq_true rfl, Nat.le_of_ble_eq_true rfl⟩) rfl (Nat.le_of_ble_eq_true rfl) (c_X12_tieAt (xl X) (xG X) hX hM ⟨hS.2.1, hS.1, trivial⟩ hq)) (Nat.le_of_ble_eq_true rfl) (Nat.le_of_ble_eq_true rfl) rfl rfl rfl (fun v16 M15 => ?_)
        refine i_iconst C dX12_findKin_77 kI_1 ?_
        refine i_iadd C dX12_findKin_78 ?_
        refine i_ald C dX12_findKin_79 (shR_1 hX) (fun v17 => ?_)
        refine i_istore_n C dX12_findKin_80 rfl hl3 (L' := [(0, aR 0), (1, aI y1), (2, aI u2), (3, aI v17)]) rfl ?_
        refine i_aload_n C dX12_findKin_81 rfl (q := 0) rfl ?_
        refine i_getR C (k := 0) kX12 dX12_findKin_82 (shR_0 hX) rfl (by decide) fl_X12_7 ?_
        refine i_aload_n C dX12_findKin_85 rfl (q := 0) rfl ?_
        refine i_iload_n C dX12_findKin_86 rfl (q := 2) rfl ?_
        refine i_cI (kc' := 0) (ks' := 0) 0 0 2 (fun q hq hM hS => crV C (as := [aI u2]) dX12_findKin_87.1 kX12 (shR_0 hX) ml_X12_86 cal_X12_tieAt cv_X12_tieAt (hRm ⟨Nat.le_of_ble_eq_true rfl, Nat.le_of_ble_eq_true rfl⟩) rfl (Nat.le_of_ble_eq_true rfl) (c_X12_tieAt (xl X) (xG X) hX hM ⟨hS.2.1, hS.1, trivial⟩ hq)) (Nat.le_of_ble_eq_true rfl) (Nat.le_of_ble_eq_true rfl) rfl rfl rfl (fun v19 M18 => ?_)
        refine i_iconst C dX12_findKin_90 kI_2 ?_
        refine i_iadd C dX12_findKin_91 ?_
        refine i_ald C dX12_findKin_92 (shR_1 hX) (fun v20 => ?_)
        refine i_istore C dX12_findKin_93 hl4 (L' := [(0, aR 0), (1, aI y1), (2, aI u2), (3, aI v17), (4, aI v20)]) rfl ?_
        refine i_aload_n C dX12_findKin_95 rfl (q := 0) rfl ?_
        refine i_getR C (k := 7) kX12 dX12_findKin_96 (shR_0 hX) rfl (by decide) fl_X12_28 ?_
        refine i_bipush C dX12_findKin_99 kB_20 ?_
        refine i_iload_n C dX12_findKin_101 rfl (q := 3) rfl ?_
        refine i_imul C dX12_findKin_102 ?_
        refine i_iload C dX12_findKin_103 (q := 4) rfl ?_
        refine i_iadd C dX12_findKin_105 ?_
        refine i_aload_n C dX12_findKin_106 rfl (q := 0) rfl ?_
        refine i_getR C (k := 7) kX12 dX12_findKin_107 (shR_0 hX) rfl (by decide) fl_X12_28 ?_
        refine i_bipush C dX12_findKin_110 kB_20 ?_
        refine i_iload_n C dX12_findKin_112 rfl (q := 3) rfl ?_
        refine i_imul C dX12_findKin_113 ?_
        refine i_iload C dX12_findKin_114 (q := 4) rfl ?_
        refine i_iadd C dX12_findKin_116 ?_
        refine i_ald C dX12_findKin_117 (shR_7 hX) (fun v21 => ?_)
        refine i_aload_n C dX12_findKin_118 rfl (q := 0) rfl ?_
        refine i_getR C (k := 0) kX12 dX12_findKin_119 (shR_0 hX) rfl (by decide) fl_X12_7 ?_
        refine i_aload_n C dX12_findKin_122 rfl (q := 0) rfl ?_
        refine i_iload_n C dX12_findKin_123 rfl (q := 2) rfl ?_
        refine i_cI (kc' := 0) (ks' := 0) 0 0 2 (fun q hq hM hS => crV C (as := [aI u2]) dX12_findKin_124.1 kX12 (shR_0 hX) ml_X12_86 cal_X12_tieAt cv_X12_tieAt (hRm ⟨Nat.le_of_ble_eq_true rfl, Nat.le_of_ble_eq_true rfl⟩) rfl (Nat.le_of_ble_eq_true rfl) (c_X12_tieAt (xl X) (xG X) hX hM ⟨hS.2.1, hS.1, trivial⟩ hq)) (Nat.le_of_ble_eq_true rfl) (Nat.le_of_ble_eq_true rfl) rfl rfl rfl (fun v23 M22 => ?_)
        refine i_iconst C dX12_findKin_127 kI_3 ?_
        refine i_iadd C dX12_findKin_128 ?_
        refine i_ald C dX12_findKin_129 (shR_1 hX) (fun v24 => ?_)
        refine i_cI (kc' := 0) (ks' := 0) 0 0 2 (fun q hq hM hS => crS C (as := [aI v21, aI v24]) dX12_findKin_130.1 ml_X12_164 cal_X12_least st_X12_least (hRm ⟨Nat.le_of_ble_eq_true rfl, Nat.le_of_ble_eq_true rfl⟩) rfl (Nat.le_of_ble_eq_true rfl) (c_X12_least (xl X) (xG X) hX hM ⟨hS.2.1, hS.1, trivial⟩ hq)) (Nat.le_of_ble_eq_true rfl) (Nat.le_of_ble_eq_true rfl) rfl rfl rfl (fun v26 M25 => ?_)
        refine i_ast C dX12_findKin_133 (shR_7 hX) (fun M27 => ?_)
        refine i_aload_n C dX12_findKin_134 rfl (q := 0) rfl ?_
        refine i_getR C (k := 7) kX12 dX12_findKin_135 (shR_0 hX) rfl (by decide) fl_X12_28 ?_
        refine i_bipush C dX12_findKin_138 kB_20 ?_
        refine i_iload C dX12_findKin_140 (q := 4) rfl ?_
        refine i_imul C dX12_findKin_142 ?_
        refine i_iload_n C dX12_findKin_143 rfl (q := 3) rfl ?_
        refine i_iadd C dX12_findKin_144 ?_
        refine i_aload_n C dX12_findKin_145 rfl (q := 0) rfl ?_
        refine i_getR C (k := 7) kX12 dX12_findKin_146 (shR_0 hX) rfl (by decide) fl_X12_28 ?_
        refine i_bipush C dX12_findKin_149 kB_20 ?_
        refine i_iload_n C dX12_findKin_151 rfl (q := 3) rfl ?_
        refine i_imul C dX12_findKin_152 ?_
        refine i_iload C dX12_findKin_153 (q := 4) rfl ?_
        refine i_iadd C dX12_findKin_155 ?_
        refine i_ald C dX12_findKin_156 (shR_7 hX) (fun v28 => ?_)
        refine i_ast C dX12_findKin_157 (shR_7 hX) (fun M29 => ?_)
        exact i_sub [0, 1, 2] rfl (hj12  M29)
set_option maxRecDepth 100000 in
set_option maxHeartbeats 4000000 in
theorem w_X12_findKin_181 {X : Xc} (C : Cx X RX12 cX12_findKin none) (hX : xK X = kR) (hN : xn X = 5) (hR : xR X = rmX12_findKin) {res : Mem} (hq : Rq X none res) (y1 : Int) (y2 : Int) (y3 : Int) {k244 : Mem → Option (Mem)} (hk244 : ∀ (M : Mem), Im X 0 0 244 [(0, aR 0), (1, aI y1), (2, aI y2), (3, aI y3)] [] M res (k244 M)) : ∀ (n : Nat) (u4 : Int) (M : Mem), Im X 0 0 181 [(0, aR 0), (1, aI y1), (2, aI y2), (3, aI y3), (4, aI u4)] [] M res (lpX12_findKin_181 y1 y2 y3 k244 n u4 M) := by
  have hl1 : 1 < xn X := by rw [hN]; decide
  have hl2 : 2 < xn X := by rw [hN]; decide
  have hl3 : 3 < xn X := by rw [hN]; decide
  have hl4 : 4 < xn X := by rw [hN]; decide
  have hRm : ∀ {rm : Room} {ny : Nat}, RmOk rmX12_findKin rm ny → RmOk (xR X) rm ny := fun h => by rw [hR]; exact h
  intro n
  induction n with
  | zero => intro _ _; exact i_none
  | succ n ih =>
    intro u4 M
    unfold lpX12_findKin_181
    refine i_iload C dX12_findKin_181 (q := 4) rfl ?_
    refine i_iload_n C dX12_findKin_183 rfl (q := 1) rfl ?_
    refine i_icmp_ge (tgt := 244) C dX12_findKin_184 (by decide) ?_ ?_
    · exact i_sub [0, 1, 2, 3] rfl (hk244  M)
    · refine i_aload_n C dX12_findKin_187 rfl (q := 0) rfl ?_
      refine i_getR C (k := 7) kX12 dX12_findKin_188 (shR_0 hX) rfl (by decide) fl_X12_28 ?_
      refine i_bipush C dX12_findKin_191 kB_20 ?_
      refine i_iload_n C dX12_findKin_193 rfl (q := 3) rfl ?_
      refine i_imul C dX12_findKin_194 ?_
      refine i_iload C dX12_findKin_195 (q := 4) rfl ?_
      refine i_iadd C dX12_findKin_197 ?_
      refine i_aload_n C dX12_findKin_198 rfl (q := 0) rfl ?_
      refine i_getR C (k := 7) kX12 dX12_findKin_199 (shR_0 hX) rfl (by decide) fl_X12_28 ?_
      refine i_bipush C dX12_findKin_202 kB_20 ?_
      refine i_iload_n C dX12_findKin_204 rfl (q := 3) rfl ?_
      refine i_imul C dX12_findKin_205 ?_
      refine i_iload C dX12_findKin_206 (q := 4) rfl ?_
      refine i_iadd C dX12_findKin_208 ?_
      refine i_ald C dX12_findKin_209 (shR_7 hX) (fun v31 => ?_)
      refine i_aload_n C dX12_findKin_210 rfl (q := 0) rfl ?_
      refine i_getR C (k := 7) kX12 dX12_findKin_211 (shR_0 hX) rfl (by decide) fl_X12_28 ?_
      refine i_bipush C dX12_findKin_214 kB_20 ?_
      refine i_iload_n C dX12_findKin_216 rfl (q := 3) rfl ?_
      refine i_imul C dX12_findKin_217 ?_
      refine i_iload_n C dX12_findKin_218 rfl (q := 2) rfl ?_
      refine i_iadd C dX12_findKin_219 ?_
      refine i_ald C dX12_findKin_220 (shR_7 hX) (fun v32 => ?_)
      refine i_aload_n C dX12_findKin_221 rfl (q := 0) rfl ?_
      refine i_getR C (k := 7) kX12 dX12_findKin_222 (shR_0 hX) rfl (by decide) fl_X12_28 ?_
      refine i_bipush C dX12_findKin_225 kB_20 ?_
      refine i_iload_n C dX12_findKin_227 rfl (q := 2) rfl ?_
      refine i_imul C dX12_findKin_228 ?_
      refine i_iload C dX12_findKin_229 (q := 4) rfl ?_
      refine i_iadd C dX12_findKin_231 ?_
      refine i_ald C dX12_findKin_232 (shR_7 hX) (fun v33 => ?_)
      refine i_iadd C dX12_findKin_233 ?_
      refine i_cI (kc' := 0) (ks' := 0) 0 0 2 (fun q hq hM hS => crS C (as := [aI v31, aI (w32 (v32 + v33))]) dX12_findKin_234.1 ml_X12_164 cal_X12_least st_X12_least (hRm ⟨Nat.le_of_ble_eq_true rfl, Nat.le_of_ble_eq_true rfl⟩) rfl (Nat.le_of_ble_eq_true rfl) (c_X12_least (xl X) (xG X) hX hM ⟨hS.2.1, hS.1, trivial⟩ hq)) (Nat.le_of_ble_eq_true rfl) (Nat.le_of_ble_eq_true rfl) rfl rfl rfl (fun v35 M34 => ?_)
      refine i_ast C dX12_findKin_237 (shR_7 hX) (fun M36 => ?_)
      refine i_iincN (L' := fun v37 => [(0, aR 0), (1, aI y1), (2, aI y2), (3, aI y3), (4, aI v37)]) C dX12_findKin_238 (q := 4) rfl hl4 (fun _ => rfl) (fun v37 => ?_)
      refine i_goto (tgt := 181) C dX12_findKin_241 (by decide) ?_
      exact (ih v37 M36)
set_option maxRecDepth 100000 in
set_option maxHeartbeats 4000000 in
theorem w_X12_findKin_173 {X : Xc} (C : Cx X RX12 cX12_findKin none) (hX : xK X = kR) (hN : xn X = 5) (hR : xR X = rmX12_findKin) {res : Mem} (hq : Rq X none res) (y1 : Int) (y2 : Int) {k250 : Mem → Option (Mem)} (hk250 : ∀ (M : Mem), Im X 0 0 250 [(0, aR 0), (1, aI y1), (2, aI y2)] [] M res (k250 M)) : ∀ (n : Nat) (u3 : Int) (M : Mem), Im X 0 0 173 [(0, aR 0), (1, aI y1), (2, aI y2), (3, aI u3)] [] M res (lpX12_findKin_173 y1 y2 k250 n u3 M) := by
  have hl1 : 1 < xn X := by rw [hN]; decide
  have hl2 : 2 < xn X := by rw [hN]; decide
  have hl3 : 3 < xn X := by rw [hN]; decide
  have hl4 : 4 < xn X := by rw [hN]; decide
  have hRm : ∀ {rm : Room} {ny : Nat}, RmOk rmX12_findKin rm ny → RmOk (xR X) rm ny := fun h => by rw [hR]; exact h
  intro n
  induction n with
  | zero => intro _ _; exact i_none
  | succ n ih =>
    intro u3 M
    unfold lpX12_findKin_173
    refine i_iload_n C dX12_findKin_173 rfl (q := 3) rfl ?_
    refine i_iload_n C dX12_findKin_174 rfl (q := 1) rfl ?_
    refine i_icmp_ge (tgt := 250) C dX12_findKin_175 (by decide) ?_ ?_
    · exact i_sub [0, 1, 2] rfl (hk250  M)
    · refine i_iconst C dX12_findKin_178 kI_0 ?_
      refine i_istore C dX12_findKin_179 hl4 (L' := [(0, aR 0), (1, aI y1), (2, aI y2), (3, aI u3), (4, aI 0)]) rfl ?_
      refine (w_X12_findKin_181 C hX hN hR hq y1 y2 u3 (fun M38 => ?_) FU 0 M)
      refine i_iincN (L' := fun v39 => [(0, aR 0), (1, aI y1), (2, aI y2), (3, aI v39)]) C dX12_findKin_244 (q := 3) rfl hl3 (fun _ => rfl) (fun v39 => ?_)
      refine i_goto (tgt := 173) C dX12_findKin_247 (by decide) ?_
      exact (ih v39 M38)
set_option maxRecDepth 100000 in
set_option maxHeartbeats 4000000 in
theorem w_X12_findKin_166 {X : Xc} (C : Cx X RX12 cX12_findKin none) (hX : xK X = kR) (hN : xn X = 5) (hR : xR X = rmX12_findKin) {res : Mem} (hq : Rq X none res) (y1 : Int) : ∀ (n : Nat) (u2 : Int) (M : Mem), Im X 0 0 166 [(0, aR 0), (1, aI y1), (2, aI u2)] [] M res (lpX12_findKin_166 y1 n u2 M) := by
  have hl1 : 1 < xn X := by rw [hN]; decide
  have hl2 : 2 < xn X := by rw [hN]; decide
  have hl3 : 3 < xn X := by rw [hN]; decide
  have hl4 : 4 < xn X := by rw [hN]; decide
  have hRm : ∀ {rm : Room} {ny : Nat}, RmOk rmX12_findKin rm ny → RmOk (xR X) rm ny := fun h => by rw [hR]; exact h
  intro n
  induction n with
  | zero => intro _ _; exact i_none
  | succ n ih =>
    intro u2 M
    unfold lpX12_findKin_166
    refine i_iload_n C dX12_findKin_166 rfl (q := 2) rfl ?_
    refine i_iload_n C dX12_findKin_167 rfl (q := 1) rfl ?_
    refine i_icmp_ge (tgt := 256) C dX12_findKin_168 (by decide) ?_ ?_
    · exact i_vret C hq dX12_findKin_256
    · refine i_iconst C dX12_findKin_171 kI_0 ?_
      refine i_istore_n C dX12_findKin_172 rfl hl3 (L' := [(0, aR 0), (1, aI y1), (2, aI u2), (3, aI 0)]) rfl ?_
      refine (w_X12_findKin_173 C hX hN hR hq y1 u2 (fun M40 => ?_) FU 0 M)
      refine i_iincN (L' := fun v41 => [(0, aR 0), (1, aI y1), (2, aI v41)]) C dX12_findKin_250 (q := 2) rfl hl2 (fun _ => rfl) (fun v41 => ?_)
      refine i_goto (tgt := 166) C dX12_findKin_253 (by decide) ?_
      exact (ih v41 M40)
set_option maxRecDepth 100000 in
set_option maxHeartbeats 4000000 in
theorem c_X12_findKin (l : Launch) (G : Gx) {K : Kx} (hK : K = kR) {M : Mem} {res : Mem} (hM : OkM M) (ha : okS [aR 0]) (hF : rM_findKin M = some res) : Ct l G K yX12_findKin (wsM yX12_findKin cX12_findKin 5 none) rmX12_findKin [aR 0] M none res := by
  refine ct_of RX12 (by decide +kernel) rfl (hK ▸ kR_ok) hM ha (Nat.le_of_ble_eq_true rfl) hF ?_
  intro X C hl hG hX0 hN hR hq
  have hX : xK X = kR := hX0.trans hK
  show Im X 0 0 0 [(0, aR 0)] [] M res (rM_findKin  M)
  unfold rM_findKin
  have hl1 : 1 < xn X := by rw [hN]; decide
  have hl2 : 2 < xn X := by rw [hN]; decide
  have hl3 : 3 < xn X := by rw [hN]; decide
  have hl4 : 4 < xn X := by rw [hN]; decide
  have hRm : ∀ {rm : Room} {ny : Nat}, RmOk rmX12_findKin rm ny → RmOk (xR X) rm ny := fun h => by rw [hR]; exact h
  refine i_aload_n C dX12_findKin_0 rfl (q := 0) rfl ?_
  refine i_getR C (k := 0) kX12 dX12_findKin_1 (shR_0 hX) rfl (by decide) fl_X12_7 ?_
  refine i_iconst C dX12_findKin_4 kI_2 ?_
  refine i_ald C dX12_findKin_5 (shR_1 hX) (fun v1 => ?_)
  refine i_istore_n C dX12_findKin_6 rfl hl1 (L' := [(0, aR 0), (1, aI v1)]) rfl ?_
  refine i_iconst C dX12_findKin_7 kI_0 ?_
  refine i_istore_n C dX12_findKin_8 rfl hl2 (L' := [(0, aR 0), (1, aI v1), (2, aI 0)]) rfl ?_
  refine (w_X12_findKin_9 C hX hN hR hq v1 (fun M7 => ?_) FU 0 M)
  refine i_iconst C dX12_findKin_42 kI_0 ?_
  refine i_istore_n C dX12_findKin_43 rfl hl2 (L' := [(0, aR 0), (1, aI v1), (2, aI 0)]) rfl ?_
  refine (w_X12_findKin_44 C hX hN hR hq v1 (fun M30 => ?_) FU 0 M7)
  refine i_iconst C dX12_findKin_164 kI_0 ?_
  refine i_istore_n C dX12_findKin_165 rfl hl2 (L' := [(0, aR 0), (1, aI v1), (2, aI 0)]) rfl ?_
  exact (w_X12_findKin_166 C hX hN hR hq v1 FU 0 M30)
set_option maxRecDepth 100000 in
set_option maxHeartbeats 4000000 in
theorem c_X12_kinOf (l : Launch) (G : Gx) {K : Kx} (hK : K = kR) {x1 : Int} {x2 : Int} {M : Mem} {res : Int × Mem} (hM : OkM M) (ha : okS [aR 0, aI x1, aI x2]) (hF : rM_kinOf x1 x2 M = some res) : Ct l G K yX12_kinOf (wsM yX12_kinOf cX12_kinOf 4 (some .int)) rmX12_kinOf [aR 0, aI x1, aI x2] M (some (aI res.1)) res.2 := by
  refine ct_of RX12 (by decide +kernel) rfl (hK ▸ kR_ok) hM ha (Nat.le_of_ble_eq_true rfl) hF ?_
  intro X C hl hG hX0 hN hR hq
  have hX : xK X = kR := hX0.trans hK
  show Im X 0 0 0 [(0, aR 0), (1, aI x1), (2, aI x2)] [] M res (rM_kinOf x1 x2 M)
  unfold rM_kinOf
  have hl3 : 3 < xn X := by rw [hN]; decide
  refine i_aload_n C dX12_kinOf_0 rfl (q := 0) rfl ?_
  refine i_getR C (k := 7) kX12 dX12_kinOf_1 (shR_0 hX) rfl (by decide) fl_X12_28 ?_
  refine i_bipush C dX12_kinOf_4 kB_20 ?_
  refine i_iload_n C dX12_kinOf_6 rfl (q := 1) rfl ?_
  refine i_imul C dX12_kinOf_7 ?_
  refine i_iload_n C dX12_kinOf_8 rfl (q := 2) rfl ?_
  refine i_iadd C dX12_kinOf_9 ?_
  refine i_ald C dX12_kinOf_10 (shR_7 hX) (fun v1 => ?_)
  refine i_istore_n C dX12_kinOf_11 rfl hl3 (L' := [(0, aR 0), (1, aI x1), (2, aI x2), (3, aI v1)]) rfl ?_
  refine i_iload_n C dX12_kinOf_12 rfl (q := 3) rfl ?_
  refine i_bipush C dX12_kinOf_13 kB_9 ?_
  refine i_icmp_le (tgt := 22) C dX12_kinOf_15 (by decide) ?_ ?_
  · refine i_iload_n C dX12_kinOf_22 rfl (q := 3) rfl ?_
    exact i_iret C hq dX12_kinOf_23
  · refine i_iconst C dX12_kinOf_18 kI_0 ?_
    refine i_goto (tgt := 23) C dX12_kinOf_19 (by decide) ?_
    exact i_iret C hq dX12_kinOf_23
set_option maxRecDepth 100000 in
set_option maxHeartbeats 4000000 in
theorem c_X12_kinship (l : Launch) (G : Gx) {K : Kx} (hK : K = kR) {x1 : Int} {x2 : Int} {M : Mem} {res : Int × Mem} (hM : OkM M) (ha : okS [aR 0, aI x1, aI x2]) (hF : rM_kinship x1 x2 M = some res) : Ct l G K yX12_kinship (wsM yX12_kinship cX12_kinship 3 (some .int)) rmX12_kinship [aR 0, aI x1, aI x2] M (some (aI res.1)) res.2 := by
  refine ct_of RX12 (by decide +kernel) rfl (hK ▸ kR_ok) hM ha (Nat.le_of_ble_eq_true rfl) hF ?_
  intro X C hl hG hX0 hN hR hq
  have hX : xK X = kR := hX0.trans hK
  show Im X 0 0 0 [(0, aR 0), (1, aI x1), (2, aI x2)] [] M res (rM_kinship x1 x2 M)
  unfold rM_kinship
  have hRm : ∀ {rm : Room} {ny : Nat}, RmOk rmX12_kinship rm ny → RmOk (xR X) rm ny := fun h => by rw [hR]; exact h
  refine i_aload_n C dX12_kinship_0 rfl (q := 0) rfl ?_
  refine i_iload_n C dX12_kinship_1 rfl (q := 1) rfl ?_
  refine i_cI (kc' := 0) (ks' := 0) 0 0 2 (fun q hq hM hS => crV C (as := [aI x1]) dX12_kinship_2.1 kX12 (shR_0 hX) ml_X12_119 cal_X12_isPerson cv_X12_isPerson (hRm ⟨Nat.le_of_ble_eq_true rfl, Nat.le_of_ble_eq_true rfl⟩) rfl (Nat.le_of_ble_eq_true rfl) (c_X12_isPerson (xl X) (xG X) hX hM ⟨hS.2.1, hS.1, trivial⟩ hq)) (Nat.le_of_ble_eq_true rfl) (Nat.le_of_ble_eq_true rfl) rfl rfl rfl (fun v2 M1 => ?_)
  refine i_if_eq (tgt := 21) C dX12_kinship_5 (by decide) ?_ ?_
  · refine i_ldc C dX12_kinship_21 kc_X12_102 kI_m1000000001 ?_
    exact i_iret C hq dX12_kinship_23
  · refine i_aload_n C dX12_kinship_8 rfl (q := 0) rfl ?_
    refine i_iload_n C dX12_kinship_9 rfl (q := 2) rfl ?_
    refine i_cI (kc' := 0) (ks' := 0) 0 0 2 (fun q hq hM hS => crV C (as := [aI x2]) dX12_kinship_10.1 kX12 (shR_0 hX) ml_X12_119 cal_X12_isPerson cv_X12_isPerson (hRm ⟨Nat.le_of_ble_eq_true rfl, Nat.le_of_ble_eq_true rfl⟩) rfl (Nat.le_of_ble_eq_true rfl) (c_X12_isPerson (xl X) (xG X) hX hM ⟨hS.2.1, hS.1, trivial⟩ hq)) (Nat.le_of_ble_eq_true rfl) (Nat.le_of_ble_eq_true rfl) rfl rfl rfl (fun v4 M3 => ?_)
    refine i_if_eq (tgt := 21) C dX12_kinship_13 (by decide) ?_ ?_
    · refine i_ldc C dX12_kinship_21 kc_X12_102 kI_m1000000001 ?_
      exact i_iret C hq dX12_kinship_23
    · refine i_iload_n C dX12_kinship_16 rfl (q := 1) rfl ?_
      refine i_iload_n C dX12_kinship_17 rfl (q := 2) rfl ?_
      refine i_icmp_ne (tgt := 24) C dX12_kinship_18 (by decide) ?_ ?_
      · refine i_aload_n C dX12_kinship_24 rfl (q := 0) rfl ?_
        refine i_cV (kc' := 0) (ks' := 0) 0 0 1 (fun q hq hM hS => crV C (as := []) dX12_kinship_25.1 kX12 (shR_0 hX) ml_X12_167 cal_X12_findKin cv_X12_findKin (hRm ⟨Nat.le_of_ble_eq_true rfl, Nat.le_of_ble_eq_true rfl⟩) rfl (Nat.le_of_ble_eq_true rfl) (c_X12_findKin (xl X) (xG X) hX hM ⟨hS.1, trivial⟩ hq)) (Nat.le_of_ble_eq_true rfl) (Nat.le_of_ble_eq_true rfl) rfl rfl rfl (fun M5 => ?_)
        refine i_aload_n C dX12_kinship_28 rfl (q := 0) rfl ?_
        refine i_iload_n C dX12_kinship_29 rfl (q := 1) rfl ?_
        refine i_iload_n C dX12_kinship_30 rfl (q := 2) rfl ?_
        refine i_cI (kc' := 0) (ks' := 0) 0 0 3 (fun q hq hM hS => crV C (as := [aI x1, aI x2]) dX12_kinship_31.1 kX12 (shR_0 hX) ml_X12_170 cal_X12_kinOf cv_X12_kinOf (hRm ⟨Nat.le_of_ble_eq_true rfl, Nat.le_of_ble_eq_true rfl⟩) rfl (Nat.le_of_ble_eq_true rfl) (c_X12_kinOf (xl X) (xG X) hX hM ⟨hS.2.2.1, hS.2.1, hS.1, trivial⟩ hq)) (Nat.le_of_ble_eq_true rfl) (Nat.le_of_ble_eq_true rfl) rfl rfl rfl (fun v7 M6 => ?_)
        exact i_iret C hq dX12_kinship_34
      · refine i_ldc C dX12_kinship_21 kc_X12_102 kI_m1000000001 ?_
        exact i_iret C hq dX12_kinship_23
set_option maxRecDepth 100000 in
set_option maxHeartbeats 4000000 in
theorem c_X12_goesHome (l : Launch) (G : Gx) {K : Kx} (hK : K = kR) {x1 : Int} {M : Mem} {res : Mem} (hM : OkM M) (ha : okS [aR 0, aI x1]) (hF : rM_goesHome x1 M = some res) : Ct l G K yX12_goesHome (wsM yX12_goesHome cX12_goesHome 2 none) rmX12_goesHome [aR 0, aI x1] M none res := by
  refine ct_of RX12 (by decide +kernel) rfl (hK ▸ kR_ok) hM ha (Nat.le_of_ble_eq_true rfl) hF ?_
  intro X C hl hG hX0 hN hR hq
  have hX : xK X = kR := hX0.trans hK
  show Im X 0 0 0 [(0, aR 0), (1, aI x1)] [] M res (rM_goesHome x1 M)
  unfold rM_goesHome
  have hRm : ∀ {rm : Room} {ny : Nat}, RmOk rmX12_goesHome rm ny → RmOk (xR X) rm ny := fun h => by rw [hR]; exact h
  refine i_aload_n C dX12_goesHome_0 rfl (q := 0) rfl ?_
  refine i_getR C (k := 0) kX12 dX12_goesHome_1 (shR_0 hX) rfl (by decide) fl_X12_7 ?_
  refine i_aload_n C dX12_goesHome_4 rfl (q := 0) rfl ?_
  refine i_iload_n C dX12_goesHome_5 rfl (q := 1) rfl ?_
  refine i_cI (kc' := 0) (ks' := 0) 0 0 2 (fun q hq hM hS => crV C (as := [aI x1]) dX12_goesHome_6.1 kX12 (shR_0 hX) ml_X12_93 cal_X12_personAt cv_X12_personAt (hRm ⟨Nat.le_of_ble_eq_true rfl, Nat.le_of_ble_eq_true rfl⟩) rfl (Nat.le_of_ble_eq_true rfl) (c_X12_personAt (xl X) (xG X) hX hM ⟨hS.2.1, hS.1, trivial⟩ hq)) (Nat.le_of_ble_eq_true rfl) (Nat.le_of_ble_eq_true rfl) rfl rfl rfl (fun v2 M1 => ?_)
  refine i_iconst C dX12_goesHome_9 kI_3 ?_
  refine i_iadd C dX12_goesHome_10 ?_
  refine i_aload_n C dX12_goesHome_11 rfl (q := 0) rfl ?_
  refine i_getR C (k := 0) kX12 dX12_goesHome_12 (shR_0 hX) rfl (by decide) fl_X12_7 ?_
  refine i_aload_n C dX12_goesHome_15 rfl (q := 0) rfl ?_
  refine i_iload_n C dX12_goesHome_16 rfl (q := 1) rfl ?_
  refine i_cI (kc' := 0) (ks' := 0) 0 0 2 (fun q hq hM hS => crV C (as := [aI x1]) dX12_goesHome_17.1 kX12 (shR_0 hX) ml_X12_93 cal_X12_personAt cv_X12_personAt (hRm ⟨Nat.le_of_ble_eq_true rfl, Nat.le_of_ble_eq_true rfl⟩) rfl (Nat.le_of_ble_eq_true rfl) (c_X12_personAt (xl X) (xG X) hX hM ⟨hS.2.1, hS.1, trivial⟩ hq)) (Nat.le_of_ble_eq_true rfl) (Nat.le_of_ble_eq_true rfl) rfl rfl rfl (fun v4 M3 => ?_)
  refine i_iconst C dX12_goesHome_20 kI_0 ?_
  refine i_iadd C dX12_goesHome_21 ?_
  refine i_ald C dX12_goesHome_22 (shR_1 hX) (fun v5 => ?_)
  refine i_ast C dX12_goesHome_23 (shR_1 hX) (fun M6 => ?_)
  refine i_aload_n C dX12_goesHome_24 rfl (q := 0) rfl ?_
  refine i_getR C (k := 0) kX12 dX12_goesHome_25 (shR_0 hX) rfl (by decide) fl_X12_7 ?_
  refine i_aload_n C dX12_goesHome_28 rfl (q := 0) rfl ?_
  refine i_iload_n C dX12_goesHome_29 rfl (q := 1) rfl ?_
  refine i_cI (kc' := 0) (ks' := 0) 0 0 2 (fun q hq hM hS => crV C (as := [aI x1]) dX12_goesHome_30.1 kX12 (shR_0 hX) ml_X12_93 cal_X12_personAt cv_X12_personAt (hRm ⟨Nat.le_of_ble_eq_true rfl, Nat.le_of_ble_eq_true rfl⟩) rfl (Nat.le_of_ble_eq_true rfl) (c_X12_personAt (xl X) (xG X) hX hM ⟨hS.2.1, hS.1, trivial⟩ hq)) (Nat.le_of_ble_eq_true rfl) (Nat.le_of_ble_eq_true rfl) rfl rfl rfl (fun v8 M7 => ?_)
  refine i_iconst C dX12_goesHome_33 kI_4 ?_
  refine i_iadd C dX12_goesHome_34 ?_
  refine i_iconst C dX12_goesHome_35 kI_m1 ?_
  refine i_ast C dX12_goesHome_36 (shR_1 hX) (fun M9 => ?_)
  refine i_aload_n C dX12_goesHome_37 rfl (q := 0) rfl ?_
  refine i_getR C (k := 0) kX12 dX12_goesHome_38 (shR_0 hX) rfl (by decide) fl_X12_7 ?_
  refine i_aload_n C dX12_goesHome_41 rfl (q := 0) rfl ?_
  refine i_iload_n C dX12_goesHome_42 rfl (q := 1) rfl ?_
  refine i_cI (kc' := 0) (ks' := 0) 0 0 2 (fun q hq hM hS => crV C (as := [aI x1]) dX12_goesHome_43.1 kX12 (shR_0 hX) ml_X12_93 cal_X12_personAt cv_X12_personAt (hRm ⟨Nat.le_of_ble_eq_true rfl, Nat.le_of_ble_eq_true rfl⟩) rfl (Nat.le_of_ble_eq_true rfl) (c_X12_personAt (xl X) (xG X) hX hM ⟨hS.2.1, hS.1, trivial⟩ hq)) (Nat.le_of_ble_eq_true rfl) (Nat.le_of_ble_eq_true rfl) rfl rfl rfl (fun v11 M10 => ?_)
  refine i_iconst C dX12_goesHome_46 kI_5 ?_
  refine i_iadd C dX12_goesHome_47 ?_
  refine i_iconst C dX12_goesHome_48 kI_m1 ?_
  refine i_ast C dX12_goesHome_49 (shR_1 hX) (fun M12 => ?_)
  exact i_vret C hq dX12_goesHome_50
set_option maxRecDepth 100000 in
set_option maxHeartbeats 4000000 in
theorem w_X12_sendHome_2 {X : Xc} (C : Cx X RX12 cX12_sendHome none) (hX : xK X = kR) (hN : xn X = 3) (hR : xR X = rmX12_sendHome) {res : Mem} (hq : Rq X none res) (y1 : Int) : ∀ (n : Nat) (u2 : Int) (M : Mem), Im X 0 0 2 [(0, aR 0), (1, aI y1), (2, aI u2)] [] M res (lpX12_sendHome_2 y1 n u2 M) := by
  have hl2 : 2 < xn X := by rw [hN]; decide
  have hRm : ∀ {rm : Room} {ny : Nat}, RmOk rmX12_sendHome rm ny → RmOk (xR X) rm ny := fun h => by rw [hR]; exact h
  intro n
  induction n with
  | zero => intro _ _; exact i_none
  | succ n ih =>
    intro u2 M
    unfold lpX12_sendHome_2
    refine i_iload_n C dX12_sendHome_2 rfl (q := 2) rfl ?_
    refine i_aload_n C dX12_sendHome_3 rfl (q := 0) rfl ?_
    refine i_getR C (k := 0) kX12 dX12_sendHome_4 (shR_0 hX) rfl (by decide) fl_X12_7 ?_
    refine i_iconst C dX12_sendHome_7 kI_2 ?_
    refine i_ald C dX12_sendHome_8 (shR_1 hX) (fun v1 => ?_)
    refine i_icmp_ge (tgt := 47) C dX12_sendHome_9 (by decide) ?_ ?_
    · exact i_vret C hq dX12_sendHome_47
    · refine i_aload_n C dX12_sendHome_12 rfl (q := 0) rfl ?_
      refine i_iload_n C dX12_sendHome_13 rfl (q := 2) rfl ?_
      refine i_cI (kc' := 0) (ks' := 0) 0 0 2 (fun q hq hM hS => crV C (as := [aI u2]) dX12_sendHome_14.1 kX12 (shR_0 hX) ml_X12_133 cal_X12_waits cv_X12_waits (hRm ⟨Nat.le_of_ble_eq_true rfl, Nat.le_of_ble_eq_true rfl⟩) rfl (Nat.le_of_ble_eq_true rfl) (c_X12_waits (xl X) (xG X) hX hM ⟨hS.2.1, hS.1, trivial⟩ hq)) (Nat.le_of_ble_eq_true rfl) (Nat.le_of_ble_eq_true rfl) rfl rfl rfl (fun v3 M2 => ?_)
      refine i_jn (fun j => ∀  (M5 : Mem), Im X 0 0 41 [(0, aR 0), (1, aI y1), (2, aI u2)] [] M5 res (j  M5)) ?_ (fun j4 hj4 => ?_)
      · intro  M5
        refine i_iincN (L' := fun v6 => [(0, aR 0), (1, aI y1), (2, aI v6)]) C dX12_sendHome_41 (q := 2) rfl hl2 (fun _ => rfl) (fun v6 => ?_)
        refine i_goto (tgt := 2) C dX12_sendHome_44 (by decide) ?_
        exact (ih v6 M5)
      refine i_if_eq (tgt := 41) C dX12_sendHome_17 (by decide) ?_ ?_
      · exact (hj4  M2)
      · refine i_aload_n C dX12_sendHome_20 rfl (q := 0) rfl ?_
        refine i_getR C (k := 0) kX12 dX12_sendHome_21 (shR_0 hX) rfl (by decide) fl_X12_7 ?_
        refine i_aload_n C dX12_sendHome_24 rfl (q := 0) rfl ?_
        refine i_iload_n C dX12_sendHome_25 rfl (q := 2) rfl ?_
        refine i_cI (kc' := 0) (ks' := 0) 0 0 2 (fun q hq hM hS => crV C (as := [aI u2]) dX12_sendHome_26.1 kX12 (shR_0 hX) ml_X12_93 cal_X12_personAt cv_X12_personAt (hRm ⟨Nat.le_of_ble_eq_true rfl, Nat.le_of_ble_eq_true rfl⟩) rfl (Nat.le_of_ble_eq_true rfl) (c_X12_personAt (xl X) (xG X) hX hM ⟨hS.2.1, hS.1, trivial⟩ hq)) (Nat.le_of_ble_eq_true rfl) (Nat.le_of_ble_eq_true rfl) rfl rfl rfl (fun v8 M7 => ?_)
        refine i_iconst C dX12_sendHome_29 kI_5 ?_
        refine i_iadd C dX12_sendHome_30 ?_
        refine i_ald C dX12_sendHome_31 (shR_1 hX) (fun v9 => ?_)
        refine i_iload_n C dX12_sendHome_32 rfl (q := 1) rfl ?_
        refine i_icmp_ne (tgt := 41) C dX12_sendHome_33 (by decide) ?_ ?_
        · exact (hj4  M7)
        · refine i_aload_n C dX12_sendHome_36 rfl (q := 0) rfl ?_
          refine i_iload_n C dX12_sendHome_37 rfl (q := 2) rfl ?_
          refine i_cV (kc' := 0) (ks' := 0) 0 0 2 (fun q hq hM hS => crV C (as := [aI u2]) dX12_sendHome_38.1 kX12 (shR_0 hX) ml_X12_173 cal_X12_goesHome cv_X12_goesHome (hRm ⟨Nat.le_of_ble_eq_true rfl, Nat.le_of_ble_eq_true rfl⟩) rfl (Nat.le_of_ble_eq_true rfl) (c_X12_goesHome (xl X) (xG X) hX hM ⟨hS.2.1, hS.1, trivial⟩ hq)) (Nat.le_of_ble_eq_true rfl) (Nat.le_of_ble_eq_true rfl) rfl rfl rfl (fun M10 => ?_)
          exact (hj4  M10)
set_option maxRecDepth 100000 in
set_option maxHeartbeats 4000000 in
theorem c_X12_sendHome (l : Launch) (G : Gx) {K : Kx} (hK : K = kR) {x1 : Int} {M : Mem} {res : Mem} (hM : OkM M) (ha : okS [aR 0, aI x1]) (hF : rM_sendHome x1 M = some res) : Ct l G K yX12_sendHome (wsM yX12_sendHome cX12_sendHome 3 none) rmX12_sendHome [aR 0, aI x1] M none res := by
  refine ct_of RX12 (by decide +kernel) rfl (hK ▸ kR_ok) hM ha (Nat.le_of_ble_eq_true rfl) hF ?_
  intro X C hl hG hX0 hN hR hq
  have hX : xK X = kR := hX0.trans hK
  show Im X 0 0 0 [(0, aR 0), (1, aI x1)] [] M res (rM_sendHome x1 M)
  unfold rM_sendHome
  have hl2 : 2 < xn X := by rw [hN]; decide
  have hRm : ∀ {rm : Room} {ny : Nat}, RmOk rmX12_sendHome rm ny → RmOk (xR X) rm ny := fun h => by rw [hR]; exact h
  refine i_iconst C dX12_sendHome_0 kI_0 ?_
  refine i_istore_n C dX12_sendHome_1 rfl hl2 (L' := [(0, aR 0), (1, aI x1), (2, aI 0)]) rfl ?_
  exact (w_X12_sendHome_2 C hX hN hR hq x1 FU 0 M)
set_option maxRecDepth 100000 in
set_option maxHeartbeats 4000000 in
theorem c_X12_take (l : Launch) (G : Gx) {K : Kx} (hK : K = kR) {x1 : Int} {M : Mem} {res : Int × Mem} (hM : OkM M) (ha : okS [aR 0, aI x1]) (hF : rM_take x1 M = some res) : Ct l G K yX12_take (wsM yX12_take cX12_take 2 (some .int)) rmX12_take [aR 0, aI x1] M (some (aI res.1)) res.2 := by
  refine ct_of RX12 (by decide +kernel) rfl (hK ▸ kR_ok) hM ha (Nat.le_of_ble_eq_true rfl) hF ?_
  intro X C hl hG hX0 hN hR hq
  have hX : xK X = kR := hX0.trans hK
  show Im X 0 0 0 [(0, aR 0), (1, aI x1)] [] M res (rM_take x1 M)
  unfold rM_take
  have hRm : ∀ {rm : Room} {ny : Nat}, RmOk rmX12_take rm ny → RmOk (xR X) rm ny := fun h => by rw [hR]; exact h
  refine i_aload_n C dX12_take_0 rfl (q := 0) rfl ?_
  refine i_iload_n C dX12_take_1 rfl (q := 1) rfl ?_
  refine i_bipush C dX12_take_2 kB_6 ?_
  refine i_cI (kc' := 0) (ks' := 0) 0 0 3 (fun q hq hM hS => crV C (as := [aI x1, aI 6]) dX12_take_4.1 kX12 (shR_0 hX) ml_X12_152 cal_X12_isOf cv_X12_isOf (hRm ⟨Nat.le_of_ble_eq_true rfl, Nat.le_of_ble_eq_true rfl⟩) rfl (Nat.le_of_ble_eq_true rfl) (c_X12_isOf (xl X) (xG X) hX hM ⟨hS.2.2.1, hS.2.1, hS.1, trivial⟩ hq)) (Nat.le_of_ble_eq_true rfl) (Nat.le_of_ble_eq_true rfl) rfl rfl rfl (fun v2 M1 => ?_)
  refine i_if_ne (tgt := 13) C dX12_take_7 (by decide) ?_ ?_
  · refine i_aload_n C dX12_take_13 rfl (q := 0) rfl ?_
    refine i_getR C (k := 0) kX12 dX12_take_14 (shR_0 hX) rfl (by decide) fl_X12_7 ?_
    refine i_aload_n C dX12_take_17 rfl (q := 0) rfl ?_
    refine i_iload_n C dX12_take_18 rfl (q := 1) rfl ?_
    refine i_cI (kc' := 0) (ks' := 0) 0 0 2 (fun q hq hM hS => crV C (as := [aI x1]) dX12_take_19.1 kX12 (shR_0 hX) ml_X12_86 cal_X12_tieAt cv_X12_tieAt (hRm ⟨Nat.le_of_ble_eq_true rfl, Nat.le_of_ble_eq_true rfl⟩) rfl (Nat.le_of_ble_eq_true rfl) (c_X12_tieAt (xl X) (xG X) hX hM ⟨hS.2.1, hS.1, trivial⟩ hq)) (Nat.le_of_ble_eq_true rfl) (Nat.le_of_ble_eq_true rfl) rfl rfl rfl (fun v4 M3 => ?_)
    refine i_bipush C dX12_take_22 kB_6 ?_
    refine i_iadd C dX12_take_24 ?_
    refine i_ald C dX12_take_25 (shR_1 hX) (fun v5 => ?_)
    refine i_if_eq (tgt := 32) C dX12_take_26 (by decide) ?_ ?_
    · refine i_aload_n C dX12_take_32 rfl (q := 0) rfl ?_
      refine i_getR C (k := 0) kX12 dX12_take_33 (shR_0 hX) rfl (by decide) fl_X12_7 ?_
      refine i_aload_n C dX12_take_36 rfl (q := 0) rfl ?_
      refine i_iload_n C dX12_take_37 rfl (q := 1) rfl ?_
      refine i_cI (kc' := 0) (ks' := 0) 0 0 2 (fun q hq hM hS => crV C (as := [aI x1]) dX12_take_38.1 kX12 (shR_0 hX) ml_X12_86 cal_X12_tieAt cv_X12_tieAt (hRm ⟨Nat.le_of_ble_eq_true rfl, Nat.le_of_ble_eq_true rfl⟩) rfl (Nat.le_of_ble_eq_true rfl) (c_X12_tieAt (xl X) (xG X) hX hM ⟨hS.2.1, hS.1, trivial⟩ hq)) (Nat.le_of_ble_eq_true rfl) (Nat.le_of_ble_eq_true rfl) rfl rfl rfl (fun v7 M6 => ?_)
      refine i_bipush C dX12_take_41 kB_6 ?_
      refine i_iadd C dX12_take_43 ?_
      refine i_iconst C dX12_take_44 kI_3 ?_
      refine i_ast C dX12_take_45 (shR_1 hX) (fun M8 => ?_)
      refine i_aload_n C dX12_take_46 rfl (q := 0) rfl ?_
      refine i_iload_n C dX12_take_47 rfl (q := 1) rfl ?_
      refine i_cV (kc' := 0) (ks' := 0) 0 0 2 (fun q hq hM hS => crV C (as := [aI x1]) dX12_take_48.1 kX12 (shR_0 hX) ml_X12_177 cal_X12_sendHome cv_X12_sendHome (hRm ⟨Nat.le_of_ble_eq_true rfl, Nat.le_of_ble_eq_true rfl⟩) rfl (Nat.le_of_ble_eq_true rfl) (c_X12_sendHome (xl X) (xG X) hX hM ⟨hS.2.1, hS.1, trivial⟩ hq)) (Nat.le_of_ble_eq_true rfl) (Nat.le_of_ble_eq_true rfl) rfl rfl rfl (fun M9 => ?_)
      refine i_iconst C dX12_take_51 kI_1 ?_
      exact i_iret C hq dX12_take_52
    · refine i_ldc C dX12_take_29 kc_X12_132 kI_m1000000002 ?_
      exact i_iret C hq dX12_take_31
  · refine i_ldc C dX12_take_10 kc_X12_102 kI_m1000000001 ?_
    exact i_iret C hq dX12_take_12
set_option maxRecDepth 100000 in
set_option maxHeartbeats 4000000 in
theorem w_X12_countsFor_5 {X : Xc} (C : Cx X RX12 cX12_countsFor (some .int)) (hX : xK X = kR) (hN : xn X = 7) (hR : xR X = rmX12_countsFor) {res : Int × Mem} (hq : Rq X (some (aI res.1)) res.2) (y1 : Int) (y2 : Int) {k147 : Int → Mem → Option (Int × Mem)} (hk147 : ∀ (q3 : Int) (M : Mem), Im X 0 0 147 [(0, aR 0), (1, aI y1), (2, aI y2), (3, aI q3)] [] M res (k147 q3 M)) : ∀ (n : Nat) (u3 : Int) (u4 : Int) (M : Mem), Im X 0 0 5 [(0, aR 0), (1, aI y1), (2, aI y2), (3, aI u3), (4, aI u4)] [] M res (lpX12_countsFor_5 y1 y2 k147 n u3 u4 M) := by
  have hl3 : 3 < xn X := by rw [hN]; decide
  have hl4 : 4 < xn X := by rw [hN]; decide
  have hl5 : 5 < xn X := by rw [hN]; decide
  have hl6 : 6 < xn X := by rw [hN]; decide
  have hRm : ∀ {rm : Room} {ny : Nat}, RmOk rmX12_countsFor rm ny → RmOk (xR X) rm ny := fun h => by rw [hR]; exact h
  intro n
  induction n with
  | zero => intro _ _ _; exact i_none
  | succ n ih =>
    intro u3 u4 M
    unfold lpX12_countsFor_5
    refine i_iload C dX12_countsFor_5 (q := 4) rfl ?_
    refine i_aload_n C dX12_countsFor_7 rfl (q := 0) rfl ?_
    refine i_getR C (k := 0) kX12 dX12_countsFor_8 (shR_0 hX) rfl (by decide) fl_X12_7 ?_
    refine i_iconst C dX12_countsFor_11 kI_4 ?_
    refine i_ald C dX12_countsFor_12 (shR_1 hX) (fun v1 => ?_)
    refine i_icmp_ge (tgt := 147) C dX12_countsFor_13 (by decide) ?_ ?_
    · exact i_sub [0, 1, 2, 3] rfl (hk147 u3 M)
    · refine i_aload_n C dX12_countsFor_16 rfl (q := 0) rfl ?_
      refine i_iload C dX12_countsFor_17 (q := 4) rfl ?_
      refine i_cI (kc' := 0) (ks' := 0) 0 0 2 (fun q hq hM hS => crV C (as := [aI u4]) dX12_countsFor_19.1 kX12 (shR_0 hX) ml_X12_305 cal_X12_textAt cv_X12_textAt (hRm ⟨Nat.le_of_ble_eq_true rfl, Nat.le_of_ble_eq_true rfl⟩) rfl (Nat.le_of_ble_eq_true rfl) (c_X12_textAt (xl X) (xG X) hX hM ⟨hS.2.1, hS.1, trivial⟩ hq)) (Nat.le_of_ble_eq_true rfl) (Nat.le_of_ble_eq_true rfl) rfl rfl rfl (fun v3 M2 => ?_)
      refine i_istore C dX12_countsFor_22 hl5 (L' := [(0, aR 0), (1, aI y1), (2, aI y2), (3, aI u3), (4, aI u4), (5, aI v3)]) rfl ?_
      refine i_aload_n C dX12_countsFor_24 rfl (q := 0) rfl ?_
      refine i_getR C (k := 0) kX12 dX12_countsFor_25 (shR_0 hX) rfl (by decide) fl_X12_7 ?_
      refine i_iload C dX12_countsFor_28 (q := 5) rfl ?_
      refine i_iconst C dX12_countsFor_30 kI_0 ?_
      refine i_iadd C dX12_countsFor_31 ?_
      refine i_ald C dX12_countsFor_32 (shR_1 hX) (fun v4 => ?_)
      refine i_iload_n C dX12_countsFor_33 rfl (q := 2) rfl ?_
      refine i_jn (fun j => ∀ (p5 : Int) (M7 : Mem), Im X 0 0 99 [(0, aR 0), (1, aI y1), (2, aI y2), (3, aI u3), (4, aI u4), (5, aI v3)] [aI p5] M7 res (j p5 M7)) ?_ (fun j6 hj6 => ?_)
      · intro p5 M7
        refine i_istore C dX12_countsFor_99 hl6 (L' := [(0, aR 0), (1, aI y1), (2, aI y2), (3, aI u3), (4, aI u4), (5, aI v3), (6, aI p5)]) rfl ?_
        refine i_iload C dX12_countsFor_101 (q := 6) rfl ?_
        refine i_jn (fun j => ∀ (p8 : Int) (M10 : Mem), Im X 0 0 140 [(0, aR 0), (1, aI y1), (2, aI y2), (4, aI u4)] [aI p8] M10 res (j p8 M10)) ?_ (fun j9 hj9 => ?_)
        · intro p8 M10
          refine i_istore_n C dX12_countsFor_140 rfl hl3 (L' := [(0, aR 0), (1, aI y1), (2, aI y2), (3, aI p8), (4, aI u4)]) rfl ?_
          refine i_iincN (L' := fun v11 => [(0, aR 0), (1, aI y1), (2, aI y2), (3, aI p8), (4, aI v11)]) C dX12_countsFor_141 (q := 4) rfl hl4 (fun _ => rfl) (fun v11 => ?_)
          refine i_goto (tgt := 5) C dX12_countsFor_144 (by decide) ?_
          exact (ih p8 v11 M10)
        refine i_jn (fun j => ∀  (M13 : Mem), Im X 0 0 139 [(0, aR 0), (1, aI y1), (2, aI y2), (3, aI u3), (4, aI u4)] [] M13 res (j  M13)) ?_ (fun j12 hj12 => ?_)
        · intro  M13
          refine i_iload_n C dX12_countsFor_139 rfl (q := 3) rfl ?_
          exact i_sub [0, 1, 2, 4] rfl (hj9 u3 M13)
        refine i_if_eq (tgt := 139) C dX12_countsFor_103 (by decide) ?_ ?_
        · exact i_sub [0, 1, 2, 3, 4] rfl (hj12  M7)
        · refine i_iload_n C dX12_countsFor_106 rfl (q := 3) rfl ?_
          refine i_jn (fun j => ∀  (M15 : Mem), Im X 0 0 134 [(0, aR 0), (1, aI y1), (2, aI y2), (4, aI u4)] [] M15 res (j  M15)) ?_ (fun j14 hj14 => ?_)
          · intro  M15
            refine i_iload C dX12_countsFor_134 (q := 3) rfl ?_
            refine i_goto (tgt := 140) C dX12_countsFor_136 (by decide) ?_
            exact (hj9 u4 M15)
          refine i_if_lt (tgt := 134) C dX12_countsFor_107 (by decide) ?_ ?_
          · exact i_sub [0, 1, 2, 4] rfl (hj14  M7)
          · refine i_aload_n C dX12_countsFor_110 rfl (q := 0) rfl ?_
            refine i_getR C (k := 0) kX12 dX12_countsFor_111 (shR_0 hX) rfl (by decide) fl_X12_7 ?_
            refine i_iload C dX12_countsFor_114 (q := 5) rfl ?_
            refine i_iconst C dX12_countsFor_116 kI_2 ?_
            refine i_iadd C dX12_countsFor_117 ?_
            refine i_ald C dX12_countsFor_118 (shR_1 hX) (fun v16 => ?_)
            refine i_aload_n C dX12_countsFor_119 rfl (q := 0) rfl ?_
            refine i_getR C (k := 0) kX12 dX12_countsFor_120 (shR_0 hX) rfl (by decide) fl_X12_7 ?_
            refine i_aload_n C dX12_countsFor_123 rfl (q := 0) rfl ?_
            refine i_iload_n C dX12_countsFor_124 rfl (q := 3) rfl ?_
            refine i_cI (kc' := 0) (ks' := 0) 0 0 2 (fun q hq hM hS => crV C (as := [aI u3]) dX12_countsFor_125.1 kX12 (shR_0 hX) ml_X12_305 cal_X12_textAt cv_X12_textAt (hRm ⟨Nat.le_of_ble_eq_true rfl, Nat.le_of_ble_eq_true rfl⟩) rfl (Nat.le_of_ble_eq_true rfl) (c_X12_textAt (xl X) (xG X) hX hM ⟨hS.2.1, hS.1, trivial⟩ hq)) (Nat.le_of_ble_eq_true rfl) (Nat.le_of_ble_eq_true rfl) rfl rfl rfl (fun v18 M17 => ?_)
            refine i_iconst C dX12_countsFor_128 kI_2 ?_
            refine i_iadd C dX12_countsFor_129 ?_
            refine i_ald C dX12_countsFor_130 (shR_1 hX) (fun v19 => ?_)
            refine i_icmp_lt (tgt := 139) C dX12_countsFor_131 (by decide) ?_ ?_
            · exact i_sub [0, 1, 2, 3, 4] rfl (hj12  M17)
            · exact i_sub [0, 1, 2, 4] rfl (hj14  M17)
      refine i_jn (fun j => ∀  (M21 : Mem), Im X 0 0 98 [(0, aR 0), (1, aI y1), (2, aI y2), (3, aI u3), (4, aI u4), (5, aI v3)] [] M21 res (j  M21)) ?_ (fun j20 hj20 => ?_)
      · intro  M21
        refine i_iconst C dX12_countsFor_98 kI_0 ?_
        exact (hj6 0 M21)
      refine i_icmp_ne (tgt := 98) C dX12_countsFor_34 (by decide) ?_ ?_
      · exact (hj20  M2)
      · refine i_aload_n C dX12_countsFor_37 rfl (q := 0) rfl ?_
        refine i_getR C (k := 0) kX12 dX12_countsFor_38 (shR_0 hX) rfl (by decide) fl_X12_7 ?_
        refine i_iload C dX12_countsFor_41 (q := 5) rfl ?_
        refine i_iconst C dX12_countsFor_43 kI_1 ?_
        refine i_iadd C dX12_countsFor_44 ?_
        refine i_ald C dX12_countsFor_45 (shR_1 hX) (fun v22 => ?_)
        refine i_iload_n C dX12_countsFor_46 rfl (q := 1) rfl ?_
        refine i_icmp_ne (tgt := 98) C dX12_countsFor_47 (by decide) ?_ ?_
        · exact (hj20  M2)
        · refine i_aload_n C dX12_countsFor_50 rfl (q := 0) rfl ?_
          refine i_getR C (k := 0) kX12 dX12_countsFor_51 (shR_0 hX) rfl (by decide) fl_X12_7 ?_
          refine i_iload C dX12_countsFor_54 (q := 5) rfl ?_
          refine i_iconst C dX12_countsFor_56 kI_2 ?_
          refine i_iadd C dX12_countsFor_57 ?_
          refine i_ald C dX12_countsFor_58 (shR_1 hX) (fun v23 => ?_)
          refine i_aload_n C dX12_countsFor_59 rfl (q := 0) rfl ?_
          refine i_cI (kc' := 0) (ks' := 0) 0 0 1 (fun q hq hM hS => crV C (as := []) dX12_countsFor_60.1 kX12 (shR_0 hX) ml_X12_180 cal_X12_day cv_X12_day (hRm ⟨Nat.le_of_ble_eq_true rfl, Nat.le_of_ble_eq_true rfl⟩) rfl (Nat.le_of_ble_eq_true rfl) (c_X12_day (xl X) (xG X) hX hM ⟨hS.1, trivial⟩ hq)) (Nat.le_of_ble_eq_true rfl) (Nat.le_of_ble_eq_true rfl) rfl rfl rfl (fun v25 M24 => ?_)
          refine i_icmp_gt (tgt := 98) C dX12_countsFor_63 (by decide) ?_ ?_
          · exact (hj20  M24)
          · refine i_aload_n C dX12_countsFor_66 rfl (q := 0) rfl ?_
            refine i_getR C (k := 0) kX12 dX12_countsFor_67 (shR_0 hX) rfl (by decide) fl_X12_7 ?_
            refine i_iload C dX12_countsFor_70 (q := 5) rfl ?_
            refine i_iconst C dX12_countsFor_72 kI_3 ?_
            refine i_iadd C dX12_countsFor_73 ?_
            refine i_ald C dX12_countsFor_74 (shR_1 hX) (fun v26 => ?_)
            refine i_jn (fun j => ∀  (M28 : Mem), Im X 0 0 94 [(0, aR 0), (1, aI y1), (2, aI y2), (3, aI u3), (4, aI u4), (5, aI v3)] [] M28 res (j  M28)) ?_ (fun j27 hj27 => ?_)
            · intro  M28
              refine i_iconst C dX12_countsFor_94 kI_1 ?_
              refine i_goto (tgt := 99) C dX12_countsFor_95 (by decide) ?_
              exact (hj6 1 M28)
            refine i_if_lt (tgt := 94) C dX12_countsFor_75 (by decide) ?_ ?_
            · exact (hj27  M24)
            · refine i_aload_n C dX12_countsFor_78 rfl (q := 0) rfl ?_
              refine i_getR C (k := 0) kX12 dX12_countsFor_79 (shR_0 hX) rfl (by decide) fl_X12_7 ?_
              refine i_iload C dX12_countsFor_82 (q := 5) rfl ?_
              refine i_iconst C dX12_countsFor_84 kI_3 ?_
              refine i_iadd C dX12_countsFor_85 ?_
              refine i_ald C dX12_countsFor_86 (shR_1 hX) (fun v29 => ?_)
              refine i_aload_n C dX12_countsFor_87 rfl (q := 0) rfl ?_
              refine i_cI (kc' := 0) (ks' := 0) 0 0 1 (fun q hq hM hS => crV C (as := []) dX12_countsFor_88.1 kX12 (shR_0 hX) ml_X12_180 cal_X12_day cv_X12_day (hRm ⟨Nat.le_of_ble_eq_true rfl, Nat.le_of_ble_eq_true rfl⟩) rfl (Nat.le_of_ble_eq_true rfl) (c_X12_day (xl X) (xG X) hX hM ⟨hS.1, trivial⟩ hq)) (Nat.le_of_ble_eq_true rfl) (Nat.le_of_ble_eq_true rfl) rfl rfl rfl (fun v31 M30 => ?_)
              refine i_icmp_le (tgt := 98) C dX12_countsFor_91 (by decide) ?_ ?_
              · exact (hj20  M30)
              · exact (hj27  M30)
set_option maxRecDepth 100000 in
set_option maxHeartbeats 4000000 in
theorem c_X12_countsFor (l : Launch) (G : Gx) {K : Kx} (hK : K = kR) {x1 : Int} {x2 : Int} {M : Mem} {res : Int × Mem} (hM : OkM M) (ha : okS [aR 0, aI x1, aI x2]) (hF : rM_countsFor x1 x2 M = some res) : Ct l G K yX12_countsFor (wsM yX12_countsFor cX12_countsFor 7 (some .int)) rmX12_countsFor [aR 0, aI x1, aI x2] M (some (aI res.1)) res.2 := by
  refine ct_of RX12 (by decide +kernel) rfl (hK ▸ kR_ok) hM ha (Nat.le_of_ble_eq_true rfl) hF ?_
  intro X C hl hG hX0 hN hR hq
  have hX : xK X = kR := hX0.trans hK
  show Im X 0 0 0 [(0, aR 0), (1, aI x1), (2, aI x2)] [] M res (rM_countsFor x1 x2 M)
  unfold rM_countsFor
  have hl3 : 3 < xn X := by rw [hN]; decide
  have hl4 : 4 < xn X := by rw [hN]; decide
  have hl5 : 5 < xn X := by rw [hN]; decide
  have hl6 : 6 < xn X := by rw [hN]; decide
  have hRm : ∀ {rm : Room} {ny : Nat}, RmOk rmX12_countsFor rm ny → RmOk (xR X) rm ny := fun h => by rw [hR]; exact h
  refine i_iconst C dX12_countsFor_0 kI_m1 ?_
  refine i_istore_n C dX12_countsFor_1 rfl hl3 (L' := [(0, aR 0), (1, aI x1), (2, aI x2), (3, aI (-1))]) rfl ?_
  refine i_iconst C dX12_countsFor_2 kI_0 ?_
  refine i_istore C dX12_countsFor_3 hl4 (L' := [(0, aR 0), (1, aI x1), (2, aI x2), (3, aI (-1)), (4, aI 0)]) rfl ?_
  refine (w_X12_countsFor_5 C hX hN hR hq x1 x2 (fun v32 M33 => ?_) FU (-1) 0 M)
  refine i_aload_n C dX12_countsFor_147 rfl (q := 0) rfl ?_
  refine i_getI C (k := 20) kX12 dX12_countsFor_148 (shR_0 hX) rfl (by decide) fl_X12_34 rfl ?_
  refine i_jn (fun j => ∀ (p34 : Int) (M36 : Mem), Im X 0 0 182 [(0, aR 0), (3, aI v32)] [aI p34] M36 res (j p34 M36)) ?_ (fun j35 hj35 => ?_)
  · intro p34 M36
    refine i_istore C dX12_countsFor_182 hl4 (L' := [(0, aR 0), (3, aI v32), (4, aI p34)]) rfl ?_
    refine i_iload C dX12_countsFor_184 (q := 2) rfl ?_
    refine i_if_eq (tgt := 196) C dX12_countsFor_186 (by decide) ?_ ?_
    · refine i_iload_n C dX12_countsFor_196 rfl (q := 1) rfl ?_
      exact i_iret C hq dX12_countsFor_197
    · refine i_aload_n C dX12_countsFor_189 rfl (q := 0) rfl ?_
      refine i_getI C (k := 20) kX12 dX12_countsFor_190 (shR_0 hX) rfl (by decide) fl_X12_34 rfl ?_
      refine i_goto (tgt := 197) C dX12_countsFor_193 (by decide) ?_
      exact i_iret C hq dX12_countsFor_197
  refine i_jn (fun j => ∀  (M38 : Mem), Im X 0 0 181 [(0, aR 0), (3, aI v32)] [] M38 res (j  M38)) ?_ (fun j37 hj37 => ?_)
  · intro  M38
    refine i_iconst C dX12_countsFor_181 kI_0 ?_
    exact (hj35 0 M38)
  refine i_if_lt (tgt := 181) C dX12_countsFor_151 (by decide) ?_ ?_
  · exact i_sub [0, 3] rfl (hj37  M33)
  · refine i_iload_n C dX12_countsFor_154 rfl (q := 2) rfl ?_
    refine i_if_ne (tgt := 181) C dX12_countsFor_155 (by decide) ?_ ?_
    · exact i_sub [0, 3] rfl (hj37  M33)
    · refine i_aload_n C dX12_countsFor_158 rfl (q := 0) rfl ?_
      refine i_getR C (k := 0) kX12 dX12_countsFor_159 (shR_0 hX) rfl (by decide) fl_X12_7 ?_
      refine i_aload_n C dX12_countsFor_162 rfl (q := 0) rfl ?_
      refine i_aload_n C dX12_countsFor_163 rfl (q := 0) rfl ?_
      refine i_getI C (k := 20) kX12 dX12_countsFor_164 (shR_0 hX) rfl (by decide) fl_X12_34 rfl ?_
      refine i_cI (kc' := 0) (ks' := 0) 0 0 2 (fun q hq hM hS => crV C (as := [aI (M33 0 20)]) dX12_countsFor_167.1 kX12 (shR_0 hX) ml_X12_305 cal_X12_textAt cv_X12_textAt (hRm ⟨Nat.le_of_ble_eq_true rfl, Nat.le_of_ble_eq_true rfl⟩) rfl (Nat.le_of_ble_eq_true rfl) (c_X12_textAt (xl X) (xG X) hX hM ⟨hS.2.1, hS.1, trivial⟩ hq)) (Nat.le_of_ble_eq_true rfl) (Nat.le_of_ble_eq_true rfl) rfl rfl rfl (fun v40 M39 => ?_)
      refine i_iconst C dX12_countsFor_170 kI_1 ?_
      refine i_iadd C dX12_countsFor_171 ?_
      refine i_ald C dX12_countsFor_172 (shR_1 hX) (fun v41 => ?_)
      refine i_iload_n C dX12_countsFor_173 rfl (q := 1) rfl ?_
      refine i_icmp_ne (tgt := 181) C dX12_countsFor_174 (by decide) ?_ ?_
      · exact i_sub [0, 3] rfl (hj37  M39)
      · refine i_iconst C dX12_countsFor_177 kI_1 ?_
        refine i_goto (tgt := 182) C dX12_countsFor_178 (by decide) ?_
        exact i_sub [0, 3] rfl (hj35 1 M39)
set_option maxRecDepth 100000 in
set_option maxHeartbeats 4000000 in
theorem c_X12_joined (l : Launch) (G : Gx) {K : Kx} (hK : K = kR) {x0 : Int} {x1 : Int} {x2 : Int} {M : Mem} {res : Int × Mem} (hM : OkM M) (ha : okS [aI x0, aI x1, aI x2]) (hF : rM_joined x0 x1 x2 M = some res) : Ct l G K yX12_joined (wsM yX12_joined cX12_joined 3 (some .int)) rmX12_joined [aI x0, aI x1, aI x2] M (some (aI res.1)) res.2 := by
  refine ct_of RX12 (by decide +kernel) rfl (hK ▸ kR_ok) hM ha (Nat.le_of_ble_eq_true rfl) hF ?_
  intro X C hl hG hX0 hN hR hq
  have hX : xK X = kR := hX0.trans hK
  show Im X 0 0 0 [(0, aI x0), (1, aI x1), (2, aI x2)] [] M res (rM_joined x0 x1 x2 M)
  unfold rM_joined
  refine i_iload_n C dX12_joined_0 rfl (q := 0) rfl ?_
  refine i_split (fun e1 => ?_) (fun e1 => ?_)
  · refine i_tswIn (tgt := 183) C dX12_joined_1 e1 (by decide) (by decide) rfl (by decide) ?_
    refine i_iload_n C dX12_joined_183 rfl (q := 1) rfl ?_
    refine i_if_eq (tgt := 195) C dX12_joined_184 (by decide) ?_ ?_
    · refine i_iconst C dX12_joined_195 kI_0 ?_
      exact i_iret C hq dX12_joined_196
    · refine i_iload_n C dX12_joined_187 rfl (q := 2) rfl ?_
      refine i_if_eq (tgt := 195) C dX12_joined_188 (by decide) ?_ ?_
      · refine i_iconst C dX12_joined_195 kI_0 ?_
        exact i_iret C hq dX12_joined_196
      · refine i_iconst C dX12_joined_191 kI_1 ?_
        refine i_goto (tgt := 196) C dX12_joined_192 (by decide) ?_
        exact i_iret C hq dX12_joined_196
  refine i_split (fun e2 => ?_) (fun e2 => ?_)
  · refine i_tswIn (tgt := 197) C dX12_joined_1 e2 (by decide) (by decide) rfl (by decide) ?_
    refine i_iload_n C dX12_joined_197 rfl (q := 1) rfl ?_
    refine i_if_ne (tgt := 205) C dX12_joined_198 (by decide) ?_ ?_
    · refine i_iconst C dX12_joined_205 kI_1 ?_
      refine i_goto (tgt := 210) C dX12_joined_206 (by decide) ?_
      exact i_iret C hq dX12_joined_210
    · refine i_iload_n C dX12_joined_201 rfl (q := 2) rfl ?_
      refine i_if_eq (tgt := 209) C dX12_joined_202 (by decide) ?_ ?_
      · refine i_iconst C dX12_joined_209 kI_0 ?_
        exact i_iret C hq dX12_joined_210
      · refine i_iconst C dX12_joined_205 kI_1 ?_
        refine i_goto (tgt := 210) C dX12_joined_206 (by decide) ?_
        exact i_iret C hq dX12_joined_210
  refine i_split (fun e3 => ?_) (fun e3 => ?_)
  · refine i_tswIn (tgt := 197) C dX12_joined_1 e3 (by decide) (by decide) rfl (by decide) ?_
    refine i_iload_n C dX12_joined_197 rfl (q := 1) rfl ?_
    refine i_if_ne (tgt := 205) C dX12_joined_198 (by decide) ?_ ?_
    · refine i_iconst C dX12_joined_205 kI_1 ?_
      refine i_goto (tgt := 210) C dX12_joined_206 (by decide) ?_
      exact i_iret C hq dX12_joined_210
    · refine i_iload_n C dX12_joined_201 rfl (q := 2) rfl ?_
      refine i_if_eq (tgt := 209) C dX12_joined_202 (by decide) ?_ ?_
      · refine i_iconst C dX12_joined_209 kI_0 ?_
        exact i_iret C hq dX12_joined_210
      · refine i_iconst C dX12_joined_205 kI_1 ?_
        refine i_goto (tgt := 210) C dX12_joined_206 (by decide) ?_
        exact i_iret C hq dX12_joined_210
  refine i_split (fun e4 => ?_) (fun e4 => ?_)
  · refine i_tswIn (tgt := 197) C dX12_joined_1 e4 (by decide) (by decide) rfl (by decide) ?_
    refine i_iload_n C dX12_joined_197 rfl (q := 1) rfl ?_
    refine i_if_ne (tgt := 205) C dX12_joined_198 (by decide) ?_ ?_
    · refine i_iconst C dX12_joined_205 kI_1 ?_
      refine i_goto (tgt := 210) C dX12_joined_206 (by decide) ?_
      exact i_iret C hq dX12_joined_210
    · refine i_iload_n C dX12_joined_201 rfl (q := 2) rfl ?_
      refine i_if_eq (tgt := 209) C dX12_joined_202 (by decide) ?_ ?_
      · refine i_iconst C dX12_joined_209 kI_0 ?_
        exact i_iret C hq dX12_joined_210
      · refine i_iconst C dX12_joined_205 kI_1 ?_
        refine i_goto (tgt := 210) C dX12_joined_206 (by decide) ?_
        exact i_iret C hq dX12_joined_210
  refine i_split (fun e5 => ?_) (fun e5 => ?_)
  · refine i_tswIn (tgt := 124) C dX12_joined_1 e5 (by decide) (by decide) rfl (by decide) ?_
    refine i_iload_n C dX12_joined_124 rfl (q := 1) rfl ?_
    refine i_iload_n C dX12_joined_125 rfl (q := 2) rfl ?_
    refine i_imul C dX12_joined_126 ?_
    exact i_iret C hq dX12_joined_127
  refine i_split (fun e6 => ?_) (fun e6 => ?_)
  · refine i_tswIn (tgt := 116) C dX12_joined_1 e6 (by decide) (by decide) rfl (by decide) ?_
    refine i_iload_n C dX12_joined_116 rfl (q := 1) rfl ?_
    refine i_iload_n C dX12_joined_117 rfl (q := 2) rfl ?_
    refine i_iadd C dX12_joined_118 ?_
    exact i_iret C hq dX12_joined_119
  refine i_split (fun e7 => ?_) (fun e7 => ?_)
  · refine i_tswIn (tgt := 197) C dX12_joined_1 e7 (by decide) (by decide) rfl (by decide) ?_
    refine i_iload_n C dX12_joined_197 rfl (q := 1) rfl ?_
    refine i_if_ne (tgt := 205) C dX12_joined_198 (by decide) ?_ ?_
    · refine i_iconst C dX12_joined_205 kI_1 ?_
      refine i_goto (tgt := 210) C dX12_joined_206 (by decide) ?_
      exact i_iret C hq dX12_joined_210
    · refine i_iload_n C dX12_joined_201 rfl (q := 2) rfl ?_
      refine i_if_eq (tgt := 209) C dX12_joined_202 (by decide) ?_ ?_
      · refine i_iconst C dX12_joined_209 kI_0 ?_
        exact i_iret C hq dX12_joined_210
      · refine i_iconst C dX12_joined_205 kI_1 ?_
        refine i_goto (tgt := 210) C dX12_joined_206 (by decide) ?_
        exact i_iret C hq dX12_joined_210
  refine i_split (fun e8 => ?_) (fun e8 => ?_)
  · refine i_tswIn (tgt := 120) C dX12_joined_1 e8 (by decide) (by decide) rfl (by decide) ?_
    refine i_iload_n C dX12_joined_120 rfl (q := 1) rfl ?_
    refine i_iload_n C dX12_joined_121 rfl (q := 2) rfl ?_
    refine i_isub C dX12_joined_122 ?_
    exact i_iret C hq dX12_joined_123
  refine i_split (fun e9 => ?_) (fun e9 => ?_)
  · refine i_tswIn (tgt := 197) C dX12_joined_1 e9 (by decide) (by decide) rfl (by decide) ?_
    refine i_iload_n C dX12_joined_197 rfl (q := 1) rfl ?_
    refine i_if_ne (tgt := 205) C dX12_joined_198 (by decide) ?_ ?_
    · refine i_iconst C dX12_joined_205 kI_1 ?_
      refine i_goto (tgt := 210) C dX12_joined_206 (by decide) ?_
      exact i_iret C hq dX12_joined_210
    · refine i_iload_n C dX12_joined_201 rfl (q := 2) rfl ?_
      refine i_if_eq (tgt := 209) C dX12_joined_202 (by decide) ?_ ?_
      · refine i_iconst C dX12_joined_209 kI_0 ?_
        exact i_iret C hq dX12_joined_210
      · refine i_iconst C dX12_joined_205 kI_1 ?_
        refine i_goto (tgt := 210) C dX12_joined_206 (by decide) ?_
        exact i_iret C hq dX12_joined_210
  refine i_split (fun e11 => ?_) (fun e11 => ?_)
  · refine i_tswIn (tgt := 128) C dX12_joined_1 e11 (by decide) (by decide) rfl (by decide) ?_
    refine i_iload_n C dX12_joined_128 rfl (q := 2) rfl ?_
    refine i_if_ne (tgt := 136) C dX12_joined_129 (by decide) ?_ ?_
    · refine i_iload_n C dX12_joined_136 rfl (q := 2) rfl ?_
      refine i_iconst C dX12_joined_137 kI_m1 ?_
      refine i_icmp_ne (tgt := 146) C dX12_joined_138 (by decide) ?_ ?_
      · refine i_iload_n C dX12_joined_146 rfl (q := 1) rfl ?_
        refine i_iload_n C dX12_joined_147 rfl (q := 2) rfl ?_
        refine i_split (fun _ => i_none) (fun e10 => ?_)
        refine i_idiv C dX12_joined_148 e10 ?_
        exact i_iret C hq dX12_joined_149
      · refine i_iload_n C dX12_joined_141 rfl (q := 1) rfl ?_
        refine i_ineg C dX12_joined_142 ?_
        refine i_goto (tgt := 149) C dX12_joined_143 (by decide) ?_
        exact i_iret C hq dX12_joined_149
    · refine i_iconst C dX12_joined_132 kI_0 ?_
      refine i_goto (tgt := 149) C dX12_joined_133 (by decide) ?_
      exact i_iret C hq dX12_joined_149
  refine i_split (fun e12 => ?_) (fun e12 => ?_)
  · refine i_tswIn (tgt := 197) C dX12_joined_1 e12 (by decide) (by decide) rfl (by decide) ?_
    refine i_iload_n C dX12_joined_197 rfl (q := 1) rfl ?_
    refine i_if_ne (tgt := 205) C dX12_joined_198 (by decide) ?_ ?_
    · refine i_iconst C dX12_joined_205 kI_1 ?_
      refine i_goto (tgt := 210) C dX12_joined_206 (by decide) ?_
      exact i_iret C hq dX12_joined_210
    · refine i_iload_n C dX12_joined_201 rfl (q := 2) rfl ?_
      refine i_if_eq (tgt := 209) C dX12_joined_202 (by decide) ?_ ?_
      · refine i_iconst C dX12_joined_209 kI_0 ?_
        exact i_iret C hq dX12_joined_210
      · refine i_iconst C dX12_joined_205 kI_1 ?_
        refine i_goto (tgt := 210) C dX12_joined_206 (by decide) ?_
        exact i_iret C hq dX12_joined_210
  refine i_split (fun e13 => ?_) (fun e13 => ?_)
  · refine i_tswIn (tgt := 197) C dX12_joined_1 e13 (by decide) (by decide) rfl (by decide) ?_
    refine i_iload_n C dX12_joined_197 rfl (q := 1) rfl ?_
    refine i_if_ne (tgt := 205) C dX12_joined_198 (by decide) ?_ ?_
    · refine i_iconst C dX12_joined_205 kI_1 ?_
      refine i_goto (tgt := 210) C dX12_joined_206 (by decide) ?_
      exact i_iret C hq dX12_joined_210
    · refine i_iload_n C dX12_joined_201 rfl (q := 2) rfl ?_
      refine i_if_eq (tgt := 209) C dX12_joined_202 (by decide) ?_ ?_
      · refine i_iconst C dX12_joined_209 kI_0 ?_
        exact i_iret C hq dX12_joined_210
      · refine i_iconst C dX12_joined_205 kI_1 ?_
        refine i_goto (tgt := 210) C dX12_joined_206 (by decide) ?_
        exact i_iret C hq dX12_joined_210
  refine i_split (fun e14 => ?_) (fun e14 => ?_)
  · refine i_tswIn (tgt := 197) C dX12_joined_1 e14 (by decide) (by decide) rfl (by decide) ?_
    refine i_iload_n C dX12_joined_197 rfl (q := 1) rfl ?_
    refine i_if_ne (tgt := 205) C dX12_joined_198 (by decide) ?_ ?_
    · refine i_iconst C dX12_joined_205 kI_1 ?_
      refine i_goto (tgt := 210) C dX12_joined_206 (by decide) ?_
      exact i_iret C hq dX12_joined_210
    · refine i_iload_n C dX12_joined_201 rfl (q := 2) rfl ?_
      refine i_if_eq (tgt := 209) C dX12_joined_202 (by decide) ?_ ?_
      · refine i_iconst C dX12_joined_209 kI_0 ?_
        exact i_iret C hq dX12_joined_210
      · refine i_iconst C dX12_joined_205 kI_1 ?_
        refine i_goto (tgt := 210) C dX12_joined_206 (by decide) ?_
        exact i_iret C hq dX12_joined_210
  refine i_split (fun e15 => ?_) (fun e15 => ?_)
  · refine i_tswIn (tgt := 197) C dX12_joined_1 e15 (by decide) (by decide) rfl (by decide) ?_
    refine i_iload_n C dX12_joined_197 rfl (q := 1) rfl ?_
    refine i_if_ne (tgt := 205) C dX12_joined_198 (by decide) ?_ ?_
    · refine i_iconst C dX12_joined_205 kI_1 ?_
      refine i_goto (tgt := 210) C dX12_joined_206 (by decide) ?_
      exact i_iret C hq dX12_joined_210
    · refine i_iload_n C dX12_joined_201 rfl (q := 2) rfl ?_
      refine i_if_eq (tgt := 209) C dX12_joined_202 (by decide) ?_ ?_
      · refine i_iconst C dX12_joined_209 kI_0 ?_
        exact i_iret C hq dX12_joined_210
      · refine i_iconst C dX12_joined_205 kI_1 ?_
        refine i_goto (tgt := 210) C dX12_joined_206 (by decide) ?_
        exact i_iret C hq dX12_joined_210
  refine i_split (fun e16 => ?_) (fun e16 => ?_)
  · refine i_tswIn (tgt := 197) C dX12_joined_1 e16 (by decide) (by decide) rfl (by decide) ?_
    refine i_iload_n C dX12_joined_197 rfl (q := 1) rfl ?_
    refine i_if_ne (tgt := 205) C dX12_joined_198 (by decide) ?_ ?_
    · refine i_iconst C dX12_joined_205 kI_1 ?_
      refine i_goto (tgt := 210) C dX12_joined_206 (by decide) ?_
      exact i_iret C hq dX12_joined_210
    · refine i_iload_n C dX12_joined_201 rfl (q := 2) rfl ?_
      refine i_if_eq (tgt := 209) C dX12_joined_202 (by decide) ?_ ?_
      · refine i_iconst C dX12_joined_209 kI_0 ?_
        exact i_iret C hq dX12_joined_210
      · refine i_iconst C dX12_joined_205 kI_1 ?_
        refine i_goto (tgt := 210) C dX12_joined_206 (by decide) ?_
        exact i_iret C hq dX12_joined_210
  refine i_split (fun e17 => ?_) (fun e17 => ?_)
  · refine i_tswIn (tgt := 197) C dX12_joined_1 e17 (by decide) (by decide) rfl (by decide) ?_
    refine i_iload_n C dX12_joined_197 rfl (q := 1) rfl ?_
    refine i_if_ne (tgt := 205) C dX12_joined_198 (by decide) ?_ ?_
    · refine i_iconst C dX12_joined_205 kI_1 ?_
      refine i_goto (tgt := 210) C dX12_joined_206 (by decide) ?_
      exact i_iret C hq dX12_joined_210
    · refine i_iload_n C dX12_joined_201 rfl (q := 2) rfl ?_
      refine i_if_eq (tgt := 209) C dX12_joined_202 (by decide) ?_ ?_
      · refine i_iconst C dX12_joined_209 kI_0 ?_
        exact i_iret C hq dX12_joined_210
      · refine i_iconst C dX12_joined_205 kI_1 ?_
        refine i_goto (tgt := 210) C dX12_joined_206 (by decide) ?_
        exact i_iret C hq dX12_joined_210
  refine i_split (fun e18 => ?_) (fun e18 => ?_)
  · refine i_tswIn (tgt := 197) C dX12_joined_1 e18 (by decide) (by decide) rfl (by decide) ?_
    refine i_iload_n C dX12_joined_197 rfl (q := 1) rfl ?_
    refine i_if_ne (tgt := 205) C dX12_joined_198 (by decide) ?_ ?_
    · refine i_iconst C dX12_joined_205 kI_1 ?_
      refine i_goto (tgt := 210) C dX12_joined_206 (by decide) ?_
      exact i_iret C hq dX12_joined_210
    · refine i_iload_n C dX12_joined_201 rfl (q := 2) rfl ?_
      refine i_if_eq (tgt := 209) C dX12_joined_202 (by decide) ?_ ?_
      · refine i_iconst C dX12_joined_209 kI_0 ?_
        exact i_iret C hq dX12_joined_210
      · refine i_iconst C dX12_joined_205 kI_1 ?_
        refine i_goto (tgt := 210) C dX12_joined_206 (by decide) ?_
        exact i_iret C hq dX12_joined_210
  refine i_split (fun e19 => ?_) (fun e19 => ?_)
  · refine i_tswIn (tgt := 197) C dX12_joined_1 e19 (by decide) (by decide) rfl (by decide) ?_
    refine i_iload_n C dX12_joined_197 rfl (q := 1) rfl ?_
    refine i_if_ne (tgt := 205) C dX12_joined_198 (by decide) ?_ ?_
    · refine i_iconst C dX12_joined_205 kI_1 ?_
      refine i_goto (tgt := 210) C dX12_joined_206 (by decide) ?_
      exact i_iret C hq dX12_joined_210
    · refine i_iload_n C dX12_joined_201 rfl (q := 2) rfl ?_
      refine i_if_eq (tgt := 209) C dX12_joined_202 (by decide) ?_ ?_
      · refine i_iconst C dX12_joined_209 kI_0 ?_
        exact i_iret C hq dX12_joined_210
      · refine i_iconst C dX12_joined_205 kI_1 ?_
        refine i_goto (tgt := 210) C dX12_joined_206 (by decide) ?_
        exact i_iret C hq dX12_joined_210
  refine i_split (fun e20 => ?_) (fun e20 => ?_)
  · refine i_tswIn (tgt := 197) C dX12_joined_1 e20 (by decide) (by decide) rfl (by decide) ?_
    refine i_iload_n C dX12_joined_197 rfl (q := 1) rfl ?_
    refine i_if_ne (tgt := 205) C dX12_joined_198 (by decide) ?_ ?_
    · refine i_iconst C dX12_joined_205 kI_1 ?_
      refine i_goto (tgt := 210) C dX12_joined_206 (by decide) ?_
      exact i_iret C hq dX12_joined_210
    · refine i_iload_n C dX12_joined_201 rfl (q := 2) rfl ?_
      refine i_if_eq (tgt := 209) C dX12_joined_202 (by decide) ?_ ?_
      · refine i_iconst C dX12_joined_209 kI_0 ?_
        exact i_iret C hq dX12_joined_210
      · refine i_iconst C dX12_joined_205 kI_1 ?_
        refine i_goto (tgt := 210) C dX12_joined_206 (by decide) ?_
        exact i_iret C hq dX12_joined_210
  refine i_split (fun e21 => ?_) (fun e21 => ?_)
  · refine i_tswIn (tgt := 197) C dX12_joined_1 e21 (by decide) (by decide) rfl (by decide) ?_
    refine i_iload_n C dX12_joined_197 rfl (q := 1) rfl ?_
    refine i_if_ne (tgt := 205) C dX12_joined_198 (by decide) ?_ ?_
    · refine i_iconst C dX12_joined_205 kI_1 ?_
      refine i_goto (tgt := 210) C dX12_joined_206 (by decide) ?_
      exact i_iret C hq dX12_joined_210
    · refine i_iload_n C dX12_joined_201 rfl (q := 2) rfl ?_
      refine i_if_eq (tgt := 209) C dX12_joined_202 (by decide) ?_ ?_
      · refine i_iconst C dX12_joined_209 kI_0 ?_
        exact i_iret C hq dX12_joined_210
      · refine i_iconst C dX12_joined_205 kI_1 ?_
        refine i_goto (tgt := 210) C dX12_joined_206 (by decide) ?_
        exact i_iret C hq dX12_joined_210
  refine i_split (fun e22 => ?_) (fun e22 => ?_)
  · refine i_tswIn (tgt := 197) C dX12_joined_1 e22 (by decide) (by decide) rfl (by decide) ?_
    refine i_iload_n C dX12_joined_197 rfl (q := 1) rfl ?_
    refine i_if_ne (tgt := 205) C dX12_joined_198 (by decide) ?_ ?_
    · refine i_iconst C dX12_joined_205 kI_1 ?_
      refine i_goto (tgt := 210) C dX12_joined_206 (by decide) ?_
      exact i_iret C hq dX12_joined_210
    · refine i_iload_n C dX12_joined_201 rfl (q := 2) rfl ?_
      refine i_if_eq (tgt := 209) C dX12_joined_202 (by decide) ?_ ?_
      · refine i_iconst C dX12_joined_209 kI_0 ?_
        exact i_iret C hq dX12_joined_210
      · refine i_iconst C dX12_joined_205 kI_1 ?_
        refine i_goto (tgt := 210) C dX12_joined_206 (by decide) ?_
        exact i_iret C hq dX12_joined_210
  refine i_split (fun e23 => ?_) (fun e23 => ?_)
  · refine i_tswIn (tgt := 197) C dX12_joined_1 e23 (by decide) (by decide) rfl (by decide) ?_
    refine i_iload_n C dX12_joined_197 rfl (q := 1) rfl ?_
    refine i_if_ne (tgt := 205) C dX12_joined_198 (by decide) ?_ ?_
    · refine i_iconst C dX12_joined_205 kI_1 ?_
      refine i_goto (tgt := 210) C dX12_joined_206 (by decide) ?_
      exact i_iret C hq dX12_joined_210
    · refine i_iload_n C dX12_joined_201 rfl (q := 2) rfl ?_
      refine i_if_eq (tgt := 209) C dX12_joined_202 (by decide) ?_ ?_
      · refine i_iconst C dX12_joined_209 kI_0 ?_
        exact i_iret C hq dX12_joined_210
      · refine i_iconst C dX12_joined_205 kI_1 ?_
        refine i_goto (tgt := 210) C dX12_joined_206 (by decide) ?_
        exact i_iret C hq dX12_joined_210
  refine i_split (fun e24 => ?_) (fun e24 => ?_)
  · refine i_tswIn (tgt := 150) C dX12_joined_1 e24 (by decide) (by decide) rfl (by decide) ?_
    refine i_iload_n C dX12_joined_150 rfl (q := 1) rfl ?_
    refine i_iload_n C dX12_joined_151 rfl (q := 2) rfl ?_
    refine i_icmp_ge (tgt := 159) C dX12_joined_152 (by decide) ?_ ?_
    · refine i_iconst C dX12_joined_159 kI_0 ?_
      exact i_iret C hq dX12_joined_160
    · refine i_iconst C dX12_joined_155 kI_1 ?_
      refine i_goto (tgt := 160) C dX12_joined_156 (by decide) ?_
      exact i_iret C hq dX12_joined_160
  refine i_split (fun e25 => ?_) (fun e25 => ?_)
  · refine i_tswIn (tgt := 172) C dX12_joined_1 e25 (by decide) (by decide) rfl (by decide) ?_
    refine i_iload_n C dX12_joined_172 rfl (q := 1) rfl ?_
    refine i_iload_n C dX12_joined_173 rfl (q := 2) rfl ?_
    refine i_icmp_ne (tgt := 181) C dX12_joined_174 (by decide) ?_ ?_
    · refine i_iconst C dX12_joined_181 kI_0 ?_
      exact i_iret C hq dX12_joined_182
    · refine i_iconst C dX12_joined_177 kI_1 ?_
      refine i_goto (tgt := 182) C dX12_joined_178 (by decide) ?_
      exact i_iret C hq dX12_joined_182
  refine i_split (fun e26 => ?_) (fun e26 => ?_)
  · refine i_tswIn (tgt := 161) C dX12_joined_1 e26 (by decide) (by decide) rfl (by decide) ?_
    refine i_iload_n C dX12_joined_161 rfl (q := 1) rfl ?_
    refine i_iload_n C dX12_joined_162 rfl (q := 2) rfl ?_
    refine i_icmp_le (tgt := 170) C dX12_joined_163 (by decide) ?_ ?_
    · refine i_iconst C dX12_joined_170 kI_0 ?_
      exact i_iret C hq dX12_joined_171
    · refine i_iconst C dX12_joined_166 kI_1 ?_
      refine i_goto (tgt := 171) C dX12_joined_167 (by decide) ?_
      exact i_iret C hq dX12_joined_171
  refine i_tswOut (tgt := 197) C dX12_joined_1 (by omega) (by decide) ?_
  refine i_iload_n C dX12_joined_197 rfl (q := 1) rfl ?_
  refine i_if_ne (tgt := 205) C dX12_joined_198 (by decide) ?_ ?_
  · refine i_iconst C dX12_joined_205 kI_1 ?_
    refine i_goto (tgt := 210) C dX12_joined_206 (by decide) ?_
    exact i_iret C hq dX12_joined_210
  · refine i_iload_n C dX12_joined_201 rfl (q := 2) rfl ?_
    refine i_if_eq (tgt := 209) C dX12_joined_202 (by decide) ?_ ?_
    · refine i_iconst C dX12_joined_209 kI_0 ?_
      exact i_iret C hq dX12_joined_210
    · refine i_iconst C dX12_joined_205 kI_1 ?_
      refine i_goto (tgt := 210) C dX12_joined_206 (by decide) ?_
      exact i_iret C hq dX12_joined_210
set_option maxRecDepth 100000 in
set_option maxHeartbeats 4000000 in
theorem w_X12_worked_4 {X : Xc} (C : Cx X RX12 cX12_worked (some .int)) (hX : xK X = kR) (hN : xn X = 6) (hR : xR X = rmX12_worked) {res : Int × Mem} (hq : Rq X (some (aI res.1)) res.2) (y1 : Int) : ∀ (n : Nat) (u2 : Int) (u3 : Int) (M : Mem), Im X 0 0 4 [(0, aR 0), (1, aI y1), (2, aI u2), (3, aI u3)] [] M res (lpX12_worked_4 y1 n u2 u3 M) := by
  have hl2 : 2 < xn X := by rw [hN]; decide
  have hl3 : 3 < xn X := by rw [hN]; decide
  have hl4 : 4 < xn X := by rw [hN]; decide
  have hl5 : 5 < xn X := by rw [hN]; decide
  have hRm : ∀ {rm : Room} {ny : Nat}, RmOk rmX12_worked rm ny → RmOk (xR X) rm ny := fun h => by rw [hR]; exact h
  intro n
  induction n with
  | zero => intro _ _ _; exact i_none
  | succ n ih =>
    intro u2 u3 M
    unfold lpX12_worked_4
    refine i_iload_n C dX12_worked_4 rfl (q := 3) rfl ?_
    refine i_aload_n C dX12_worked_5 rfl (q := 0) rfl ?_
    refine i_getR C (k := 0) kX12 dX12_worked_6 (shR_0 hX) rfl (by decide) fl_X12_7 ?_
    refine i_aload_n C dX12_worked_9 rfl (q := 0) rfl ?_
    refine i_iload_n C dX12_worked_10 rfl (q := 1) rfl ?_
    refine i_cI (kc' := 0) (ks' := 0) 0 0 2 (fun q hq hM hS => crV C (as := [aI y1]) dX12_worked_11.1 kX12 (shR_0 hX) ml_X12_305 cal_X12_textAt cv_X12_textAt (hRm ⟨Nat.le_of_ble_eq_true rfl, Nat.le_of_ble_eq_true rfl⟩) rfl (Nat.le_of_ble_eq_true rfl) (c_X12_textAt (xl X) (xG X) hX hM ⟨hS.2.1, hS.1, trivial⟩ hq)) (Nat.le_of_ble_eq_true rfl) (Nat.le_of_ble_eq_true rfl) rfl rfl rfl (fun v2 M1 => ?_)
    refine i_iconst C dX12_worked_14 kI_5 ?_
    refine i_iadd C dX12_worked_15 ?_
    refine i_ald C dX12_worked_16 (shR_1 hX) (fun v3 => ?_)
    refine i_icmp_ge (tgt := 165) C dX12_worked_17 (by decide) ?_ ?_
    · refine i_aload_n C dX12_worked_165 rfl (q := 0) rfl ?_
      refine i_getR C (k := 22) kX12 dX12_worked_166 (shR_0 hX) rfl (by decide) fl_X12_41 ?_
      refine i_iconst C dX12_worked_169 kI_0 ?_
      refine i_ald C dX12_worked_170 (shR_10 hX) (fun v4 => ?_)
      exact i_iret C hq dX12_worked_171
    · refine i_aload_n C dX12_worked_20 rfl (q := 0) rfl ?_
      refine i_getR C (k := 0) kX12 dX12_worked_21 (shR_0 hX) rfl (by decide) fl_X12_7 ?_
      refine i_aload_n C dX12_worked_24 rfl (q := 0) rfl ?_
      refine i_iload_n C dX12_worked_25 rfl (q := 1) rfl ?_
      refine i_cI (kc' := 0) (ks' := 0) 0 0 2 (fun q hq hM hS => crV C (as := [aI y1]) dX12_worked_26.1 kX12 (shR_0 hX) ml_X12_305 cal_X12_textAt cv_X12_textAt (hRm ⟨Nat.le_of_ble_eq_true rfl, Nat.le_of_ble_eq_true rfl⟩) rfl (Nat.le_of_ble_eq_true rfl) (c_X12_textAt (xl X) (xG X) hX hM ⟨hS.2.1, hS.1, trivial⟩ hq)) (Nat.le_of_ble_eq_true rfl) (Nat.le_of_ble_eq_true rfl) rfl rfl rfl (fun v6 M5 => ?_)
      refine i_bipush C dX12_worked_29 kB_6 ?_
      refine i_iadd C dX12_worked_31 ?_
      refine i_iconst C dX12_worked_32 kI_2 ?_
      refine i_iload_n C dX12_worked_33 rfl (q := 3) rfl ?_
      refine i_imul C dX12_worked_34 ?_
      refine i_iadd C dX12_worked_35 ?_
      refine i_ald C dX12_worked_36 (shR_1 hX) (fun v7 => ?_)
      refine i_istore C dX12_worked_37 hl4 (L' := [(0, aR 0), (1, aI y1), (2, aI u2), (3, aI u3), (4, aI v7)]) rfl ?_
      refine i_aload_n C dX12_worked_39 rfl (q := 0) rfl ?_
      refine i_getR C (k := 0) kX12 dX12_worked_40 (shR_0 hX) rfl (by decide) fl_X12_7 ?_
      refine i_aload_n C dX12_worked_43 rfl (q := 0) rfl ?_
      refine i_iload_n C dX12_worked_44 rfl (q := 1) rfl ?_
      refine i_cI (kc' := 0) (ks' := 0) 0 0 2 (fun q hq hM hS => crV C (as := [aI y1]) dX12_worked_45.1 kX12 (shR_0 hX) ml_X12_305 cal_X12_textAt cv_X12_textAt (hRm ⟨Nat.le_of_ble_eq_true rfl, Nat.le_of_ble_eq_true rfl⟩) rfl (Nat.le_of_ble_eq_true rfl) (c_X12_textAt (xl X) (xG X) hX hM ⟨hS.2.1, hS.1, trivial⟩ hq)) (Nat.le_of_ble_eq_true rfl) (Nat.le_of_ble_eq_true rfl) rfl rfl rfl (fun v9 M8 => ?_)
      refine i_bipush C dX12_worked_48 kB_6 ?_
      refine i_iadd C dX12_worked_50 ?_
      refine i_iconst C dX12_worked_51 kI_2 ?_
      refine i_iload_n C dX12_worked_52 rfl (q := 3) rfl ?_
      refine i_imul C dX12_worked_53 ?_
      refine i_iadd C dX12_worked_54 ?_
      refine i_iconst C dX12_worked_55 kI_1 ?_
      refine i_iadd C dX12_worked_56 ?_
      refine i_ald C dX12_worked_57 (shR_1 hX) (fun v10 => ?_)
      refine i_istore C dX12_worked_58 hl5 (L' := [(0, aR 0), (1, aI y1), (2, aI u2), (3, aI u3), (4, aI v7), (5, aI v10)]) rfl ?_
      refine i_iload C dX12_worked_60 (q := 4) rfl ?_
      refine i_iconst C dX12_worked_62 kI_2 ?_
      refine i_jn (fun j => ∀ (p11 : Int) (M13 : Mem), Im X 0 0 159 [(0, aR 0), (1, aI y1), (2, aI p11), (3, aI u3)] [] M13 res (j p11 M13)) ?_ (fun j12 hj12 => ?_)
      · intro p11 M13
        refine i_iincN (L' := fun v14 => [(0, aR 0), (1, aI y1), (2, aI p11), (3, aI v14)]) C dX12_worked_159 (q := 3) rfl hl3 (fun _ => rfl) (fun v14 => ?_)
        refine i_goto (tgt := 4) C dX12_worked_162 (by decide) ?_
        exact (ih p11 v14 M13)
      refine i_icmp_eq (tgt := 95) C dX12_worked_63 (by decide) ?_ ?_
      · refine i_iload C dX12_worked_95 (q := 5) rfl ?_
        refine i_bipush C dX12_worked_97 kB_33 ?_
        refine i_icmp_ne (tgt := 129) C dX12_worked_99 (by decide) ?_ ?_
        · refine i_iincN (L' := fun v15 => [(0, aR 0), (1, aI y1), (2, aI v15), (3, aI u3), (4, aI v7), (5, aI v10)]) C dX12_worked_129 (q := 2) rfl hl2 (fun _ => rfl) (fun v15 => ?_)
          refine i_aload_n C dX12_worked_132 rfl (q := 0) rfl ?_
          refine i_getR C (k := 22) kX12 dX12_worked_133 (shR_0 hX) rfl (by decide) fl_X12_41 ?_
          refine i_iload_n C dX12_worked_136 rfl (q := 2) rfl ?_
          refine i_iconst C dX12_worked_137 kI_1 ?_
          refine i_isub C dX12_worked_138 ?_
          refine i_iload C dX12_worked_139 (q := 5) rfl ?_
          refine i_aload_n C dX12_worked_141 rfl (q := 0) rfl ?_
          refine i_getR C (k := 22) kX12 dX12_worked_142 (shR_0 hX) rfl (by decide) fl_X12_41 ?_
          refine i_iload_n C dX12_worked_145 rfl (q := 2) rfl ?_
          refine i_iconst C dX12_worked_146 kI_1 ?_
          refine i_isub C dX12_worked_147 ?_
          refine i_ald C dX12_worked_148 (shR_10 hX) (fun v16 => ?_)
          refine i_aload_n C dX12_worked_149 rfl (q := 0) rfl ?_
          refine i_getR C (k := 22) kX12 dX12_worked_150 (shR_0 hX) rfl (by decide) fl_X12_41 ?_
          refine i_iload_n C dX12_worked_153 rfl (q := 2) rfl ?_
          refine i_ald C dX12_worked_154 (shR_10 hX) (fun v17 => ?_)
          refine i_cI (kc' := 0) (ks' := 0) 0 0 3 (fun q hq hM hS => crS C (as := [aI v10, aI v16, aI v17]) dX12_worked_155.1 ml_X12_324 cal_X12_joined st_X12_joined (hRm ⟨Nat.le_of_ble_eq_true rfl, Nat.le_of_ble_eq_true rfl⟩) rfl (Nat.le_of_ble_eq_true rfl) (c_X12_joined (xl X) (xG X) hX hM ⟨hS.2.2.1, hS.2.1, hS.1, trivial⟩ hq)) (Nat.le_of_ble_eq_true rfl) (Nat.le_of_ble_eq_true rfl) rfl rfl rfl (fun v19 M18 => ?_)
          refine i_ast C dX12_worked_158 (shR_10 hX) (fun M20 => ?_)
          exact i_sub [0, 1, 2, 3] rfl (hj12 v15 M20)
        · refine i_aload_n C dX12_worked_102 rfl (q := 0) rfl ?_
          refine i_getR C (k := 22) kX12 dX12_worked_103 (shR_0 hX) rfl (by decide) fl_X12_41 ?_
          refine i_iload_n C dX12_worked_106 rfl (q := 2) rfl ?_
          refine i_iconst C dX12_worked_107 kI_1 ?_
          refine i_isub C dX12_worked_108 ?_
          refine i_aload_n C dX12_worked_109 rfl (q := 0) rfl ?_
          refine i_getR C (k := 22) kX12 dX12_worked_110 (shR_0 hX) rfl (by decide) fl_X12_41 ?_
          refine i_iload_n C dX12_worked_113 rfl (q := 2) rfl ?_
          refine i_iconst C dX12_worked_114 kI_1 ?_
          refine i_isub C dX12_worked_115 ?_
          refine i_ald C dX12_worked_116 (shR_10 hX) (fun v21 => ?_)
          refine i_jn (fun j => ∀ (p22 : Int) (M24 : Mem), Im X 0 0 125 [(0, aR 0), (1, aI y1), (2, aI u2), (3, aI u3)] [aI p22, aI (w32 (u2 - 1)), aR 10] M24 res (j p22 M24)) ?_ (fun j23 hj23 => ?_)
          · intro p22 M24
            refine i_ast C dX12_worked_125 (shR_10 hX) (fun M25 => ?_)
            refine i_goto (tgt := 159) C dX12_worked_126 (by decide) ?_
            exact (hj12 u2 M25)
          refine i_if_ne (tgt := 124) C dX12_worked_117 (by decide) ?_ ?_
          · refine i_iconst C dX12_worked_124 kI_0 ?_
            exact i_sub [0, 1, 2, 3] rfl (hj23 0 M8)
          · refine i_iconst C dX12_worked_120 kI_1 ?_
            refine i_goto (tgt := 125) C dX12_worked_121 (by decide) ?_
            exact i_sub [0, 1, 2, 3] rfl (hj23 1 M8)
      · refine i_aload_n C dX12_worked_66 rfl (q := 0) rfl ?_
        refine i_getR C (k := 22) kX12 dX12_worked_67 (shR_0 hX) rfl (by decide) fl_X12_41 ?_
        refine i_iload_n C dX12_worked_70 rfl (q := 2) rfl ?_
        refine i_iload C dX12_worked_71 (q := 4) rfl ?_
        refine i_jn (fun j => ∀ (p26 : Int) (M28 : Mem), Im X 0 0 88 [(0, aR 0), (1, aI y1), (2, aI u2), (3, aI u3)] [aI p26, aI u2, aR 10] M28 res (j p26 M28)) ?_ (fun j27 hj27 => ?_)
        · intro p26 M28
          refine i_ast C dX12_worked_88 (shR_10 hX) (fun M29 => ?_)
          refine i_iincN (L' := fun v30 => [(0, aR 0), (1, aI y1), (2, aI v30), (3, aI u3)]) C dX12_worked_89 (q := 2) rfl hl2 (fun _ => rfl) (fun v30 => ?_)
          refine i_goto (tgt := 159) C dX12_worked_92 (by decide) ?_
          exact (hj12 v30 M29)
        refine i_if_ne (tgt := 81) C dX12_worked_73 (by decide) ?_ ?_
        · refine i_aload_n C dX12_worked_81 rfl (q := 0) rfl ?_
          refine i_getR C (k := 21) kX12 dX12_worked_82 (shR_0 hX) rfl (by decide) fl_X12_38 ?_
          refine i_iload C dX12_worked_85 (q := 5) rfl ?_
          refine i_ald C dX12_worked_87 (shR_9 hX) (fun v31 => ?_)
          exact i_sub [0, 1, 2, 3] rfl (hj27 v31 M8)
        · refine i_iload C dX12_worked_76 (q := 5) rfl ?_
          refine i_goto (tgt := 88) C dX12_worked_78 (by decide) ?_
          exact i_sub [0, 1, 2, 3] rfl (hj27 v10 M8)
set_option maxRecDepth 100000 in
set_option maxHeartbeats 4000000 in
theorem c_X12_worked (l : Launch) (G : Gx) {K : Kx} (hK : K = kR) {x1 : Int} {M : Mem} {res : Int × Mem} (hM : OkM M) (ha : okS [aR 0, aI x1]) (hF : rM_worked x1 M = some res) : Ct l G K yX12_worked (wsM yX12_worked cX12_worked 6 (some .int)) rmX12_worked [aR 0, aI x1] M (some (aI res.1)) res.2 := by
  refine ct_of RX12 (by decide +kernel) rfl (hK ▸ kR_ok) hM ha (Nat.le_of_ble_eq_true rfl) hF ?_
  intro X C hl hG hX0 hN hR hq
  have hX : xK X = kR := hX0.trans hK
  show Im X 0 0 0 [(0, aR 0), (1, aI x1)] [] M res (rM_worked x1 M)
  unfold rM_worked
  have hl2 : 2 < xn X := by rw [hN]; decide
  have hl3 : 3 < xn X := by rw [hN]; decide
  have hl4 : 4 < xn X := by rw [hN]; decide
  have hl5 : 5 < xn X := by rw [hN]; decide
  have hRm : ∀ {rm : Room} {ny : Nat}, RmOk rmX12_worked rm ny → RmOk (xR X) rm ny := fun h => by rw [hR]; exact h
  refine i_iconst C dX12_worked_0 kI_0 ?_
  refine i_istore_n C dX12_worked_1 rfl hl2 (L' := [(0, aR 0), (1, aI x1), (2, aI 0)]) rfl ?_
  refine i_iconst C dX12_worked_2 kI_0 ?_
  refine i_istore_n C dX12_worked_3 rfl hl3 (L' := [(0, aR 0), (1, aI x1), (2, aI 0), (3, aI 0)]) rfl ?_
  exact (w_X12_worked_4 C hX hN hR hq x1 FU 0 0 M)
set_option maxRecDepth 100000 in
set_option maxHeartbeats 4000000 in
theorem c_X12_letsVisit (l : Launch) (G : Gx) {K : Kx} (hK : K = kR) {x1 : Int} {x2 : Int} {x3 : Int} {M : Mem} {res : Int × Mem} (hM : OkM M) (ha : okS [aR 0, aI x1, aI x2, aI x3]) (hF : rM_letsVisit x1 x2 x3 M = some res) : Ct l G K yX12_letsVisit (wsM yX12_letsVisit cX12_letsVisit 5 (some .boolean)) rmX12_letsVisit [aR 0, aI x1, aI x2, aI x3] M (some (aI res.1)) res.2 := by
  refine ct_of RX12 (by decide +kernel) rfl (hK ▸ kR_ok) hM ha (Nat.le_of_ble_eq_true rfl) hF ?_
  intro X C hl hG hX0 hN hR hq
  have hX : xK X = kR := hX0.trans hK
  show Im X 0 0 0 [(0, aR 0), (1, aI x1), (2, aI x2), (3, aI x3)] [] M res (rM_letsVisit x1 x2 x3 M)
  unfold rM_letsVisit
  have hl4 : 4 < xn X := by rw [hN]; decide
  have hRm : ∀ {rm : Room} {ny : Nat}, RmOk rmX12_letsVisit rm ny → RmOk (xR X) rm ny := fun h => by rw [hR]; exact h
  refine i_aload_n C dX12_letsVisit_0 rfl (q := 0) rfl ?_
  refine i_iload_n C dX12_letsVisit_1 rfl (q := 1) rfl ?_
  refine i_iconst C dX12_letsVisit_2 kI_0 ?_
  refine i_cI (kc' := 0) (ks' := 0) 0 0 3 (fun q hq hM hS => crV C (as := [aI x1, aI 0]) dX12_letsVisit_3.1 kX12 (shR_0 hX) ml_X12_321 cal_X12_countsFor cv_X12_countsFor (hRm ⟨Nat.le_of_ble_eq_true rfl, Nat.le_of_ble_eq_true rfl⟩) rfl (Nat.le_of_ble_eq_true rfl) (c_X12_countsFor (xl X) (xG X) hX hM ⟨hS.2.2.1, hS.2.1, hS.1, trivial⟩ hq)) (Nat.le_of_ble_eq_true rfl) (Nat.le_of_ble_eq_true rfl) rfl rfl rfl (fun v2 M1 => ?_)
  refine i_istore C dX12_letsVisit_6 hl4 (L' := [(0, aR 0), (1, aI x1), (2, aI x2), (3, aI x3), (4, aI v2)]) rfl ?_
  refine i_aload_n C dX12_letsVisit_8 rfl (q := 0) rfl ?_
  refine i_getR C (k := 21) kX12 dX12_letsVisit_9 (shR_0 hX) rfl (by decide) fl_X12_38 ?_
  refine i_bipush C dX12_letsVisit_12 kB_97 ?_
  refine i_aload_n C dX12_letsVisit_14 rfl (q := 0) rfl ?_
  refine i_getR C (k := 0) kX12 dX12_letsVisit_15 (shR_0 hX) rfl (by decide) fl_X12_7 ?_
  refine i_aload_n C dX12_letsVisit_18 rfl (q := 0) rfl ?_
  refine i_iload_n C dX12_letsVisit_19 rfl (q := 2) rfl ?_
  refine i_cI (kc' := 0) (ks' := 0) 0 0 2 (fun q hq hM hS => crV C (as := [aI x2]) dX12_letsVisit_20.1 kX12 (shR_0 hX) ml_X12_93 cal_X12_personAt cv_X12_personAt (hRm ⟨Nat.le_of_ble_eq_true rfl, Nat.le_of_ble_eq_true rfl⟩) rfl (Nat.le_of_ble_eq_true rfl) (c_X12_personAt (xl X) (xG X) hX hM ⟨hS.2.1, hS.1, trivial⟩ hq)) (Nat.le_of_ble_eq_true rfl) (Nat.le_of_ble_eq_true rfl) rfl rfl rfl (fun v4 M3 => ?_)
  refine i_iconst C dX12_letsVisit_23 kI_1 ?_
  refine i_iadd C dX12_letsVisit_24 ?_
  refine i_ald C dX12_letsVisit_25 (shR_1 hX) (fun v5 => ?_)
  refine i_ast C dX12_letsVisit_26 (shR_9 hX) (fun M6 => ?_)
  refine i_aload_n C dX12_letsVisit_27 rfl (q := 0) rfl ?_
  refine i_getR C (k := 21) kX12 dX12_letsVisit_28 (shR_0 hX) rfl (by decide) fl_X12_38 ?_
  refine i_bipush C dX12_letsVisit_31 kB_112 ?_
  refine i_aload_n C dX12_letsVisit_33 rfl (q := 0) rfl ?_
  refine i_getR C (k := 0) kX12 dX12_letsVisit_34 (shR_0 hX) rfl (by decide) fl_X12_7 ?_
  refine i_aload_n C dX12_letsVisit_37 rfl (q := 0) rfl ?_
  refine i_iload_n C dX12_letsVisit_38 rfl (q := 2) rfl ?_
  refine i_cI (kc' := 0) (ks' := 0) 0 0 2 (fun q hq hM hS => crV C (as := [aI x2]) dX12_letsVisit_39.1 kX12 (shR_0 hX) ml_X12_93 cal_X12_personAt cv_X12_personAt (hRm ⟨Nat.le_of_ble_eq_true rfl, Nat.le_of_ble_eq_true rfl⟩) rfl (Nat.le_of_ble_eq_true rfl) (c_X12_personAt (xl X) (xG X) hX hM ⟨hS.2.1, hS.1, trivial⟩ hq)) (Nat.le_of_ble_eq_true rfl) (Nat.le_of_ble_eq_true rfl) rfl rfl rfl (fun v8 M7 => ?_)
  refine i_iconst C dX12_letsVisit_42 kI_2 ?_
  refine i_iadd C dX12_letsVisit_43 ?_
  refine i_ald C dX12_letsVisit_44 (shR_1 hX) (fun v9 => ?_)
  refine i_ast C dX12_letsVisit_45 (shR_9 hX) (fun M10 => ?_)
  refine i_aload_n C dX12_letsVisit_46 rfl (q := 0) rfl ?_
  refine i_getR C (k := 21) kX12 dX12_letsVisit_47 (shR_0 hX) rfl (by decide) fl_X12_38 ?_
  refine i_bipush C dX12_letsVisit_50 kB_107 ?_
  refine i_aload_n C dX12_letsVisit_52 rfl (q := 0) rfl ?_
  refine i_iload_n C dX12_letsVisit_53 rfl (q := 2) rfl ?_
  refine i_iload_n C dX12_letsVisit_54 rfl (q := 3) rfl ?_
  refine i_cI (kc' := 0) (ks' := 0) 0 0 3 (fun q hq hM hS => crV C (as := [aI x2, aI x3]) dX12_letsVisit_55.1 kX12 (shR_0 hX) ml_X12_170 cal_X12_kinOf cv_X12_kinOf (hRm ⟨Nat.le_of_ble_eq_true rfl, Nat.le_of_ble_eq_true rfl⟩) rfl (Nat.le_of_ble_eq_true rfl) (c_X12_kinOf (xl X) (xG X) hX hM ⟨hS.2.2.1, hS.2.1, hS.1, trivial⟩ hq)) (Nat.le_of_ble_eq_true rfl) (Nat.le_of_ble_eq_true rfl) rfl rfl rfl (fun v12 M11 => ?_)
  refine i_ast C dX12_letsVisit_58 (shR_9 hX) (fun M13 => ?_)
  refine i_aload_n C dX12_letsVisit_59 rfl (q := 0) rfl ?_
  refine i_getR C (k := 21) kX12 dX12_letsVisit_60 (shR_0 hX) rfl (by decide) fl_X12_38 ?_
  refine i_bipush C dX12_letsVisit_63 kB_100 ?_
  refine i_aload_n C dX12_letsVisit_65 rfl (q := 0) rfl ?_
  refine i_cI (kc' := 0) (ks' := 0) 0 0 1 (fun q hq hM hS => crV C (as := []) dX12_letsVisit_66.1 kX12 (shR_0 hX) ml_X12_180 cal_X12_day cv_X12_day (hRm ⟨Nat.le_of_ble_eq_true rfl, Nat.le_of_ble_eq_true rfl⟩) rfl (Nat.le_of_ble_eq_true rfl) (c_X12_day (xl X) (xG X) hX hM ⟨hS.1, trivial⟩ hq)) (Nat.le_of_ble_eq_true rfl) (Nat.le_of_ble_eq_true rfl) rfl rfl rfl (fun v15 M14 => ?_)
  refine i_bipush C dX12_letsVisit_69 kB_7 ?_
  refine i_irem C dX12_letsVisit_71 (by decide) ?_
  refine i_ast C dX12_letsVisit_72 (shR_9 hX) (fun M16 => ?_)
  refine i_iload C dX12_letsVisit_73 (q := 4) rfl ?_
  refine i_if_lt (tgt := 91) C dX12_letsVisit_75 (by decide) ?_ ?_
  · refine i_iconst C dX12_letsVisit_91 kI_0 ?_
    exact i_zret C hq dX12_letsVisit_92 (Or.inl rfl)
  · refine i_aload_n C dX12_letsVisit_78 rfl (q := 0) rfl ?_
    refine i_iload C dX12_letsVisit_79 (q := 4) rfl ?_
    refine i_cI (kc' := 0) (ks' := 0) 0 0 2 (fun q hq hM hS => crV C (as := [aI v2]) dX12_letsVisit_81.1 kX12 (shR_0 hX) ml_X12_328 cal_X12_worked cv_X12_worked (hRm ⟨Nat.le_of_ble_eq_true rfl, Nat.le_of_ble_eq_true rfl⟩) rfl (Nat.le_of_ble_eq_true rfl) (c_X12_worked (xl X) (xG X) hX hM ⟨hS.2.1, hS.1, trivial⟩ hq)) (Nat.le_of_ble_eq_true rfl) (Nat.le_of_ble_eq_true rfl) rfl rfl rfl (fun v18 M17 => ?_)
    refine i_if_eq (tgt := 91) C dX12_letsVisit_84 (by decide) ?_ ?_
    · refine i_iconst C dX12_letsVisit_91 kI_0 ?_
      exact i_zret C hq dX12_letsVisit_92 (Or.inl rfl)
    · refine i_iconst C dX12_letsVisit_87 kI_1 ?_
      refine i_goto (tgt := 92) C dX12_letsVisit_88 (by decide) ?_
      exact i_zret C hq dX12_letsVisit_92 (Or.inr rfl)
set_option maxRecDepth 100000 in
set_option maxHeartbeats 4000000 in
theorem w_X12_mayCross_48 {X : Xc} (C : Cx X RX12 cX12_mayCross (some .boolean)) (hX : xK X = kR) (hN : xn X = 8) (hR : xR X = rmX12_mayCross) {res : Int × Mem} (hq : Rq X (some (aI res.1)) res.2) (y1 : Int) (y3 : Int) (y5 : Int) : ∀ (n : Nat) (u4 : Int) (u6 : Int) (M : Mem), Im X 0 0 48 [(0, aR 0), (1, aI y1), (3, aI y3), (4, aI u4), (5, aI y5), (6, aI u6)] [] M res (lpX12_mayCross_48 y1 y3 y5 n u4 u6 M) := by
  have hl3 : 3 < xn X := by rw [hN]; decide
  have hl4 : 4 < xn X := by rw [hN]; decide
  have hl5 : 5 < xn X := by rw [hN]; decide
  have hl6 : 6 < xn X := by rw [hN]; decide
  have hl7 : 7 < xn X := by rw [hN]; decide
  have hRm : ∀ {rm : Room} {ny : Nat}, RmOk rmX12_mayCross rm ny → RmOk (xR X) rm ny := fun h => by rw [hR]; exact h
  intro n
  induction n with
  | zero => intro _ _ _; exact i_none
  | succ n ih =>
    intro u4 u6 M
    unfold lpX12_mayCross_48
    refine i_iload C dX12_mayCross_48 (q := 5) rfl ?_
    refine i_aload_n C dX12_mayCross_50 rfl (q := 0) rfl ?_
    refine i_getR C (k := 0) kX12 dX12_mayCross_51 (shR_0 hX) rfl (by decide) fl_X12_7 ?_
    refine i_iconst C dX12_mayCross_54 kI_3 ?_
    refine i_ald C dX12_mayCross_55 (shR_1 hX) (fun v12 => ?_)
    refine i_icmp_ge (tgt := 177) C dX12_mayCross_56 (by decide) ?_ ?_
    · refine i_iload C dX12_mayCross_177 (q := 3) rfl ?_
      exact i_zretQ C hq dX12_mayCross_179
    · refine i_aload_n C dX12_mayCross_59 rfl (q := 0) rfl ?_
      refine i_iload C dX12_mayCross_60 (q := 5) rfl ?_
      refine i_cI (kc' := 0) (ks' := 0) 0 0 2 (fun q hq hM hS => crV C (as := [aI u6]) dX12_mayCross_62.1 kX12 (shR_0 hX) ml_X12_86 cal_X12_tieAt cv_X12_tieAt (hRm ⟨Nat.le_of_ble_eq_true rfl, Nat.le_of_ble_eq_true rfl⟩) rfl (Nat.le_of_ble_eq_true rfl) (c_X12_tieAt (xl X) (xG X) hX hM ⟨hS.2.1, hS.1, trivial⟩ hq)) (Nat.le_of_ble_eq_true rfl) (Nat.le_of_ble_eq_true rfl) rfl rfl rfl (fun v14 M13 => ?_)
      refine i_istore C dX12_mayCross_65 hl7 (L' := [(0, aR 0), (1, aI y1), (3, aI y3), (4, aI u4), (5, aI y5), (6, aI u6), (7, aI v14)]) rfl ?_
      refine i_aload_n C dX12_mayCross_67 rfl (q := 0) rfl ?_
      refine i_getR C (k := 0) kX12 dX12_mayCross_68 (shR_0 hX) rfl (by decide) fl_X12_7 ?_
      refine i_iload C dX12_mayCross_71 (q := 6) rfl ?_
      refine i_ald C dX12_mayCross_73 (shR_1 hX) (fun v15 => ?_)
      refine i_bipush C dX12_mayCross_74 kB_7 ?_
      refine i_jn (fun j => ∀ (p16 : Int) (M18 : Mem), Im X 0 0 171 [(0, aR 0), (1, aI y1), (3, aI y3), (4, aI p16), (5, aI y5), (6, aI u6)] [] M18 res (j p16 M18)) ?_ (fun j17 hj17 => ?_)
      · intro p16 M18
        refine i_iincN (L' := fun v19 => [(0, aR 0), (1, aI y1), (3, aI y3), (4, aI p16), (5, aI y5), (6, aI v19)]) C dX12_mayCross_171 (q := 5) rfl hl6 (fun _ => rfl) (fun v19 => ?_)
        refine i_goto (tgt := 48) C dX12_mayCross_174 (by decide) ?_
        exact (ih p16 v19 M18)
      refine i_icmp_ne (tgt := 171) C dX12_mayCross_76 (by decide) ?_ ?_
      · exact i_sub [0, 1, 2, 3, 4, 5] rfl (hj17 u4 M13)
      · refine i_aload_n C dX12_mayCross_79 rfl (q := 0) rfl ?_
        refine i_getR C (k := 0) kX12 dX12_mayCross_80 (shR_0 hX) rfl (by decide) fl_X12_7 ?_
        refine i_iload C dX12_mayCross_83 (q := 6) rfl ?_
        refine i_bipush C dX12_mayCross_85 kB_8 ?_
        refine i_iadd C dX12_mayCross_87 ?_
        refine i_ald C dX12_mayCross_88 (shR_1 hX) (fun v20 => ?_)
        refine i_iload_n C dX12_mayCross_89 rfl (q := 1) rfl ?_
        refine i_icmp_ne (tgt := 171) C dX12_mayCross_90 (by decide) ?_ ?_
        · exact i_sub [0, 1, 2, 3, 4, 5] rfl (hj17 u4 M13)
        · refine i_aload_n C dX12_mayCross_93 rfl (q := 0) rfl ?_
          refine i_getR C (k := 21) kX12 dX12_mayCross_94 (shR_0 hX) rfl (by decide) fl_X12_38 ?_
          refine i_bipush C dX12_mayCross_97 kB_119 ?_
          refine i_aload_n C dX12_mayCross_99 rfl (q := 0) rfl ?_
          refine i_getR C (k := 0) kX12 dX12_mayCross_100 (shR_0 hX) rfl (by decide) fl_X12_7 ?_
          refine i_iload C dX12_mayCross_103 (q := 6) rfl ?_
          refine i_iconst C dX12_mayCross_105 kI_3 ?_
          refine i_iadd C dX12_mayCross_106 ?_
          refine i_ald C dX12_mayCross_107 (shR_1 hX) (fun v21 => ?_)
          refine i_ast C dX12_mayCross_108 (shR_9 hX) (fun M22 => ?_)
          refine i_aload_n C dX12_mayCross_109 rfl (q := 0) rfl ?_
          refine i_getR C (k := 21) kX12 dX12_mayCross_110 (shR_0 hX) rfl (by decide) fl_X12_38 ?_
          refine i_bipush C dX12_mayCross_113 kB_120 ?_
          refine i_aload_n C dX12_mayCross_115 rfl (q := 0) rfl ?_
          refine i_getR C (k := 0) kX12 dX12_mayCross_116 (shR_0 hX) rfl (by decide) fl_X12_7 ?_
          refine i_iload C dX12_mayCross_119 (q := 6) rfl ?_
          refine i_bipush C dX12_mayCross_121 kB_7 ?_
          refine i_iadd C dX12_mayCross_123 ?_
          refine i_ald C dX12_mayCross_124 (shR_1 hX) (fun v23 => ?_)
          refine i_ast C dX12_mayCross_125 (shR_9 hX) (fun M24 => ?_)
          refine i_aload_n C dX12_mayCross_126 rfl (q := 0) rfl ?_
          refine i_getR C (k := 21) kX12 dX12_mayCross_127 (shR_0 hX) rfl (by decide) fl_X12_38 ?_
          refine i_bipush C dX12_mayCross_130 kB_97 ?_
          refine i_aload_n C dX12_mayCross_132 rfl (q := 0) rfl ?_
          refine i_getR C (k := 0) kX12 dX12_mayCross_133 (shR_0 hX) rfl (by decide) fl_X12_7 ?_
          refine i_aload_n C dX12_mayCross_136 rfl (q := 0) rfl ?_
          refine i_iload_n C dX12_mayCross_137 rfl (q := 2) rfl ?_
          refine i_cI (kc' := 0) (ks' := 0) 0 0 2 (fun q hq hM hS => crV C (as := [aI y3]) dX12_mayCross_138.1 kX12 (shR_0 hX) ml_X12_93 cal_X12_personAt cv_X12_personAt (hRm ⟨Nat.le_of_ble_eq_true rfl, Nat.le_of_ble_eq_true rfl⟩) rfl (Nat.le_of_ble_eq_true rfl) (c_X12_personAt (xl X) (xG X) hX hM ⟨hS.2.1, hS.1, trivial⟩ hq)) (Nat.le_of_ble_eq_true rfl) (Nat.le_of_ble_eq_true rfl) rfl rfl rfl (fun v26 M25 => ?_)
          refine i_iconst C dX12_mayCross_141 kI_1 ?_
          refine i_iadd C dX12_mayCross_142 ?_
          refine i_ald C dX12_mayCross_143 (shR_1 hX) (fun v27 => ?_)
          refine i_ast C dX12_mayCross_144 (shR_9 hX) (fun M28 => ?_)
          refine i_iload C dX12_mayCross_145 (q := 3) rfl ?_
          refine i_jn (fun j => ∀ (p29 : Int) (M31 : Mem), Im X 0 0 169 [(0, aR 0), (1, aI y1), (3, aI y3), (5, aI y5), (6, aI u6)] [aI p29] M31 res (j p29 M31)) ?_ (fun j30 hj30 => ?_)
          · intro p29 M31
            refine i_istore C dX12_mayCross_169 hl4 (L' := [(0, aR 0), (1, aI y1), (3, aI y3), (4, aI p29), (5, aI y5), (6, aI u6)]) rfl ?_
            exact (hj17 p29 M31)
          refine i_jn (fun j => ∀  (M33 : Mem), Im X 0 0 168 [(0, aR 0), (1, aI y1), (3, aI y3), (5, aI y5), (6, aI u6)] [] M33 res (j  M33)) ?_ (fun j32 hj32 => ?_)
          · intro  M33
            refine i_iconst C dX12_mayCross_168 kI_0 ?_
            exact (hj30 0 M33)
          refine i_if_eq (tgt := 168) C dX12_mayCross_147 (by decide) ?_ ?_
          · exact i_sub [0, 1, 2, 4, 5] rfl (hj32  M28)
          · refine i_iload C dX12_mayCross_150 (q := 4) rfl ?_
            refine i_if_lt (tgt := 168) C dX12_mayCross_152 (by decide) ?_ ?_
            · exact i_sub [0, 1, 2, 4, 5] rfl (hj32  M28)
            · refine i_aload_n C dX12_mayCross_155 rfl (q := 0) rfl ?_
              refine i_iload C dX12_mayCross_156 (q := 4) rfl ?_
              refine i_cI (kc' := 0) (ks' := 0) 0 0 2 (fun q hq hM hS => crV C (as := [aI y5]) dX12_mayCross_158.1 kX12 (shR_0 hX) ml_X12_328 cal_X12_worked cv_X12_worked (hRm ⟨Nat.le_of_ble_eq_true rfl, Nat.le_of_ble_eq_true rfl⟩) rfl (Nat.le_of_ble_eq_true rfl) (c_X12_worked (xl X) (xG X) hX hM ⟨hS.2.1, hS.1, trivial⟩ hq)) (Nat.le_of_ble_eq_true rfl) (Nat.le_of_ble_eq_true rfl) rfl rfl rfl (fun v35 M34 => ?_)
              refine i_if_eq (tgt := 168) C dX12_mayCross_161 (by decide) ?_ ?_
              · exact i_sub [0, 1, 2, 4, 5] rfl (hj32  M34)
              · refine i_iconst C dX12_mayCross_164 kI_1 ?_
                refine i_goto (tgt := 169) C dX12_mayCross_165 (by decide) ?_
                exact i_sub [0, 1, 2, 4, 5] rfl (hj30 1 M34)
set_option maxRecDepth 100000 in
set_option maxHeartbeats 4000000 in
theorem c_X12_mayCross (l : Launch) (G : Gx) {K : Kx} (hK : K = kR) {x1 : Int} {x2 : Int} {M : Mem} {res : Int × Mem} (hM : OkM M) (ha : okS [aR 0, aI x1, aI x2]) (hF : rM_mayCross x1 x2 M = some res) : Ct l G K yX12_mayCross (wsM yX12_mayCross cX12_mayCross 8 (some .boolean)) rmX12_mayCross [aR 0, aI x1, aI x2] M (some (aI res.1)) res.2 := by
  refine ct_of RX12 (by decide +kernel) rfl (hK ▸ kR_ok) hM ha (Nat.le_of_ble_eq_true rfl) hF ?_
  intro X C hl hG hX0 hN hR hq
  have hX : xK X = kR := hX0.trans hK
  show Im X 0 0 0 [(0, aR 0), (1, aI x1), (2, aI x2)] [] M res (rM_mayCross x1 x2 M)
  unfold rM_mayCross
  have hl3 : 3 < xn X := by rw [hN]; decide
  have hl4 : 4 < xn X := by rw [hN]; decide
  have hl5 : 5 < xn X := by rw [hN]; decide
  have hl6 : 6 < xn X := by rw [hN]; decide
  have hl7 : 7 < xn X := by rw [hN]; decide
  have hRm : ∀ {rm : Room} {ny : Nat}, RmOk rmX12_mayCross rm ny → RmOk (xR X) rm ny := fun h => by rw [hR]; exact h
  refine i_aload_n C dX12_mayCross_0 rfl (q := 0) rfl ?_
  refine i_cV (kc' := 0) (ks' := 0) 0 0 1 (fun q hq hM hS => crV C (as := []) dX12_mayCross_1.1 kX12 (shR_0 hX) ml_X12_167 cal_X12_findKin cv_X12_findKin (hRm ⟨Nat.le_of_ble_eq_true rfl, Nat.le_of_ble_eq_true rfl⟩) rfl (Nat.le_of_ble_eq_true rfl) (c_X12_findKin (xl X) (xG X) hX hM ⟨hS.1, trivial⟩ hq)) (Nat.le_of_ble_eq_true rfl) (Nat.le_of_ble_eq_true rfl) rfl rfl rfl (fun M1 => ?_)
  refine i_aload_n C dX12_mayCross_4 rfl (q := 0) rfl ?_
  refine i_getR C (k := 0) kX12 dX12_mayCross_5 (shR_0 hX) rfl (by decide) fl_X12_7 ?_
  refine i_aload_n C dX12_mayCross_8 rfl (q := 0) rfl ?_
  refine i_iload_n C dX12_mayCross_9 rfl (q := 1) rfl ?_
  refine i_cI (kc' := 0) (ks' := 0) 0 0 2 (fun q hq hM hS => crV C (as := [aI x1]) dX12_mayCross_10.1 kX12 (shR_0 hX) ml_X12_86 cal_X12_tieAt cv_X12_tieAt (hRm ⟨Nat.le_of_ble_eq_true rfl, Nat.le_of_ble_eq_true rfl⟩) rfl (Nat.le_of_ble_eq_true rfl) (c_X12_tieAt (xl X) (xG X) hX hM ⟨hS.2.1, hS.1, trivial⟩ hq)) (Nat.le_of_ble_eq_true rfl) (Nat.le_of_ble_eq_true rfl) rfl rfl rfl (fun v3 M2 => ?_)
  refine i_iconst C dX12_mayCross_13 kI_1 ?_
  refine i_iadd C dX12_mayCross_14 ?_
  refine i_ald C dX12_mayCross_15 (shR_1 hX) (fun v4 => ?_)
  refine i_istore_n C dX12_mayCross_16 rfl hl3 (L' := [(0, aR 0), (1, aI x1), (2, aI x2), (3, aI v4)]) rfl ?_
  refine i_aload_n C dX12_mayCross_17 rfl (q := 0) rfl ?_
  refine i_iload_n C dX12_mayCross_18 rfl (q := 2) rfl ?_
  refine i_iload_n C dX12_mayCross_19 rfl (q := 3) rfl ?_
  refine i_aload_n C dX12_mayCross_20 rfl (q := 0) rfl ?_
  refine i_getR C (k := 0) kX12 dX12_mayCross_21 (shR_0 hX) rfl (by decide) fl_X12_7 ?_
  refine i_aload_n C dX12_mayCross_24 rfl (q := 0) rfl ?_
  refine i_iload_n C dX12_mayCross_25 rfl (q := 1) rfl ?_
  refine i_cI (kc' := 0) (ks' := 0) 0 0 2 (fun q hq hM hS => crV C (as := [aI x1]) dX12_mayCross_26.1 kX12 (shR_0 hX) ml_X12_86 cal_X12_tieAt cv_X12_tieAt (hRm ⟨Nat.le_of_ble_eq_true rfl, Nat.le_of_ble_eq_true rfl⟩) rfl (Nat.le_of_ble_eq_true rfl) (c_X12_tieAt (xl X) (xG X) hX hM ⟨hS.2.1, hS.1, trivial⟩ hq)) (Nat.le_of_ble_eq_true rfl) (Nat.le_of_ble_eq_true rfl) rfl rfl rfl (fun v6 M5 => ?_)
  refine i_iconst C dX12_mayCross_29 kI_2 ?_
  refine i_iadd C dX12_mayCross_30 ?_
  refine i_ald C dX12_mayCross_31 (shR_1 hX) (fun v7 => ?_)
  refine i_cI (kc' := 0) (ks' := 0) 0 0 4 (fun q hq hM hS => crV C (as := [aI x2, aI v4, aI v7]) dX12_mayCross_32.1 kX12 (shR_0 hX) ml_X12_331 cal_X12_letsVisit cv_X12_letsVisit (hRm ⟨Nat.le_of_ble_eq_true rfl, Nat.le_of_ble_eq_true rfl⟩) rfl (Nat.le_of_ble_eq_true rfl) (c_X12_letsVisit (xl X) (xG X) hX hM ⟨hS.2.2.2.1, hS.2.2.1, hS.2.1, hS.1, trivial⟩ hq)) (Nat.le_of_ble_eq_true rfl) (Nat.le_of_ble_eq_true rfl) rfl rfl rfl (fun v9 M8 => ?_)
  refine i_istore C dX12_mayCross_35 hl4 (L' := [(0, aR 0), (1, aI x1), (2, aI x2), (3, aI v4), (4, aI v9)]) rfl ?_
  refine i_aload_n C dX12_mayCross_37 rfl (q := 0) rfl ?_
  refine i_iload_n C dX12_mayCross_38 rfl (q := 2) rfl ?_
  refine i_iconst C dX12_mayCross_39 kI_1 ?_
  refine i_cI (kc' := 0) (ks' := 0) 0 0 3 (fun q hq hM hS => crV C (as := [aI x2, aI 1]) dX12_mayCross_40.1 kX12 (shR_0 hX) ml_X12_321 cal_X12_countsFor cv_X12_countsFor (hRm ⟨Nat.le_of_ble_eq_true rfl, Nat.le_of_ble_eq_true rfl⟩) rfl (Nat.le_of_ble_eq_true rfl) (c_X12_countsFor (xl X) (xG X) hX hM ⟨hS.2.2.1, hS.2.1, hS.1, trivial⟩ hq)) (Nat.le_of_ble_eq_true rfl) (Nat.le_of_ble_eq_true rfl) rfl rfl rfl (fun v11 M10 => ?_)
  refine i_istore C dX12_mayCross_43 hl5 (L' := [(0, aR 0), (1, aI x1), (2, aI x2), (3, aI v4), (4, aI v9), (5, aI v11)]) rfl ?_
  refine i_iconst C dX12_mayCross_45 kI_0 ?_
  refine i_istore C dX12_mayCross_46 hl6 (L' := [(0, aR 0), (1, aI x1), (2, aI x2), (3, aI v4), (4, aI v9), (5, aI v11), (6, aI 0)]) rfl ?_
  exact i_sub [0, 1, 3, 4, 5, 6] rfl (w_X12_mayCross_48 C hX hN hR hq x1 v4 v11 FU v9 0 M10)
set_option maxRecDepth 100000 in
set_option maxHeartbeats 4000000 in
theorem c_X12_reason (l : Launch) (G : Gx) {K : Kx} (hK : K = kR) {x1 : Int} {M : Mem} {res : Int × Mem} (hM : OkM M) (ha : okS [aR 0, aI x1]) (hF : rM_reason x1 M = some res) : Ct l G K yX12_reason (wsM yX12_reason cX12_reason 4 (some .int)) rmX12_reason [aR 0, aI x1] M (some (aI res.1)) res.2 := by
  refine ct_of RX12 (by decide +kernel) rfl (hK ▸ kR_ok) hM ha (Nat.le_of_ble_eq_true rfl) hF ?_
  intro X C hl hG hX0 hN hR hq
  have hX : xK X = kR := hX0.trans hK
  show Im X 0 0 0 [(0, aR 0), (1, aI x1)] [] M res (rM_reason x1 M)
  unfold rM_reason
  have hl2 : 2 < xn X := by rw [hN]; decide
  have hl3 : 3 < xn X := by rw [hN]; decide
  have hRm : ∀ {rm : Room} {ny : Nat}, RmOk rmX12_reason rm ny → RmOk (xR X) rm ny := fun h => by rw [hR]; exact h
  refine i_aload_n C dX12_reason_0 rfl (q := 0) rfl ?_
  refine i_iload_n C dX12_reason_1 rfl (q := 1) rfl ?_
  refine i_cI (kc' := 0) (ks' := 0) 0 0 2 (fun q hq hM hS => crV C (as := [aI x1]) dX12_reason_2.1 kX12 (shR_0 hX) ml_X12_86 cal_X12_tieAt cv_X12_tieAt (hRm ⟨Nat.le_of_ble_eq_true rfl, Nat.le_of_ble_eq_true rfl⟩) rfl (Nat.le_of_ble_eq_true rfl) (c_X12_tieAt (xl X) (xG X) hX hM ⟨hS.2.1, hS.1, trivial⟩ hq)) (Nat.le_of_ble_eq_true rfl) (Nat.le_of_ble_eq_true rfl) rfl rfl rfl (fun v2 M1 => ?_)
  refine i_istore_n C dX12_reason_5 rfl hl2 (L' := [(0, aR 0), (1, aI x1), (2, aI v2)]) rfl ?_
  refine i_aload_n C dX12_reason_6 rfl (q := 0) rfl ?_
  refine i_getR C (k := 0) kX12 dX12_reason_7 (shR_0 hX) rfl (by decide) fl_X12_7 ?_
  refine i_iload_n C dX12_reason_10 rfl (q := 2) rfl ?_
  refine i_iconst C dX12_reason_11 kI_1 ?_
  refine i_iadd C dX12_reason_12 ?_
  refine i_ald C dX12_reason_13 (shR_1 hX) (fun v3 => ?_)
  refine i_istore_n C dX12_reason_14 rfl hl3 (L' := [(0, aR 0), (1, aI x1), (2, aI v2), (3, aI v3)]) rfl ?_
  refine i_aload_n C dX12_reason_15 rfl (q := 0) rfl ?_
  refine i_getR C (k := 0) kX12 dX12_reason_16 (shR_0 hX) rfl (by decide) fl_X12_7 ?_
  refine i_aload_n C dX12_reason_19 rfl (q := 0) rfl ?_
  refine i_iload_n C dX12_reason_20 rfl (q := 3) rfl ?_
  refine i_cI (kc' := 0) (ks' := 0) 0 0 2 (fun q hq hM hS => crV C (as := [aI v3]) dX12_reason_21.1 kX12 (shR_0 hX) ml_X12_93 cal_X12_personAt cv_X12_personAt (hRm ⟨Nat.le_of_ble_eq_true rfl, Nat.le_of_ble_eq_true rfl⟩) rfl (Nat.le_of_ble_eq_true rfl) (c_X12_personAt (xl X) (xG X) hX hM ⟨hS.2.1, hS.1, trivial⟩ hq)) (Nat.le_of_ble_eq_true rfl) (Nat.le_of_ble_eq_true rfl) rfl rfl rfl (fun v5 M4 => ?_)
  refine i_iconst C dX12_reason_24 kI_3 ?_
  refine i_iadd C dX12_reason_25 ?_
  refine i_ald C dX12_reason_26 (shR_1 hX) (fun v6 => ?_)
  refine i_if_lt (tgt := 54) C dX12_reason_27 (by decide) ?_ ?_
  · refine i_iconst C dX12_reason_54 kI_1 ?_
    exact i_iret C hq dX12_reason_55
  · refine i_aload_n C dX12_reason_30 rfl (q := 0) rfl ?_
    refine i_aload_n C dX12_reason_31 rfl (q := 0) rfl ?_
    refine i_getR C (k := 0) kX12 dX12_reason_32 (shR_0 hX) rfl (by decide) fl_X12_7 ?_
    refine i_aload_n C dX12_reason_35 rfl (q := 0) rfl ?_
    refine i_iload_n C dX12_reason_36 rfl (q := 3) rfl ?_
    refine i_cI (kc' := 0) (ks' := 0) 0 0 2 (fun q hq hM hS => crV C (as := [aI v3]) dX12_reason_37.1 kX12 (shR_0 hX) ml_X12_93 cal_X12_personAt cv_X12_personAt (hRm ⟨Nat.le_of_ble_eq_true rfl, Nat.le_of_ble_eq_true rfl⟩) rfl (Nat.le_of_ble_eq_true rfl) (c_X12_personAt (xl X) (xG X) hX hM ⟨hS.2.1, hS.1, trivial⟩ hq)) (Nat.le_of_ble_eq_true rfl) (Nat.le_of_ble_eq_true rfl) rfl rfl rfl (fun v8 M7 => ?_)
    refine i_iconst C dX12_reason_40 kI_3 ?_
    refine i_iadd C dX12_reason_41 ?_
    refine i_ald C dX12_reason_42 (shR_1 hX) (fun v9 => ?_)
    refine i_cI (kc' := 0) (ks' := 0) 0 0 2 (fun q hq hM hS => crV C (as := [aI v9]) dX12_reason_43.1 kX12 (shR_0 hX) ml_X12_96 cal_X12_sideOf cv_X12_sideOf (hRm ⟨Nat.le_of_ble_eq_true rfl, Nat.le_of_ble_eq_true rfl⟩) rfl (Nat.le_of_ble_eq_true rfl) (c_X12_sideOf (xl X) (xG X) hX hM ⟨hS.2.1, hS.1, trivial⟩ hq)) (Nat.le_of_ble_eq_true rfl) (Nat.le_of_ble_eq_true rfl) rfl rfl rfl (fun v11 M10 => ?_)
    refine i_aload_n C dX12_reason_46 rfl (q := 0) rfl ?_
    refine i_iload_n C dX12_reason_47 rfl (q := 3) rfl ?_
    refine i_cI (kc' := 0) (ks' := 0) 0 0 2 (fun q hq hM hS => crV C (as := [aI v3]) dX12_reason_48.1 kX12 (shR_0 hX) ml_X12_135 cal_X12_ownSide cv_X12_ownSide (hRm ⟨Nat.le_of_ble_eq_true rfl, Nat.le_of_ble_eq_true rfl⟩) rfl (Nat.le_of_ble_eq_true rfl) (c_X12_ownSide (xl X) (xG X) hX hM ⟨hS.2.1, hS.1, trivial⟩ hq)) (Nat.le_of_ble_eq_true rfl) (Nat.le_of_ble_eq_true rfl) rfl rfl rfl (fun v13 M12 => ?_)
    refine i_icmp_eq (tgt := 56) C dX12_reason_51 (by decide) ?_ ?_
    · refine i_aload_n C dX12_reason_56 rfl (q := 0) rfl ?_
      refine i_getR C (k := 0) kX12 dX12_reason_57 (shR_0 hX) rfl (by decide) fl_X12_7 ?_
      refine i_iload_n C dX12_reason_60 rfl (q := 2) rfl ?_
      refine i_bipush C dX12_reason_61 kB_6 ?_
      refine i_iadd C dX12_reason_63 ?_
      refine i_ald C dX12_reason_64 (shR_1 hX) (fun v14 => ?_)
      refine i_if_eq (tgt := 70) C dX12_reason_65 (by decide) ?_ ?_
      · refine i_aload_n C dX12_reason_70 rfl (q := 0) rfl ?_
        refine i_cI (kc' := 0) (ks' := 0) 0 0 1 (fun q hq hM hS => crV C (as := []) dX12_reason_71.1 kX12 (shR_0 hX) ml_X12_180 cal_X12_day cv_X12_day (hRm ⟨Nat.le_of_ble_eq_true rfl, Nat.le_of_ble_eq_true rfl⟩) rfl (Nat.le_of_ble_eq_true rfl) (c_X12_day (xl X) (xG X) hX hM ⟨hS.1, trivial⟩ hq)) (Nat.le_of_ble_eq_true rfl) (Nat.le_of_ble_eq_true rfl) rfl rfl rfl (fun v16 M15 => ?_)
        refine i_i2l C dX12_reason_74 ?_
        refine i_aload_n C dX12_reason_75 rfl (q := 0) rfl ?_
        refine i_getR C (k := 0) kX12 dX12_reason_76 (shR_0 hX) rfl (by decide) fl_X12_7 ?_
        refine i_iload_n C dX12_reason_79 rfl (q := 2) rfl ?_
        refine i_iconst C dX12_reason_80 kI_4 ?_
        refine i_iadd C dX12_reason_81 ?_
        refine i_ald C dX12_reason_82 (shR_1 hX) (fun v17 => ?_)
        refine i_i2l C dX12_reason_83 ?_
        refine i_aload_n C dX12_reason_84 rfl (q := 0) rfl ?_
        refine i_getR C (k := 0) kX12 dX12_reason_85 (shR_0 hX) rfl (by decide) fl_X12_7 ?_
        refine i_iload_n C dX12_reason_88 rfl (q := 2) rfl ?_
        refine i_iconst C dX12_reason_89 kI_5 ?_
        refine i_iadd C dX12_reason_90 ?_
        refine i_ald C dX12_reason_91 (shR_1 hX) (fun v18 => ?_)
        refine i_i2l C dX12_reason_92 ?_
        refine i_cI (kc' := 0) (ks' := 0) 0 0 3 (fun q hq hM hS => crS C (as := [aL v16, aL v17, aL v18]) dX12_reason_93.1 ml_X12_78 cal_X12_isIn st_X12_isIn (hRm ⟨Nat.le_of_ble_eq_true rfl, Nat.le_of_ble_eq_true rfl⟩) rfl (Nat.le_of_ble_eq_true rfl) (c_X12_isIn (xl X) (xG X) hX hM ⟨hS.2.2.1, hS.2.1, hS.1, trivial⟩ hq)) (Nat.le_of_ble_eq_true rfl) (Nat.le_of_ble_eq_true rfl) rfl rfl rfl (fun v20 M19 => ?_)
        refine i_if_ne (tgt := 101) C dX12_reason_96 (by decide) ?_ ?_
        · refine i_aload_n C dX12_reason_101 rfl (q := 0) rfl ?_
          refine i_iload_n C dX12_reason_102 rfl (q := 1) rfl ?_
          refine i_iconst C dX12_reason_103 kI_0 ?_
          refine i_cI (kc' := 0) (ks' := 0) 0 0 3 (fun q hq hM hS => crV C (as := [aI x1, aI 0]) dX12_reason_104.1 kX12 (shR_0 hX) ml_X12_184 cal_X12_mayCross cv_X12_mayCross (hRm ⟨Nat.le_of_ble_eq_true rfl, Nat.le_of_ble_eq_true rfl⟩) rfl (Nat.le_of_ble_eq_true rfl) (c_X12_mayCross (xl X) (xG X) hX hM ⟨hS.2.2.1, hS.2.1, hS.1, trivial⟩ hq)) (Nat.le_of_ble_eq_true rfl) (Nat.le_of_ble_eq_true rfl) rfl rfl rfl (fun v22 M21 => ?_)
          refine i_if_ne (tgt := 114) C dX12_reason_107 (by decide) ?_ ?_
          · refine i_aload_n C dX12_reason_114 rfl (q := 0) rfl ?_
            refine i_iload_n C dX12_reason_115 rfl (q := 1) rfl ?_
            refine i_iconst C dX12_reason_116 kI_1 ?_
            refine i_cI (kc' := 0) (ks' := 0) 0 0 3 (fun q hq hM hS => crV C (as := [aI x1, aI 1]) dX12_reason_117.1 kX12 (shR_0 hX) ml_X12_184 cal_X12_mayCross cv_X12_mayCross (hRm ⟨Nat.le_of_ble_eq_true rfl, Nat.le_of_ble_eq_true rfl⟩) rfl (Nat.le_of_ble_eq_true rfl) (c_X12_mayCross (xl X) (xG X) hX hM ⟨hS.2.2.1, hS.2.1, hS.1, trivial⟩ hq)) (Nat.le_of_ble_eq_true rfl) (Nat.le_of_ble_eq_true rfl) rfl rfl rfl (fun v24 M23 => ?_)
            refine i_if_ne (tgt := 127) C dX12_reason_120 (by decide) ?_ ?_
            · refine i_iconst C dX12_reason_127 kI_0 ?_
              exact i_iret C hq dX12_reason_128
            · refine i_iconst C dX12_reason_123 kI_5 ?_
              refine i_goto (tgt := 128) C dX12_reason_124 (by decide) ?_
              exact i_iret C hq dX12_reason_128
          · refine i_iconst C dX12_reason_110 kI_4 ?_
            refine i_goto (tgt := 128) C dX12_reason_111 (by decide) ?_
            exact i_iret C hq dX12_reason_128
        · refine i_iconst C dX12_reason_99 kI_3 ?_
          exact i_iret C hq dX12_reason_100
      · refine i_iconst C dX12_reason_68 kI_2 ?_
        exact i_iret C hq dX12_reason_69
    · refine i_iconst C dX12_reason_54 kI_1 ?_
      exact i_iret C hq dX12_reason_55
set_option maxRecDepth 100000 in
set_option maxHeartbeats 4000000 in
theorem c_X12_why (l : Launch) (G : Gx) {K : Kx} (hK : K = kR) {x1 : Int} {M : Mem} {res : Int × Mem} (hM : OkM M) (ha : okS [aR 0, aI x1]) (hF : rM_why x1 M = some res) : Ct l G K yX12_why (wsM yX12_why cX12_why 2 (some .int)) rmX12_why [aR 0, aI x1] M (some (aI res.1)) res.2 := by
  refine ct_of RX12 (by decide +kernel) rfl (hK ▸ kR_ok) hM ha (Nat.le_of_ble_eq_true rfl) hF ?_
  intro X C hl hG hX0 hN hR hq
  have hX : xK X = kR := hX0.trans hK
  show Im X 0 0 0 [(0, aR 0), (1, aI x1)] [] M res (rM_why x1 M)
  unfold rM_why
  have hRm : ∀ {rm : Room} {ny : Nat}, RmOk rmX12_why rm ny → RmOk (xR X) rm ny := fun h => by rw [hR]; exact h
  refine i_aload_n C dX12_why_0 rfl (q := 0) rfl ?_
  refine i_iload_n C dX12_why_1 rfl (q := 1) rfl ?_
  refine i_bipush C dX12_why_2 kB_6 ?_
  refine i_cI (kc' := 0) (ks' := 0) 0 0 3 (fun q hq hM hS => crV C (as := [aI x1, aI 6]) dX12_why_4.1 kX12 (shR_0 hX) ml_X12_152 cal_X12_isOf cv_X12_isOf (hRm ⟨Nat.le_of_ble_eq_true rfl, Nat.le_of_ble_eq_true rfl⟩) rfl (Nat.le_of_ble_eq_true rfl) (c_X12_isOf (xl X) (xG X) hX hM ⟨hS.2.2.1, hS.2.1, hS.1, trivial⟩ hq)) (Nat.le_of_ble_eq_true rfl) (Nat.le_of_ble_eq_true rfl) rfl rfl rfl (fun v2 M1 => ?_)
  refine i_if_eq (tgt := 18) C dX12_why_7 (by decide) ?_ ?_
  · refine i_ldc C dX12_why_18 kc_X12_102 kI_m1000000001 ?_
    exact i_iret C hq dX12_why_20
  · refine i_aload_n C dX12_why_10 rfl (q := 0) rfl ?_
    refine i_iload_n C dX12_why_11 rfl (q := 1) rfl ?_
    refine i_cI (kc' := 0) (ks' := 0) 0 0 2 (fun q hq hM hS => crV C (as := [aI x1]) dX12_why_12.1 kX12 (shR_0 hX) ml_X12_187 cal_X12_reason cv_X12_reason (hRm ⟨Nat.le_of_ble_eq_true rfl, Nat.le_of_ble_eq_true rfl⟩) rfl (Nat.le_of_ble_eq_true rfl) (c_X12_reason (xl X) (xG X) hX hM ⟨hS.2.1, hS.1, trivial⟩ hq)) (Nat.le_of_ble_eq_true rfl) (Nat.le_of_ble_eq_true rfl) rfl rfl rfl (fun v4 M3 => ?_)
    refine i_goto (tgt := 20) C dX12_why_15 (by decide) ?_
    exact i_iret C hq dX12_why_20
set_option maxRecDepth 100000 in
set_option maxHeartbeats 4000000 in
theorem c_X12_ask (l : Launch) (G : Gx) {K : Kx} (hK : K = kR) {x1 : Int} {x2 : Int} {M : Mem} {res : Int × Mem} (hM : OkM M) (ha : okS [aR 0, aI x1, aI x2]) (hF : rM_ask x1 x2 M = some res) : Ct l G K yX12_ask (wsM yX12_ask cX12_ask 4 (some .int)) rmX12_ask [aR 0, aI x1, aI x2] M (some (aI res.1)) res.2 := by
  refine ct_of RX12 (by decide +kernel) rfl (hK ▸ kR_ok) hM ha (Nat.le_of_ble_eq_true rfl) hF ?_
  intro X C hl hG hX0 hN hR hq
  have hX : xK X = kR := hX0.trans hK
  show Im X 0 0 0 [(0, aR 0), (1, aI x1), (2, aI x2)] [] M res (rM_ask x1 x2 M)
  unfold rM_ask
  have hl3 : 3 < xn X := by rw [hN]; decide
  have hRm : ∀ {rm : Room} {ny : Nat}, RmOk rmX12_ask rm ny → RmOk (xR X) rm ny := fun h => by rw [hR]; exact h
  refine i_aload_n C dX12_ask_0 rfl (q := 0) rfl ?_
  refine i_iload_n C dX12_ask_1 rfl (q := 1) rfl ?_
  refine i_bipush C dX12_ask_2 kB_6 ?_
  refine i_cI (kc' := 0) (ks' := 0) 0 0 3 (fun q hq hM hS => crV C (as := [aI x1, aI 6]) dX12_ask_4.1 kX12 (shR_0 hX) ml_X12_152 cal_X12_isOf cv_X12_isOf (hRm ⟨Nat.le_of_ble_eq_true rfl, Nat.le_of_ble_eq_true rfl⟩) rfl (Nat.le_of_ble_eq_true rfl) (c_X12_isOf (xl X) (xG X) hX hM ⟨hS.2.2.1, hS.2.1, hS.1, trivial⟩ hq)) (Nat.le_of_ble_eq_true rfl) (Nat.le_of_ble_eq_true rfl) rfl rfl rfl (fun v2 M1 => ?_)
  refine i_if_eq (tgt := 19) C dX12_ask_7 (by decide) ?_ ?_
  · refine i_ldc C dX12_ask_19 kc_X12_102 kI_m1000000001 ?_
    exact i_iret C hq dX12_ask_21
  · refine i_aload_n C dX12_ask_10 rfl (q := 0) rfl ?_
    refine i_iload_n C dX12_ask_11 rfl (q := 2) rfl ?_
    refine i_iconst C dX12_ask_12 kI_1 ?_
    refine i_cI (kc' := 0) (ks' := 0) 0 0 3 (fun q hq hM hS => crV C (as := [aI x2, aI 1]) dX12_ask_13.1 kX12 (shR_0 hX) ml_X12_152 cal_X12_isOf cv_X12_isOf (hRm ⟨Nat.le_of_ble_eq_true rfl, Nat.le_of_ble_eq_true rfl⟩) rfl (Nat.le_of_ble_eq_true rfl) (c_X12_isOf (xl X) (xG X) hX hM ⟨hS.2.2.1, hS.2.1, hS.1, trivial⟩ hq)) (Nat.le_of_ble_eq_true rfl) (Nat.le_of_ble_eq_true rfl) rfl rfl rfl (fun v4 M3 => ?_)
    refine i_if_ne (tgt := 22) C dX12_ask_16 (by decide) ?_ ?_
    · refine i_aload_n C dX12_ask_22 rfl (q := 0) rfl ?_
      refine i_iload_n C dX12_ask_23 rfl (q := 1) rfl ?_
      refine i_cI (kc' := 0) (ks' := 0) 0 0 2 (fun q hq hM hS => crV C (as := [aI x1]) dX12_ask_24.1 kX12 (shR_0 hX) ml_X12_187 cal_X12_reason cv_X12_reason (hRm ⟨Nat.le_of_ble_eq_true rfl, Nat.le_of_ble_eq_true rfl⟩) rfl (Nat.le_of_ble_eq_true rfl) (c_X12_reason (xl X) (xG X) hX hM ⟨hS.2.1, hS.1, trivial⟩ hq)) (Nat.le_of_ble_eq_true rfl) (Nat.le_of_ble_eq_true rfl) rfl rfl rfl (fun v6 M5 => ?_)
      refine i_if_eq (tgt := 33) C dX12_ask_27 (by decide) ?_ ?_
      · refine i_aload_n C dX12_ask_33 rfl (q := 0) rfl ?_
        refine i_aload_n C dX12_ask_34 rfl (q := 0) rfl ?_
        refine i_getR C (k := 0) kX12 dX12_ask_35 (shR_0 hX) rfl (by decide) fl_X12_7 ?_
        refine i_aload_n C dX12_ask_38 rfl (q := 0) rfl ?_
        refine i_iload_n C dX12_ask_39 rfl (q := 1) rfl ?_
        refine i_cI (kc' := 0) (ks' := 0) 0 0 2 (fun q hq hM hS => crV C (as := [aI x1]) dX12_ask_40.1 kX12 (shR_0 hX) ml_X12_86 cal_X12_tieAt cv_X12_tieAt (hRm ⟨Nat.le_of_ble_eq_true rfl, Nat.le_of_ble_eq_true rfl⟩) rfl (Nat.le_of_ble_eq_true rfl) (c_X12_tieAt (xl X) (xG X) hX hM ⟨hS.2.1, hS.1, trivial⟩ hq)) (Nat.le_of_ble_eq_true rfl) (Nat.le_of_ble_eq_true rfl) rfl rfl rfl (fun v8 M7 => ?_)
        refine i_iconst C dX12_ask_43 kI_1 ?_
        refine i_iadd C dX12_ask_44 ?_
        refine i_ald C dX12_ask_45 (shR_1 hX) (fun v9 => ?_)
        refine i_cI (kc' := 0) (ks' := 0) 0 0 2 (fun q hq hM hS => crV C (as := [aI v9]) dX12_ask_46.1 kX12 (shR_0 hX) ml_X12_93 cal_X12_personAt cv_X12_personAt (hRm ⟨Nat.le_of_ble_eq_true rfl, Nat.le_of_ble_eq_true rfl⟩) rfl (Nat.le_of_ble_eq_true rfl) (c_X12_personAt (xl X) (xG X) hX hM ⟨hS.2.1, hS.1, trivial⟩ hq)) (Nat.le_of_ble_eq_true rfl) (Nat.le_of_ble_eq_true rfl) rfl rfl rfl (fun v11 M10 => ?_)
        refine i_istore_n C dX12_ask_49 rfl hl3 (L' := [(0, aR 0), (1, aI x1), (2, aI x2), (3, aI v11)]) rfl ?_
        refine i_aload_n C dX12_ask_50 rfl (q := 0) rfl ?_
        refine i_getR C (k := 0) kX12 dX12_ask_51 (shR_0 hX) rfl (by decide) fl_X12_7 ?_
        refine i_iload_n C dX12_ask_54 rfl (q := 3) rfl ?_
        refine i_iconst C dX12_ask_55 kI_3 ?_
        refine i_iadd C dX12_ask_56 ?_
        refine i_iconst C dX12_ask_57 kI_m1 ?_
        refine i_ast C dX12_ask_58 (shR_1 hX) (fun M12 => ?_)
        refine i_aload_n C dX12_ask_59 rfl (q := 0) rfl ?_
        refine i_getR C (k := 0) kX12 dX12_ask_60 (shR_0 hX) rfl (by decide) fl_X12_7 ?_
        refine i_iload_n C dX12_ask_63 rfl (q := 3) rfl ?_
        refine i_iconst C dX12_ask_64 kI_4 ?_
        refine i_iadd C dX12_ask_65 ?_
        refine i_iload_n C dX12_ask_66 rfl (q := 2) rfl ?_
        refine i_ast C dX12_ask_67 (shR_1 hX) (fun M13 => ?_)
        refine i_aload_n C dX12_ask_68 rfl (q := 0) rfl ?_
        refine i_getR C (k := 0) kX12 dX12_ask_69 (shR_0 hX) rfl (by decide) fl_X12_7 ?_
        refine i_iload_n C dX12_ask_72 rfl (q := 3) rfl ?_
        refine i_iconst C dX12_ask_73 kI_5 ?_
        refine i_iadd C dX12_ask_74 ?_
        refine i_iload_n C dX12_ask_75 rfl (q := 1) rfl ?_
        refine i_ast C dX12_ask_76 (shR_1 hX) (fun M14 => ?_)
        refine i_aload_n C dX12_ask_77 rfl (q := 0) rfl ?_
        refine i_getR C (k := 0) kX12 dX12_ask_78 (shR_0 hX) rfl (by decide) fl_X12_7 ?_
        refine i_iload_n C dX12_ask_81 rfl (q := 3) rfl ?_
        refine i_bipush C dX12_ask_82 kB_6 ?_
        refine i_iadd C dX12_ask_84 ?_
        refine i_aload_n C dX12_ask_85 rfl (q := 0) rfl ?_
        refine i_getR C (k := 0) kX12 dX12_ask_86 (shR_0 hX) rfl (by decide) fl_X12_7 ?_
        refine i_bipush C dX12_ask_89 kB_10 ?_
        refine i_ald C dX12_ask_91 (shR_1 hX) (fun v15 => ?_)
        refine i_ast C dX12_ask_92 (shR_1 hX) (fun M16 => ?_)
        refine i_aload_n C dX12_ask_93 rfl (q := 0) rfl ?_
        refine i_getR C (k := 0) kX12 dX12_ask_94 (shR_0 hX) rfl (by decide) fl_X12_7 ?_
        refine i_bipush C dX12_ask_97 kB_10 ?_
        refine i_dup2 C dX12_ask_99 rfl rfl ?_
        refine i_ald C dX12_ask_100 (shR_1 hX) (fun v17 => ?_)
        refine i_iconst C dX12_ask_101 kI_1 ?_
        refine i_iadd C dX12_ask_102 ?_
        refine i_ast C dX12_ask_103 (shR_1 hX) (fun M18 => ?_)
        refine i_aload_n C dX12_ask_104 rfl (q := 0) rfl ?_
        refine i_iload_n C dX12_ask_105 rfl (q := 2) rfl ?_
        refine i_cI (kc' := 0) (ks' := 0) 0 0 2 (fun q hq hM hS => crV C (as := [aI x2]) dX12_ask_106.1 kX12 (shR_0 hX) ml_X12_155 cal_X12_waiting0 cv_X12_waiting0 (hRm ⟨Nat.le_of_ble_eq_true rfl, Nat.le_of_ble_eq_true rfl⟩) rfl (Nat.le_of_ble_eq_true rfl) (c_X12_waiting0 (xl X) (xG X) hX hM ⟨hS.2.1, hS.1, trivial⟩ hq)) (Nat.le_of_ble_eq_true rfl) (Nat.le_of_ble_eq_true rfl) rfl rfl rfl (fun v20 M19 => ?_)
        exact i_iret C hq dX12_ask_109
      · refine i_ldc C dX12_ask_30 kc_X12_132 kI_m1000000002 ?_
        exact i_iret C hq dX12_ask_32
    · refine i_ldc C dX12_ask_19 kc_X12_102 kI_m1000000001 ?_
      exact i_iret C hq dX12_ask_21
set_option maxRecDepth 100000 in
set_option maxHeartbeats 4000000 in
theorem c_X12_letter (l : Launch) (G : Gx) {K : Kx} (hK : K = kR) {x1 : Int} {x2 : Int} {M : Mem} {res : Int × Mem} (hM : OkM M) (ha : okS [aR 0, aI x1, aI x2]) (hF : rM_letter x1 x2 M = some res) : Ct l G K yX12_letter (wsM yX12_letter cX12_letter 4 (some .int)) rmX12_letter [aR 0, aI x1, aI x2] M (some (aI res.1)) res.2 := by
  refine ct_of RX12 (by decide +kernel) rfl (hK ▸ kR_ok) hM ha (Nat.le_of_ble_eq_true rfl) hF ?_
  intro X C hl hG hX0 hN hR hq
  have hX : xK X = kR := hX0.trans hK
  show Im X 0 0 0 [(0, aR 0), (1, aI x1), (2, aI x2)] [] M res (rM_letter x1 x2 M)
  unfold rM_letter
  have hl3 : 3 < xn X := by rw [hN]; decide
  have hRm : ∀ {rm : Room} {ny : Nat}, RmOk rmX12_letter rm ny → RmOk (xR X) rm ny := fun h => by rw [hR]; exact h
  refine i_iload_n C dX12_letter_0 rfl (q := 1) rfl ?_
  refine i_cI (kc' := 0) (ks' := 0) 0 0 1 (fun q hq hM hS => crS C (as := [aI x1]) dX12_letter_1.1 ml_X12_99 cal_X12_isSide st_X12_isSide (hRm ⟨Nat.le_of_ble_eq_true rfl, Nat.le_of_ble_eq_true rfl⟩) rfl (Nat.le_of_ble_eq_true rfl) (c_X12_isSide (xl X) (xG X) hX hM ⟨hS.1, trivial⟩ hq)) (Nat.le_of_ble_eq_true rfl) (Nat.le_of_ble_eq_true rfl) rfl rfl rfl (fun v2 M1 => ?_)
  refine i_if_eq (tgt := 19) C dX12_letter_4 (by decide) ?_ ?_
  · refine i_ldc C dX12_letter_19 kc_X12_102 kI_m1000000001 ?_
    exact i_iret C hq dX12_letter_21
  · refine i_iload_n C dX12_letter_7 rfl (q := 2) rfl ?_
    refine i_i2l C dX12_letter_8 ?_
    refine i_lconst C dX12_letter_9 kL_1 ?_
    refine i_ldc2 C dX12_letter_10 k2_X12_115 kJ_99 ?_
    refine i_cI (kc' := 0) (ks' := 0) 0 0 3 (fun q hq hM hS => crS C (as := [aL x2, aL 1, aL 99]) dX12_letter_13.1 ml_X12_78 cal_X12_isIn st_X12_isIn (hRm ⟨Nat.le_of_ble_eq_true rfl, Nat.le_of_ble_eq_true rfl⟩) rfl (Nat.le_of_ble_eq_true rfl) (c_X12_isIn (xl X) (xG X) hX hM ⟨hS.2.2.1, hS.2.1, hS.1, trivial⟩ hq)) (Nat.le_of_ble_eq_true rfl) (Nat.le_of_ble_eq_true rfl) rfl rfl rfl (fun v4 M3 => ?_)
    refine i_if_ne (tgt := 22) C dX12_letter_16 (by decide) ?_ ?_
    · refine i_aload_n C dX12_letter_22 rfl (q := 0) rfl ?_
      refine i_getR C (k := 0) kX12 dX12_letter_23 (shR_0 hX) rfl (by decide) fl_X12_7 ?_
      refine i_iconst C dX12_letter_26 kI_5 ?_
      refine i_ald C dX12_letter_27 (shR_1 hX) (fun v5 => ?_)
      refine i_bipush C dX12_letter_28 kB_20 ?_
      refine i_icmp_ne (tgt := 36) C dX12_letter_30 (by decide) ?_ ?_
      · refine i_sipush C dX12_letter_36 kS_3710 ?_
        refine i_iconst C dX12_letter_39 kI_3 ?_
        refine i_aload_n C dX12_letter_40 rfl (q := 0) rfl ?_
        refine i_getR C (k := 0) kX12 dX12_letter_41 (shR_0 hX) rfl (by decide) fl_X12_7 ?_
        refine i_iconst C dX12_letter_44 kI_5 ?_
        refine i_ald C dX12_letter_45 (shR_1 hX) (fun v6 => ?_)
        refine i_imul C dX12_letter_46 ?_
        refine i_iadd C dX12_letter_47 ?_
        refine i_nm (fun v7 => ?_)
        refine i_istore_n C dX12_letter_48 rfl hl3 (L' := [(0, aR 0), (1, aI x1), (2, aI x2), (3, aI v7)]) rfl ?_
        refine i_aload_n C dX12_letter_49 rfl (q := 0) rfl ?_
        refine i_getR C (k := 0) kX12 dX12_letter_50 (shR_0 hX) rfl (by decide) fl_X12_7 ?_
        refine i_iload_n C dX12_letter_53 rfl (q := 3) rfl ?_
        refine i_iconst C dX12_letter_54 kI_1 ?_
        refine i_iload_n C dX12_letter_55 rfl (q := 1) rfl ?_
        refine i_isub C dX12_letter_56 ?_
        refine i_ast C dX12_letter_57 (shR_1 hX) (fun M8 => ?_)
        refine i_aload_n C dX12_letter_58 rfl (q := 0) rfl ?_
        refine i_getR C (k := 0) kX12 dX12_letter_59 (shR_0 hX) rfl (by decide) fl_X12_7 ?_
        refine i_iload_n C dX12_letter_62 rfl (q := 3) rfl ?_
        refine i_iconst C dX12_letter_63 kI_1 ?_
        refine i_iadd C dX12_letter_64 ?_
        refine i_aload_n C dX12_letter_65 rfl (q := 0) rfl ?_
        refine i_getR C (k := 0) kX12 dX12_letter_66 (shR_0 hX) rfl (by decide) fl_X12_7 ?_
        refine i_iconst C dX12_letter_69 kI_0 ?_
        refine i_ald C dX12_letter_70 (shR_1 hX) (fun v9 => ?_)
        refine i_iload_n C dX12_letter_71 rfl (q := 2) rfl ?_
        refine i_iadd C dX12_letter_72 ?_
        refine i_ast C dX12_letter_73 (shR_1 hX) (fun M10 => ?_)
        refine i_aload_n C dX12_letter_74 rfl (q := 0) rfl ?_
        refine i_getR C (k := 0) kX12 dX12_letter_75 (shR_0 hX) rfl (by decide) fl_X12_7 ?_
        refine i_iload_n C dX12_letter_78 rfl (q := 3) rfl ?_
        refine i_iconst C dX12_letter_79 kI_2 ?_
        refine i_iadd C dX12_letter_80 ?_
        refine i_aload_n C dX12_letter_81 rfl (q := 0) rfl ?_
        refine i_getR C (k := 0) kX12 dX12_letter_82 (shR_0 hX) rfl (by decide) fl_X12_7 ?_
        refine i_bipush C dX12_letter_85 kB_15 ?_
        refine i_iload_n C dX12_letter_87 rfl (q := 1) rfl ?_
        refine i_iadd C dX12_letter_88 ?_
        refine i_ald C dX12_letter_89 (shR_1 hX) (fun v11 => ?_)
        refine i_ast C dX12_letter_90 (shR_1 hX) (fun M12 => ?_)
        refine i_aload_n C dX12_letter_91 rfl (q := 0) rfl ?_
        refine i_getR C (k := 0) kX12 dX12_letter_92 (shR_0 hX) rfl (by decide) fl_X12_7 ?_
        refine i_iconst C dX12_letter_95 kI_5 ?_
        refine i_dup2 C dX12_letter_96 rfl rfl ?_
        refine i_ald C dX12_letter_97 (shR_1 hX) (fun v13 => ?_)
        refine i_iconst C dX12_letter_98 kI_1 ?_
        refine i_iadd C dX12_letter_99 ?_
        refine i_ast C dX12_letter_100 (shR_1 hX) (fun M14 => ?_)
        refine i_aload_n C dX12_letter_101 rfl (q := 0) rfl ?_
        refine i_getR C (k := 0) kX12 dX12_letter_102 (shR_0 hX) rfl (by decide) fl_X12_7 ?_
        refine i_iconst C dX12_letter_105 kI_5 ?_
        refine i_ald C dX12_letter_106 (shR_1 hX) (fun v15 => ?_)
        exact i_iret C hq dX12_letter_107
      · refine i_ldc C dX12_letter_33 kc_X12_103 kI_m1000000003 ?_
        exact i_iret C hq dX12_letter_35
    · refine i_ldc C dX12_letter_19 kc_X12_102 kI_m1000000001 ?_
      exact i_iret C hq dX12_letter_21
set_option maxRecDepth 100000 in
set_option maxHeartbeats 4000000 in
theorem c_X12_call (l : Launch) (G : Gx) {K : Kx} (hK : K = kR) {x1 : Int} {x2 : Int} {x3 : Int} {M : Mem} {res : Int × Mem} (hM : OkM M) (ha : okS [aR 0, aI x1, aI x2, aI x3]) (hF : rM_call x1 x2 x3 M = some res) : Ct l G K yX12_call (wsM yX12_call cX12_call 5 (some .int)) rmX12_call [aR 0, aI x1, aI x2, aI x3] M (some (aI res.1)) res.2 := by
  refine ct_of RX12 (by decide +kernel) rfl (hK ▸ kR_ok) hM ha (Nat.le_of_ble_eq_true rfl) hF ?_
  intro X C hl hG hX0 hN hR hq
  have hX : xK X = kR := hX0.trans hK
  show Im X 0 0 0 [(0, aR 0), (1, aI x1), (2, aI x2), (3, aI x3)] [] M res (rM_call x1 x2 x3 M)
  unfold rM_call
  have hl4 : 4 < xn X := by rw [hN]; decide
  have hRm : ∀ {rm : Room} {ny : Nat}, RmOk rmX12_call rm ny → RmOk (xR X) rm ny := fun h => by rw [hR]; exact h
  refine i_aload_n C dX12_call_0 rfl (q := 0) rfl ?_
  refine i_iload_n C dX12_call_1 rfl (q := 1) rfl ?_
  refine i_iconst C dX12_call_2 kI_4 ?_
  refine i_cI (kc' := 0) (ks' := 0) 0 0 3 (fun q hq hM hS => crV C (as := [aI x1, aI 4]) dX12_call_3.1 kX12 (shR_0 hX) ml_X12_152 cal_X12_isOf cv_X12_isOf (hRm ⟨Nat.le_of_ble_eq_true rfl, Nat.le_of_ble_eq_true rfl⟩) rfl (Nat.le_of_ble_eq_true rfl) (c_X12_isOf (xl X) (xG X) hX hM ⟨hS.2.2.1, hS.2.1, hS.1, trivial⟩ hq)) (Nat.le_of_ble_eq_true rfl) (Nat.le_of_ble_eq_true rfl) rfl rfl rfl (fun v2 M1 => ?_)
  refine i_if_eq (tgt := 33) C dX12_call_6 (by decide) ?_ ?_
  · refine i_ldc C dX12_call_33 kc_X12_102 kI_m1000000001 ?_
    exact i_iret C hq dX12_call_35
  · refine i_iload_n C dX12_call_9 rfl (q := 2) rfl ?_
    refine i_i2l C dX12_call_10 ?_
    refine i_lconst C dX12_call_11 kL_0 ?_
    refine i_ldc2 C dX12_call_12 k2_X12_138 kJ_9 ?_
    refine i_cI (kc' := 0) (ks' := 0) 0 0 3 (fun q hq hM hS => crS C (as := [aL x2, aL 0, aL 9]) dX12_call_15.1 ml_X12_78 cal_X12_isIn st_X12_isIn (hRm ⟨Nat.le_of_ble_eq_true rfl, Nat.le_of_ble_eq_true rfl⟩) rfl (Nat.le_of_ble_eq_true rfl) (c_X12_isIn (xl X) (xG X) hX hM ⟨hS.2.2.1, hS.2.1, hS.1, trivial⟩ hq)) (Nat.le_of_ble_eq_true rfl) (Nat.le_of_ble_eq_true rfl) rfl rfl rfl (fun v4 M3 => ?_)
    refine i_if_eq (tgt := 33) C dX12_call_18 (by decide) ?_ ?_
    · refine i_ldc C dX12_call_33 kc_X12_102 kI_m1000000001 ?_
      exact i_iret C hq dX12_call_35
    · refine i_iload_n C dX12_call_21 rfl (q := 3) rfl ?_
      refine i_i2l C dX12_call_22 ?_
      refine i_lconst C dX12_call_23 kL_1 ?_
      refine i_ldc2 C dX12_call_24 k2_X12_115 kJ_99 ?_
      refine i_cI (kc' := 0) (ks' := 0) 0 0 3 (fun q hq hM hS => crS C (as := [aL x3, aL 1, aL 99]) dX12_call_27.1 ml_X12_78 cal_X12_isIn st_X12_isIn (hRm ⟨Nat.le_of_ble_eq_true rfl, Nat.le_of_ble_eq_true rfl⟩) rfl (Nat.le_of_ble_eq_true rfl) (c_X12_isIn (xl X) (xG X) hX hM ⟨hS.2.2.1, hS.2.1, hS.1, trivial⟩ hq)) (Nat.le_of_ble_eq_true rfl) (Nat.le_of_ble_eq_true rfl) rfl rfl rfl (fun v6 M5 => ?_)
      refine i_if_ne (tgt := 36) C dX12_call_30 (by decide) ?_ ?_
      · refine i_aload_n C dX12_call_36 rfl (q := 0) rfl ?_
        refine i_getR C (k := 0) kX12 dX12_call_37 (shR_0 hX) rfl (by decide) fl_X12_7 ?_
        refine i_bipush C dX12_call_40 kB_6 ?_
        refine i_ald C dX12_call_42 (shR_1 hX) (fun v7 => ?_)
        refine i_bipush C dX12_call_43 kB_20 ?_
        refine i_icmp_ne (tgt := 51) C dX12_call_45 (by decide) ?_ ?_
        · refine i_sipush C dX12_call_51 kS_3770 ?_
          refine i_iconst C dX12_call_54 kI_3 ?_
          refine i_aload_n C dX12_call_55 rfl (q := 0) rfl ?_
          refine i_getR C (k := 0) kX12 dX12_call_56 (shR_0 hX) rfl (by decide) fl_X12_7 ?_
          refine i_bipush C dX12_call_59 kB_6 ?_
          refine i_ald C dX12_call_61 (shR_1 hX) (fun v8 => ?_)
          refine i_imul C dX12_call_62 ?_
          refine i_iadd C dX12_call_63 ?_
          refine i_nm (fun v9 => ?_)
          refine i_istore C dX12_call_64 hl4 (L' := [(0, aR 0), (1, aI x1), (2, aI x2), (3, aI x3), (4, aI v9)]) rfl ?_
          refine i_aload_n C dX12_call_66 rfl (q := 0) rfl ?_
          refine i_getR C (k := 0) kX12 dX12_call_67 (shR_0 hX) rfl (by decide) fl_X12_7 ?_
          refine i_iload C dX12_call_70 (q := 4) rfl ?_
          refine i_iload_n C dX12_call_72 rfl (q := 1) rfl ?_
          refine i_ast C dX12_call_73 (shR_1 hX) (fun M10 => ?_)
          refine i_aload_n C dX12_call_74 rfl (q := 0) rfl ?_
          refine i_getR C (k := 0) kX12 dX12_call_75 (shR_0 hX) rfl (by decide) fl_X12_7 ?_
          refine i_iload C dX12_call_78 (q := 4) rfl ?_
          refine i_iconst C dX12_call_80 kI_1 ?_
          refine i_iadd C dX12_call_81 ?_
          refine i_iload_n C dX12_call_82 rfl (q := 2) rfl ?_
          refine i_ast C dX12_call_83 (shR_1 hX) (fun M11 => ?_)
          refine i_aload_n C dX12_call_84 rfl (q := 0) rfl ?_
          refine i_getR C (k := 0) kX12 dX12_call_85 (shR_0 hX) rfl (by decide) fl_X12_7 ?_
          refine i_iload C dX12_call_88 (q := 4) rfl ?_
          refine i_iconst C dX12_call_90 kI_2 ?_
          refine i_iadd C dX12_call_91 ?_
          refine i_iload_n C dX12_call_92 rfl (q := 3) rfl ?_
          refine i_ast C dX12_call_93 (shR_1 hX) (fun M12 => ?_)
          refine i_aload_n C dX12_call_94 rfl (q := 0) rfl ?_
          refine i_getR C (k := 0) kX12 dX12_call_95 (shR_0 hX) rfl (by decide) fl_X12_7 ?_
          refine i_bipush C dX12_call_98 kB_6 ?_
          refine i_dup2 C dX12_call_100 rfl rfl ?_
          refine i_ald C dX12_call_101 (shR_1 hX) (fun v13 => ?_)
          refine i_iconst C dX12_call_102 kI_1 ?_
          refine i_iadd C dX12_call_103 ?_
          refine i_ast C dX12_call_104 (shR_1 hX) (fun M14 => ?_)
          refine i_aload_n C dX12_call_105 rfl (q := 0) rfl ?_
          refine i_iload_n C dX12_call_106 rfl (q := 1) rfl ?_
          refine i_cI (kc' := 0) (ks' := 0) 0 0 2 (fun q hq hM hS => crV C (as := [aI x1]) dX12_call_107.1 kX12 (shR_0 hX) ml_X12_158 cal_X12_calls cv_X12_calls (hRm ⟨Nat.le_of_ble_eq_true rfl, Nat.le_of_ble_eq_true rfl⟩) rfl (Nat.le_of_ble_eq_true rfl) (c_X12_calls (xl X) (xG X) hX hM ⟨hS.2.1, hS.1, trivial⟩ hq)) (Nat.le_of_ble_eq_true rfl) (Nat.le_of_ble_eq_true rfl) rfl rfl rfl (fun v16 M15 => ?_)
          exact i_iret C hq dX12_call_110
        · refine i_ldc C dX12_call_48 kc_X12_103 kI_m1000000003 ?_
          exact i_iret C hq dX12_call_50
      · refine i_ldc C dX12_call_33 kc_X12_102 kI_m1000000001 ?_
        exact i_iret C hq dX12_call_35
set_option maxRecDepth 100000 in
set_option maxHeartbeats 4000000 in
theorem w_X12_come_70 {X : Xc} (C : Cx X RX12 cX12_come none) (hX : xK X = kR) (hN : xn X = 5) (hR : xR X = rmX12_come) {res : Mem} (hq : Rq X none res) (y1 : Int) (y2 : Int) (y3 : Int) {k106 : Mem → Option (Mem)} (hk106 : ∀ (M : Mem), Im X 0 0 106 [(0, aR 0), (1, aI y1), (2, aI y2)] [] M res (k106 M)) : ∀ (n : Nat) (u4 : Int) (M : Mem), Im X 0 0 70 [(0, aR 0), (1, aI y1), (2, aI y2), (3, aI y3), (4, aI u4)] [] M res (lpX12_come_70 y1 y2 y3 k106 n u4 M) := by
  have hl1 : 1 < xn X := by rw [hN]; decide
  have hl2 : 2 < xn X := by rw [hN]; decide
  have hl3 : 3 < xn X := by rw [hN]; decide
  have hl4 : 4 < xn X := by rw [hN]; decide
  intro n
  induction n with
  | zero => intro _ _; exact i_none
  | succ n ih =>
    intro u4 M
    unfold lpX12_come_70
    refine i_iload C dX12_come_70 (q := 4) rfl ?_
    refine i_iconst C dX12_come_72 kI_3 ?_
    refine i_icmp_ge (tgt := 106) C dX12_come_73 (by decide) ?_ ?_
    · exact i_sub [0, 1, 2] rfl (hk106  M)
    · refine i_aload_n C dX12_come_76 rfl (q := 0) rfl ?_
      refine i_getR C (k := 0) kX12 dX12_come_77 (shR_0 hX) rfl (by decide) fl_X12_7 ?_
      refine i_sipush C dX12_come_80 kS_3710 ?_
      refine i_iconst C dX12_come_83 kI_3 ?_
      refine i_iload_n C dX12_come_84 rfl (q := 1) rfl ?_
      refine i_imul C dX12_come_85 ?_
      refine i_iadd C dX12_come_86 ?_
      refine i_iload C dX12_come_87 (q := 4) rfl ?_
      refine i_iadd C dX12_come_89 ?_
      refine i_aload_n C dX12_come_90 rfl (q := 0) rfl ?_
      refine i_getR C (k := 0) kX12 dX12_come_91 (shR_0 hX) rfl (by decide) fl_X12_7 ?_
      refine i_iload_n C dX12_come_94 rfl (q := 3) rfl ?_
      refine i_iload C dX12_come_95 (q := 4) rfl ?_
      refine i_iadd C dX12_come_97 ?_
      refine i_ald C dX12_come_98 (shR_1 hX) (fun v9 => ?_)
      refine i_ast C dX12_come_99 (shR_1 hX) (fun M10 => ?_)
      refine i_iincN (L' := fun v11 => [(0, aR 0), (1, aI y1), (2, aI y2), (3, aI y3), (4, aI v11)]) C dX12_come_100 (q := 4) rfl hl4 (fun _ => rfl) (fun v11 => ?_)
      refine i_goto (tgt := 70) C dX12_come_103 (by decide) ?_
      exact (ih v11 M10)
set_option maxRecDepth 100000 in
set_option maxHeartbeats 4000000 in
theorem w_X12_come_4 {X : Xc} (C : Cx X RX12 cX12_come none) (hX : xK X = kR) (hN : xn X = 5) (hR : xR X = rmX12_come) {res : Mem} (hq : Rq X none res) {k115 : Int → Mem → Option (Mem)} (hk115 : ∀ (q1 : Int) (M : Mem), Im X 0 0 115 [(0, aR 0), (1, aI q1)] [] M res (k115 q1 M)) : ∀ (n : Nat) (u1 : Int) (u2 : Int) (M : Mem), Im X 0 0 4 [(0, aR 0), (1, aI u1), (2, aI u2)] [] M res (lpX12_come_4 k115 n u1 u2 M) := by
  have hl1 : 1 < xn X := by rw [hN]; decide
  have hl2 : 2 < xn X := by rw [hN]; decide
  have hl3 : 3 < xn X := by rw [hN]; decide
  have hl4 : 4 < xn X := by rw [hN]; decide
  intro n
  induction n with
  | zero => intro _ _ _; exact i_none
  | succ n ih =>
    intro u1 u2 M
    unfold lpX12_come_4
    refine i_iload_n C dX12_come_4 rfl (q := 2) rfl ?_
    refine i_aload_n C dX12_come_5 rfl (q := 0) rfl ?_
    refine i_getR C (k := 0) kX12 dX12_come_6 (shR_0 hX) rfl (by decide) fl_X12_7 ?_
    refine i_iconst C dX12_come_9 kI_5 ?_
    refine i_ald C dX12_come_10 (shR_1 hX) (fun v1 => ?_)
    refine i_icmp_ge (tgt := 115) C dX12_come_11 (by decide) ?_ ?_
    · exact i_sub [0, 1] rfl (hk115 u1 M)
    · refine i_sipush C dX12_come_14 kS_3710 ?_
      refine i_iconst C dX12_come_17 kI_3 ?_
      refine i_iload_n C dX12_come_18 rfl (q := 2) rfl ?_
      refine i_imul C dX12_come_19 ?_
      refine i_iadd C dX12_come_20 ?_
      refine i_nm (fun v2 => ?_)
      refine i_istore_n C dX12_come_21 rfl hl3 (L' := [(0, aR 0), (1, aI u1), (2, aI u2), (3, aI v2)]) rfl ?_
      refine i_aload_n C dX12_come_22 rfl (q := 0) rfl ?_
      refine i_getR C (k := 0) kX12 dX12_come_23 (shR_0 hX) rfl (by decide) fl_X12_7 ?_
      refine i_iload_n C dX12_come_26 rfl (q := 3) rfl ?_
      refine i_iconst C dX12_come_27 kI_1 ?_
      refine i_iadd C dX12_come_28 ?_
      refine i_ald C dX12_come_29 (shR_1 hX) (fun v3 => ?_)
      refine i_aload_n C dX12_come_30 rfl (q := 0) rfl ?_
      refine i_getR C (k := 0) kX12 dX12_come_31 (shR_0 hX) rfl (by decide) fl_X12_7 ?_
      refine i_iconst C dX12_come_34 kI_0 ?_
      refine i_ald C dX12_come_35 (shR_1 hX) (fun v4 => ?_)
      refine i_jn (fun j => ∀ (p5 : Int) (M7 : Mem), Im X 0 0 109 [(0, aR 0), (1, aI p5), (2, aI u2)] [] M7 res (j p5 M7)) ?_ (fun j6 hj6 => ?_)
      · intro p5 M7
        refine i_iincN (L' := fun v8 => [(0, aR 0), (1, aI p5), (2, aI v8)]) C dX12_come_109 (q := 2) rfl hl2 (fun _ => rfl) (fun v8 => ?_)
        refine i_goto (tgt := 4) C dX12_come_112 (by decide) ?_
        exact (ih p5 v8 M7)
      refine i_icmp_gt (tgt := 67) C dX12_come_36 (by decide) ?_ ?_
      · refine i_iconst C dX12_come_67 kI_0 ?_
        refine i_istore C dX12_come_68 hl4 (L' := [(0, aR 0), (1, aI u1), (2, aI u2), (3, aI v2), (4, aI 0)]) rfl ?_
        refine (w_X12_come_70 C hX hN hR hq u1 u2 v2 (fun M12 => ?_) FU 0 M)
        refine i_iincN (L' := fun v13 => [(0, aR 0), (1, aI v13), (2, aI u2)]) C dX12_come_106 (q := 1) rfl hl1 (fun _ => rfl) (fun v13 => ?_)
        exact (hj6 v13 M12)
      · refine i_aload_n C dX12_come_39 rfl (q := 0) rfl ?_
        refine i_getR C (k := 0) kX12 dX12_come_40 (shR_0 hX) rfl (by decide) fl_X12_7 ?_
        refine i_bipush C dX12_come_43 kB_15 ?_
        refine i_aload_n C dX12_come_45 rfl (q := 0) rfl ?_
        refine i_getR C (k := 0) kX12 dX12_come_46 (shR_0 hX) rfl (by decide) fl_X12_7 ?_
        refine i_iload_n C dX12_come_49 rfl (q := 3) rfl ?_
        refine i_ald C dX12_come_50 (shR_1 hX) (fun v14 => ?_)
        refine i_iadd C dX12_come_51 ?_
        refine i_dup2 C dX12_come_52 rfl rfl ?_
        refine i_ald C dX12_come_53 (shR_1 hX) (fun v15 => ?_)
        refine i_aload_n C dX12_come_54 rfl (q := 0) rfl ?_
        refine i_getR C (k := 0) kX12 dX12_come_55 (shR_0 hX) rfl (by decide) fl_X12_7 ?_
        refine i_iload_n C dX12_come_58 rfl (q := 3) rfl ?_
        refine i_iconst C dX12_come_59 kI_2 ?_
        refine i_iadd C dX12_come_60 ?_
        refine i_ald C dX12_come_61 (shR_1 hX) (fun v16 => ?_)
        refine i_ior C dX12_come_62 ?_
        refine i_ast C dX12_come_63 (shR_1 hX) (fun M17 => ?_)
        refine i_goto (tgt := 109) C dX12_come_64 (by decide) ?_
        exact i_sub [0, 1, 2] rfl (hj6 u1 M17)
set_option maxRecDepth 100000 in
set_option maxHeartbeats 4000000 in
theorem c_X12_come (l : Launch) (G : Gx) {K : Kx} (hK : K = kR) {M : Mem} {res : Mem} (hM : OkM M) (ha : okS [aR 0]) (hF : rM_come M = some res) : Ct l G K yX12_come (wsM yX12_come cX12_come 5 none) rmX12_come [aR 0] M none res := by
  refine ct_of RX12 (by decide +kernel) rfl (hK ▸ kR_ok) hM ha (Nat.le_of_ble_eq_true rfl) hF ?_
  intro X C hl hG hX0 hN hR hq
  have hX : xK X = kR := hX0.trans hK
  show Im X 0 0 0 [(0, aR 0)] [] M res (rM_come  M)
  unfold rM_come
  have hl1 : 1 < xn X := by rw [hN]; decide
  have hl2 : 2 < xn X := by rw [hN]; decide
  have hl3 : 3 < xn X := by rw [hN]; decide
  have hl4 : 4 < xn X := by rw [hN]; decide
  refine i_iconst C dX12_come_0 kI_0 ?_
  refine i_istore_n C dX12_come_1 rfl hl1 (L' := [(0, aR 0), (1, aI 0)]) rfl ?_
  refine i_iconst C dX12_come_2 kI_0 ?_
  refine i_istore_n C dX12_come_3 rfl hl2 (L' := [(0, aR 0), (1, aI 0), (2, aI 0)]) rfl ?_
  refine (w_X12_come_4 C hX hN hR hq (fun v18 M19 => ?_) FU 0 0 M)
  refine i_aload_n C dX12_come_115 rfl (q := 0) rfl ?_
  refine i_getR C (k := 0) kX12 dX12_come_116 (shR_0 hX) rfl (by decide) fl_X12_7 ?_
  refine i_iconst C dX12_come_119 kI_5 ?_
  refine i_iload_n C dX12_come_120 rfl (q := 1) rfl ?_
  refine i_ast C dX12_come_121 (shR_1 hX) (fun M20 => ?_)
  exact i_vret C hq dX12_come_122
set_option maxRecDepth 100000 in
set_option maxHeartbeats 4000000 in
theorem c_X12_isOpenNow (l : Launch) (G : Gx) {K : Kx} (hK : K = kR) {x1 : Int} {M : Mem} {res : Int × Mem} (hM : OkM M) (ha : okS [aR 0, aI x1]) (hF : rM_isOpenNow x1 M = some res) : Ct l G K yX12_isOpenNow (wsM yX12_isOpenNow cX12_isOpenNow 5 (some .boolean)) rmX12_isOpenNow [aR 0, aI x1] M (some (aI res.1)) res.2 := by
  refine ct_of RX12 (by decide +kernel) rfl (hK ▸ kR_ok) hM ha (Nat.le_of_ble_eq_true rfl) hF ?_
  intro X C hl hG hX0 hN hR hq
  have hX : xK X = kR := hX0.trans hK
  show Im X 0 0 0 [(0, aR 0), (1, aI x1)] [] M res (rM_isOpenNow x1 M)
  unfold rM_isOpenNow
  have hl2 : 2 < xn X := by rw [hN]; decide
  have hl3 : 3 < xn X := by rw [hN]; decide
  have hl4 : 4 < xn X := by rw [hN]; decide
  have hRm : ∀ {rm : Room} {ny : Nat}, RmOk rmX12_isOpenNow rm ny → RmOk (xR X) rm ny := fun h => by rw [hR]; exact h
  refine i_aload_n C dX12_isOpenNow_0 rfl (q := 0) rfl ?_
  refine i_getR C (k := 0) kX12 dX12_isOpenNow_1 (shR_0 hX) rfl (by decide) fl_X12_7 ?_
  refine i_iconst C dX12_isOpenNow_4 kI_0 ?_
  refine i_ald C dX12_isOpenNow_5 (shR_1 hX) (fun v1 => ?_)
  refine i_bipush C dX12_isOpenNow_6 kB_24 ?_
  refine i_irem C dX12_isOpenNow_8 (by decide) ?_
  refine i_nm (fun v2 => ?_)
  refine i_istore_n C dX12_isOpenNow_9 rfl hl2 (L' := [(0, aR 0), (1, aI x1), (2, aI v2)]) rfl ?_
  refine i_aload_n C dX12_isOpenNow_10 rfl (q := 0) rfl ?_
  refine i_getR C (k := 0) kX12 dX12_isOpenNow_11 (shR_0 hX) rfl (by decide) fl_X12_7 ?_
  refine i_aload_n C dX12_isOpenNow_14 rfl (q := 0) rfl ?_
  refine i_iload_n C dX12_isOpenNow_15 rfl (q := 1) rfl ?_
  refine i_cI (kc' := 0) (ks' := 0) 0 0 2 (fun q hq hM hS => crV C (as := [aI x1]) dX12_isOpenNow_16.1 kX12 (shR_0 hX) ml_X12_86 cal_X12_tieAt cv_X12_tieAt (hRm ⟨Nat.le_of_ble_eq_true rfl, Nat.le_of_ble_eq_true rfl⟩) rfl (Nat.le_of_ble_eq_true rfl) (c_X12_tieAt (xl X) (xG X) hX hM ⟨hS.2.1, hS.1, trivial⟩ hq)) (Nat.le_of_ble_eq_true rfl) (Nat.le_of_ble_eq_true rfl) rfl rfl rfl (fun v4 M3 => ?_)
  refine i_iconst C dX12_isOpenNow_19 kI_4 ?_
  refine i_iadd C dX12_isOpenNow_20 ?_
  refine i_ald C dX12_isOpenNow_21 (shR_1 hX) (fun v5 => ?_)
  refine i_istore_n C dX12_isOpenNow_22 rfl hl3 (L' := [(0, aR 0), (1, aI x1), (2, aI v2), (3, aI v5)]) rfl ?_
  refine i_aload_n C dX12_isOpenNow_23 rfl (q := 0) rfl ?_
  refine i_getR C (k := 0) kX12 dX12_isOpenNow_24 (shR_0 hX) rfl (by decide) fl_X12_7 ?_
  refine i_aload_n C dX12_isOpenNow_27 rfl (q := 0) rfl ?_
  refine i_iload_n C dX12_isOpenNow_28 rfl (q := 1) rfl ?_
  refine i_cI (kc' := 0) (ks' := 0) 0 0 2 (fun q hq hM hS => crV C (as := [aI x1]) dX12_isOpenNow_29.1 kX12 (shR_0 hX) ml_X12_86 cal_X12_tieAt cv_X12_tieAt (hRm ⟨Nat.le_of_ble_eq_true rfl, Nat.le_of_ble_eq_true rfl⟩) rfl (Nat.le_of_ble_eq_true rfl) (c_X12_tieAt (xl X) (xG X) hX hM ⟨hS.2.1, hS.1, trivial⟩ hq)) (Nat.le_of_ble_eq_true rfl) (Nat.le_of_ble_eq_true rfl) rfl rfl rfl (fun v7 M6 => ?_)
  refine i_iconst C dX12_isOpenNow_32 kI_5 ?_
  refine i_iadd C dX12_isOpenNow_33 ?_
  refine i_ald C dX12_isOpenNow_34 (shR_1 hX) (fun v8 => ?_)
  refine i_istore C dX12_isOpenNow_35 hl4 (L' := [(0, aR 0), (1, aI x1), (2, aI v2), (3, aI v5), (4, aI v8)]) rfl ?_
  refine i_iload_n C dX12_isOpenNow_37 rfl (q := 3) rfl ?_
  refine i_iload C dX12_isOpenNow_38 (q := 4) rfl ?_
  refine i_icmp_gt (tgt := 56) C dX12_isOpenNow_40 (by decide) ?_ ?_
  · refine i_iload_n C dX12_isOpenNow_56 rfl (q := 2) rfl ?_
    refine i_iload_n C dX12_isOpenNow_57 rfl (q := 3) rfl ?_
    refine i_icmp_ge (tgt := 67) C dX12_isOpenNow_58 (by decide) ?_ ?_
    · refine i_iconst C dX12_isOpenNow_67 kI_1 ?_
      refine i_goto (tgt := 72) C dX12_isOpenNow_68 (by decide) ?_
      exact i_zret C hq dX12_isOpenNow_72 (Or.inr rfl)
    · refine i_iload_n C dX12_isOpenNow_61 rfl (q := 2) rfl ?_
      refine i_iload C dX12_isOpenNow_62 (q := 4) rfl ?_
      refine i_icmp_gt (tgt := 71) C dX12_isOpenNow_64 (by decide) ?_ ?_
      · refine i_iconst C dX12_isOpenNow_71 kI_0 ?_
        exact i_zret C hq dX12_isOpenNow_72 (Or.inl rfl)
      · refine i_iconst C dX12_isOpenNow_67 kI_1 ?_
        refine i_goto (tgt := 72) C dX12_isOpenNow_68 (by decide) ?_
        exact i_zret C hq dX12_isOpenNow_72 (Or.inr rfl)
  · refine i_iload_n C dX12_isOpenNow_43 rfl (q := 2) rfl ?_
    refine i_i2l C dX12_isOpenNow_44 ?_
    refine i_iload_n C dX12_isOpenNow_45 rfl (q := 3) rfl ?_
    refine i_i2l C dX12_isOpenNow_46 ?_
    refine i_iload C dX12_isOpenNow_47 (q := 4) rfl ?_
    refine i_i2l C dX12_isOpenNow_49 ?_
    refine i_cI (kc' := 0) (ks' := 0) 0 0 3 (fun q hq hM hS => crS C (as := [aL v2, aL v5, aL v8]) dX12_isOpenNow_50.1 ml_X12_78 cal_X12_isIn st_X12_isIn (hRm ⟨Nat.le_of_ble_eq_true rfl, Nat.le_of_ble_eq_true rfl⟩) rfl (Nat.le_of_ble_eq_true rfl) (c_X12_isIn (xl X) (xG X) hX hM ⟨hS.2.2.1, hS.2.1, hS.1, trivial⟩ hq)) (Nat.le_of_ble_eq_true rfl) (Nat.le_of_ble_eq_true rfl) rfl rfl rfl (fun v10 M9 => ?_)
    refine i_goto (tgt := 72) C dX12_isOpenNow_53 (by decide) ?_
    exact i_zretQ C hq dX12_isOpenNow_72
set_option maxRecDepth 100000 in
set_option maxHeartbeats 4000000 in
theorem w_X12_firstAt_4 {X : Xc} (C : Cx X RX12 cX12_firstAt (some .int)) (hX : xK X = kR) (hN : xn X = 4) (hR : xR X = rmX12_firstAt) {res : Int × Mem} (hq : Rq X (some (aI res.1)) res.2) (y1 : Int) : ∀ (n : Nat) (u2 : Int) (u3 : Int) (M : Mem), Im X 0 0 4 [(0, aR 0), (1, aI y1), (2, aI u2), (3, aI u3)] [] M res (lpX12_firstAt_4 y1 n u2 u3 M) := by
  have hl2 : 2 < xn X := by rw [hN]; decide
  have hl3 : 3 < xn X := by rw [hN]; decide
  have hRm : ∀ {rm : Room} {ny : Nat}, RmOk rmX12_firstAt rm ny → RmOk (xR X) rm ny := fun h => by rw [hR]; exact h
  intro n
  induction n with
  | zero => intro _ _ _; exact i_none
  | succ n ih =>
    intro u2 u3 M
    unfold lpX12_firstAt_4
    refine i_iload_n C dX12_firstAt_4 rfl (q := 3) rfl ?_
    refine i_aload_n C dX12_firstAt_5 rfl (q := 0) rfl ?_
    refine i_getR C (k := 0) kX12 dX12_firstAt_6 (shR_0 hX) rfl (by decide) fl_X12_7 ?_
    refine i_iconst C dX12_firstAt_9 kI_2 ?_
    refine i_ald C dX12_firstAt_10 (shR_1 hX) (fun v1 => ?_)
    refine i_icmp_ge (tgt := 71) C dX12_firstAt_11 (by decide) ?_ ?_
    · refine i_iload_n C dX12_firstAt_71 rfl (q := 2) rfl ?_
      exact i_iret C hq dX12_firstAt_72
    · refine i_aload_n C dX12_firstAt_14 rfl (q := 0) rfl ?_
      refine i_getR C (k := 0) kX12 dX12_firstAt_15 (shR_0 hX) rfl (by decide) fl_X12_7 ?_
      refine i_aload_n C dX12_firstAt_18 rfl (q := 0) rfl ?_
      refine i_iload_n C dX12_firstAt_19 rfl (q := 3) rfl ?_
      refine i_cI (kc' := 0) (ks' := 0) 0 0 2 (fun q hq hM hS => crV C (as := [aI u3]) dX12_firstAt_20.1 kX12 (shR_0 hX) ml_X12_93 cal_X12_personAt cv_X12_personAt (hRm ⟨Nat.le_of_ble_eq_true rfl, Nat.le_of_ble_eq_true rfl⟩) rfl (Nat.le_of_ble_eq_true rfl) (c_X12_personAt (xl X) (xG X) hX hM ⟨hS.2.1, hS.1, trivial⟩ hq)) (Nat.le_of_ble_eq_true rfl) (Nat.le_of_ble_eq_true rfl) rfl rfl rfl (fun v3 M2 => ?_)
      refine i_iconst C dX12_firstAt_23 kI_4 ?_
      refine i_iadd C dX12_firstAt_24 ?_
      refine i_ald C dX12_firstAt_25 (shR_1 hX) (fun v4 => ?_)
      refine i_iload_n C dX12_firstAt_26 rfl (q := 1) rfl ?_
      refine i_jn (fun j => ∀ (p5 : Int) (M7 : Mem), Im X 0 0 65 [(0, aR 0), (1, aI y1), (2, aI p5), (3, aI u3)] [] M7 res (j p5 M7)) ?_ (fun j6 hj6 => ?_)
      · intro p5 M7
        refine i_iincN (L' := fun v8 => [(0, aR 0), (1, aI y1), (2, aI p5), (3, aI v8)]) C dX12_firstAt_65 (q := 3) rfl hl3 (fun _ => rfl) (fun v8 => ?_)
        refine i_goto (tgt := 4) C dX12_firstAt_68 (by decide) ?_
        exact (ih p5 v8 M7)
      refine i_icmp_ne (tgt := 65) C dX12_firstAt_27 (by decide) ?_ ?_
      · exact (hj6 u2 M2)
      · refine i_iload_n C dX12_firstAt_30 rfl (q := 2) rfl ?_
        refine i_jn (fun j => ∀  (M10 : Mem), Im X 0 0 63 [(0, aR 0), (1, aI y1), (3, aI u3)] [] M10 res (j  M10)) ?_ (fun j9 hj9 => ?_)
        · intro  M10
          refine i_iload_n C dX12_firstAt_63 rfl (q := 2) rfl ?_
          refine i_istore_n C dX12_firstAt_64 rfl hl2 (L' := [(0, aR 0), (1, aI y1), (2, aI u3), (3, aI u3)]) rfl ?_
          exact (hj6 u3 M10)
        refine i_if_lt (tgt := 63) C dX12_firstAt_31 (by decide) ?_ ?_
        · exact i_sub [0, 1, 3] rfl (hj9  M2)
        · refine i_aload_n C dX12_firstAt_34 rfl (q := 0) rfl ?_
          refine i_getR C (k := 0) kX12 dX12_firstAt_35 (shR_0 hX) rfl (by decide) fl_X12_7 ?_
          refine i_aload_n C dX12_firstAt_38 rfl (q := 0) rfl ?_
          refine i_iload_n C dX12_firstAt_39 rfl (q := 3) rfl ?_
          refine i_cI (kc' := 0) (ks' := 0) 0 0 2 (fun q hq hM hS => crV C (as := [aI u3]) dX12_firstAt_40.1 kX12 (shR_0 hX) ml_X12_93 cal_X12_personAt cv_X12_personAt (hRm ⟨Nat.le_of_ble_eq_true rfl, Nat.le_of_ble_eq_true rfl⟩) rfl (Nat.le_of_ble_eq_true rfl) (c_X12_personAt (xl X) (xG X) hX hM ⟨hS.2.1, hS.1, trivial⟩ hq)) (Nat.le_of_ble_eq_true rfl) (Nat.le_of_ble_eq_true rfl) rfl rfl rfl (fun v12 M11 => ?_)
          refine i_bipush C dX12_firstAt_43 kB_6 ?_
          refine i_iadd C dX12_firstAt_45 ?_
          refine i_ald C dX12_firstAt_46 (shR_1 hX) (fun v13 => ?_)
          refine i_aload_n C dX12_firstAt_47 rfl (q := 0) rfl ?_
          refine i_getR C (k := 0) kX12 dX12_firstAt_48 (shR_0 hX) rfl (by decide) fl_X12_7 ?_
          refine i_aload_n C dX12_firstAt_51 rfl (q := 0) rfl ?_
          refine i_iload_n C dX12_firstAt_52 rfl (q := 2) rfl ?_
          refine i_cI (kc' := 0) (ks' := 0) 0 0 2 (fun q hq hM hS => crV C (as := [aI u2]) dX12_firstAt_53.1 kX12 (shR_0 hX) ml_X12_93 cal_X12_personAt cv_X12_personAt (hRm ⟨Nat.le_of_ble_eq_true rfl, Nat.le_of_ble_eq_true rfl⟩) rfl (Nat.le_of_ble_eq_true rfl) (c_X12_personAt (xl X) (xG X) hX hM ⟨hS.2.1, hS.1, trivial⟩ hq)) (Nat.le_of_ble_eq_true rfl) (Nat.le_of_ble_eq_true rfl) rfl rfl rfl (fun v15 M14 => ?_)
          refine i_bipush C dX12_firstAt_56 kB_6 ?_
          refine i_iadd C dX12_firstAt_58 ?_
          refine i_ald C dX12_firstAt_59 (shR_1 hX) (fun v16 => ?_)
          refine i_icmp_ge (tgt := 65) C dX12_firstAt_60 (by decide) ?_ ?_
          · exact (hj6 u2 M14)
          · exact i_sub [0, 1, 3] rfl (hj9  M14)
set_option maxRecDepth 100000 in
set_option maxHeartbeats 4000000 in
theorem c_X12_firstAt (l : Launch) (G : Gx) {K : Kx} (hK : K = kR) {x1 : Int} {M : Mem} {res : Int × Mem} (hM : OkM M) (ha : okS [aR 0, aI x1]) (hF : rM_firstAt x1 M = some res) : Ct l G K yX12_firstAt (wsM yX12_firstAt cX12_firstAt 4 (some .int)) rmX12_firstAt [aR 0, aI x1] M (some (aI res.1)) res.2 := by
  refine ct_of RX12 (by decide +kernel) rfl (hK ▸ kR_ok) hM ha (Nat.le_of_ble_eq_true rfl) hF ?_
  intro X C hl hG hX0 hN hR hq
  have hX : xK X = kR := hX0.trans hK
  show Im X 0 0 0 [(0, aR 0), (1, aI x1)] [] M res (rM_firstAt x1 M)
  unfold rM_firstAt
  have hl2 : 2 < xn X := by rw [hN]; decide
  have hl3 : 3 < xn X := by rw [hN]; decide
  have hRm : ∀ {rm : Room} {ny : Nat}, RmOk rmX12_firstAt rm ny → RmOk (xR X) rm ny := fun h => by rw [hR]; exact h
  refine i_iconst C dX12_firstAt_0 kI_m1 ?_
  refine i_istore_n C dX12_firstAt_1 rfl hl2 (L' := [(0, aR 0), (1, aI x1), (2, aI (-1))]) rfl ?_
  refine i_iconst C dX12_firstAt_2 kI_0 ?_
  refine i_istore_n C dX12_firstAt_3 rfl hl3 (L' := [(0, aR 0), (1, aI x1), (2, aI (-1)), (3, aI 0)]) rfl ?_
  exact (w_X12_firstAt_4 C hX hN hR hq x1 FU (-1) 0 M)
set_option maxRecDepth 100000 in
set_option maxHeartbeats 4000000 in
theorem c_X12_crosses (l : Launch) (G : Gx) {K : Kx} (hK : K = kR) {x1 : Int} {x2 : Int} {M : Mem} {res : Mem} (hM : OkM M) (ha : okS [aR 0, aI x1, aI x2]) (hF : rM_crosses x1 x2 M = some res) : Ct l G K yX12_crosses (wsM yX12_crosses cX12_crosses 8 none) rmX12_crosses [aR 0, aI x1, aI x2] M none res := by
  refine ct_of RX12 (by decide +kernel) rfl (hK ▸ kR_ok) hM ha (Nat.le_of_ble_eq_true rfl) hF ?_
  intro X C hl hG hX0 hN hR hq
  have hX : xK X = kR := hX0.trans hK
  show Im X 0 0 0 [(0, aR 0), (1, aI x1), (2, aI x2)] [] M res (rM_crosses x1 x2 M)
  unfold rM_crosses
  have hl3 : 3 < xn X := by rw [hN]; decide
  have hl4 : 4 < xn X := by rw [hN]; decide
  have hl5 : 5 < xn X := by rw [hN]; decide
  have hl6 : 6 < xn X := by rw [hN]; decide
  have hl7 : 7 < xn X := by rw [hN]; decide
  have hRm : ∀ {rm : Room} {ny : Nat}, RmOk rmX12_crosses rm ny → RmOk (xR X) rm ny := fun h => by rw [hR]; exact h
  refine i_aload_n C dX12_crosses_0 rfl (q := 0) rfl ?_
  refine i_iload_n C dX12_crosses_1 rfl (q := 1) rfl ?_
  refine i_cI (kc' := 0) (ks' := 0) 0 0 2 (fun q hq hM hS => crV C (as := [aI x1]) dX12_crosses_2.1 kX12 (shR_0 hX) ml_X12_93 cal_X12_personAt cv_X12_personAt (hRm ⟨Nat.le_of_ble_eq_true rfl, Nat.le_of_ble_eq_true rfl⟩) rfl (Nat.le_of_ble_eq_true rfl) (c_X12_personAt (xl X) (xG X) hX hM ⟨hS.2.1, hS.1, trivial⟩ hq)) (Nat.le_of_ble_eq_true rfl) (Nat.le_of_ble_eq_true rfl) rfl rfl rfl (fun v2 M1 => ?_)
  refine i_istore_n C dX12_crosses_5 rfl hl3 (L' := [(0, aR 0), (1, aI x1), (2, aI x2), (3, aI v2)]) rfl ?_
  refine i_aload_n C dX12_crosses_6 rfl (q := 0) rfl ?_
  refine i_iload_n C dX12_crosses_7 rfl (q := 1) rfl ?_
  refine i_cI (kc' := 0) (ks' := 0) 0 0 2 (fun q hq hM hS => crV C (as := [aI x1]) dX12_crosses_8.1 kX12 (shR_0 hX) ml_X12_135 cal_X12_ownSide cv_X12_ownSide (hRm ⟨Nat.le_of_ble_eq_true rfl, Nat.le_of_ble_eq_true rfl⟩) rfl (Nat.le_of_ble_eq_true rfl) (c_X12_ownSide (xl X) (xG X) hX hM ⟨hS.2.1, hS.1, trivial⟩ hq)) (Nat.le_of_ble_eq_true rfl) (Nat.le_of_ble_eq_true rfl) rfl rfl rfl (fun v4 M3 => ?_)
  refine i_istore C dX12_crosses_11 hl4 (L' := [(0, aR 0), (1, aI x1), (2, aI x2), (3, aI v2), (4, aI v4)]) rfl ?_
  refine i_aload_n C dX12_crosses_13 rfl (q := 0) rfl ?_
  refine i_getR C (k := 0) kX12 dX12_crosses_14 (shR_0 hX) rfl (by decide) fl_X12_7 ?_
  refine i_aload_n C dX12_crosses_17 rfl (q := 0) rfl ?_
  refine i_iload_n C dX12_crosses_18 rfl (q := 2) rfl ?_
  refine i_cI (kc' := 0) (ks' := 0) 0 0 2 (fun q hq hM hS => crV C (as := [aI x2]) dX12_crosses_19.1 kX12 (shR_0 hX) ml_X12_86 cal_X12_tieAt cv_X12_tieAt (hRm ⟨Nat.le_of_ble_eq_true rfl, Nat.le_of_ble_eq_true rfl⟩) rfl (Nat.le_of_ble_eq_true rfl) (c_X12_tieAt (xl X) (xG X) hX hM ⟨hS.2.1, hS.1, trivial⟩ hq)) (Nat.le_of_ble_eq_true rfl) (Nat.le_of_ble_eq_true rfl) rfl rfl rfl (fun v6 M5 => ?_)
  refine i_iconst C dX12_crosses_22 kI_1 ?_
  refine i_iadd C dX12_crosses_23 ?_
  refine i_ald C dX12_crosses_24 (shR_1 hX) (fun v7 => ?_)
  refine i_istore C dX12_crosses_25 hl5 (L' := [(0, aR 0), (1, aI x1), (2, aI x2), (3, aI v2), (4, aI v4), (5, aI v7)]) rfl ?_
  refine i_aload_n C dX12_crosses_27 rfl (q := 0) rfl ?_
  refine i_getR C (k := 0) kX12 dX12_crosses_28 (shR_0 hX) rfl (by decide) fl_X12_7 ?_
  refine i_aload_n C dX12_crosses_31 rfl (q := 0) rfl ?_
  refine i_iload_n C dX12_crosses_32 rfl (q := 2) rfl ?_
  refine i_cI (kc' := 0) (ks' := 0) 0 0 2 (fun q hq hM hS => crV C (as := [aI x2]) dX12_crosses_33.1 kX12 (shR_0 hX) ml_X12_86 cal_X12_tieAt cv_X12_tieAt (hRm ⟨Nat.le_of_ble_eq_true rfl, Nat.le_of_ble_eq_true rfl⟩) rfl (Nat.le_of_ble_eq_true rfl) (c_X12_tieAt (xl X) (xG X) hX hM ⟨hS.2.1, hS.1, trivial⟩ hq)) (Nat.le_of_ble_eq_true rfl) (Nat.le_of_ble_eq_true rfl) rfl rfl rfl (fun v9 M8 => ?_)
  refine i_iconst C dX12_crosses_36 kI_2 ?_
  refine i_iadd C dX12_crosses_37 ?_
  refine i_ald C dX12_crosses_38 (shR_1 hX) (fun v10 => ?_)
  refine i_istore C dX12_crosses_39 hl6 (L' := [(0, aR 0), (1, aI x1), (2, aI x2), (3, aI v2), (4, aI v4), (5, aI v7), (6, aI v10)]) rfl ?_
  refine i_aload_n C dX12_crosses_41 rfl (q := 0) rfl ?_
  refine i_aload_n C dX12_crosses_42 rfl (q := 0) rfl ?_
  refine i_getR C (k := 0) kX12 dX12_crosses_43 (shR_0 hX) rfl (by decide) fl_X12_7 ?_
  refine i_iload_n C dX12_crosses_46 rfl (q := 3) rfl ?_
  refine i_iconst C dX12_crosses_47 kI_5 ?_
  refine i_iadd C dX12_crosses_48 ?_
  refine i_ald C dX12_crosses_49 (shR_1 hX) (fun v11 => ?_)
  refine i_cI (kc' := 0) (ks' := 0) 0 0 2 (fun q hq hM hS => crV C (as := [aI v11]) dX12_crosses_50.1 kX12 (shR_0 hX) ml_X12_86 cal_X12_tieAt cv_X12_tieAt (hRm ⟨Nat.le_of_ble_eq_true rfl, Nat.le_of_ble_eq_true rfl⟩) rfl (Nat.le_of_ble_eq_true rfl) (c_X12_tieAt (xl X) (xG X) hX hM ⟨hS.2.1, hS.1, trivial⟩ hq)) (Nat.le_of_ble_eq_true rfl) (Nat.le_of_ble_eq_true rfl) rfl rfl rfl (fun v13 M12 => ?_)
  refine i_istore C dX12_crosses_53 hl7 (L' := [(0, aR 0), (1, aI x1), (2, aI x2), (3, aI v2), (4, aI v4), (5, aI v7), (6, aI v10), (7, aI v13)]) rfl ?_
  refine i_aload_n C dX12_crosses_55 rfl (q := 0) rfl ?_
  refine i_getR C (k := 0) kX12 dX12_crosses_56 (shR_0 hX) rfl (by decide) fl_X12_7 ?_
  refine i_iload_n C dX12_crosses_59 rfl (q := 3) rfl ?_
  refine i_iconst C dX12_crosses_60 kI_3 ?_
  refine i_iadd C dX12_crosses_61 ?_
  refine i_aload_n C dX12_crosses_62 rfl (q := 0) rfl ?_
  refine i_iload C dX12_crosses_63 (q := 5) rfl ?_
  refine i_cI (kc' := 0) (ks' := 0) 0 0 2 (fun q hq hM hS => crV C (as := [aI v7]) dX12_crosses_65.1 kX12 (shR_0 hX) ml_X12_96 cal_X12_sideOf cv_X12_sideOf (hRm ⟨Nat.le_of_ble_eq_true rfl, Nat.le_of_ble_eq_true rfl⟩) rfl (Nat.le_of_ble_eq_true rfl) (c_X12_sideOf (xl X) (xG X) hX hM ⟨hS.2.1, hS.1, trivial⟩ hq)) (Nat.le_of_ble_eq_true rfl) (Nat.le_of_ble_eq_true rfl) rfl rfl rfl (fun v15 M14 => ?_)
  refine i_iload C dX12_crosses_68 (q := 4) rfl ?_
  refine i_jn (fun j => ∀ (p16 : Int) (M18 : Mem), Im X 0 0 91 [(0, aR 0), (3, aI v2), (4, aI v4), (7, aI v13)] [aI p16, aI (w32 (v2 + 3)), aR 1] M18 res (j p16 M18)) ?_ (fun j17 hj17 => ?_)
  · intro p16 M18
    refine i_ast C dX12_crosses_91 (shR_1 hX) (fun M19 => ?_)
    refine i_aload_n C dX12_crosses_92 rfl (q := 0) rfl ?_
    refine i_getR C (k := 0) kX12 dX12_crosses_93 (shR_0 hX) rfl (by decide) fl_X12_7 ?_
    refine i_iload_n C dX12_crosses_96 rfl (q := 1) rfl ?_
    refine i_iconst C dX12_crosses_97 kI_4 ?_
    refine i_iadd C dX12_crosses_98 ?_
    refine i_iconst C dX12_crosses_99 kI_m1 ?_
    refine i_ast C dX12_crosses_100 (shR_1 hX) (fun M20 => ?_)
    refine i_aload_n C dX12_crosses_101 rfl (q := 0) rfl ?_
    refine i_getR C (k := 0) kX12 dX12_crosses_102 (shR_0 hX) rfl (by decide) fl_X12_7 ?_
    refine i_iload_n C dX12_crosses_105 rfl (q := 1) rfl ?_
    refine i_iconst C dX12_crosses_106 kI_5 ?_
    refine i_iadd C dX12_crosses_107 ?_
    refine i_iconst C dX12_crosses_108 kI_m1 ?_
    refine i_ast C dX12_crosses_109 (shR_1 hX) (fun M21 => ?_)
    refine i_aload_n C dX12_crosses_110 rfl (q := 0) rfl ?_
    refine i_getR C (k := 0) kX12 dX12_crosses_111 (shR_0 hX) rfl (by decide) fl_X12_7 ?_
    refine i_iload C dX12_crosses_114 (q := 3) rfl ?_
    refine i_bipush C dX12_crosses_116 kB_6 ?_
    refine i_iadd C dX12_crosses_118 ?_
    refine i_iconst C dX12_crosses_119 kI_1 ?_
    refine i_ast C dX12_crosses_120 (shR_1 hX) (fun M22 => ?_)
    refine i_aload_n C dX12_crosses_121 rfl (q := 0) rfl ?_
    refine i_getR C (k := 0) kX12 dX12_crosses_122 (shR_0 hX) rfl (by decide) fl_X12_7 ?_
    refine i_iload C dX12_crosses_125 (q := 3) rfl ?_
    refine i_bipush C dX12_crosses_127 kB_9 ?_
    refine i_iadd C dX12_crosses_129 ?_
    refine i_aload_n C dX12_crosses_130 rfl (q := 0) rfl ?_
    refine i_getR C (k := 0) kX12 dX12_crosses_131 (shR_0 hX) rfl (by decide) fl_X12_7 ?_
    refine i_iconst C dX12_crosses_134 kI_0 ?_
    refine i_ald C dX12_crosses_135 (shR_1 hX) (fun v23 => ?_)
    refine i_aload_n C dX12_crosses_136 rfl (q := 0) rfl ?_
    refine i_getR C (k := 0) kX12 dX12_crosses_137 (shR_0 hX) rfl (by decide) fl_X12_7 ?_
    refine i_iload C dX12_crosses_140 (q := 3) rfl ?_
    refine i_iconst C dX12_crosses_142 kI_3 ?_
    refine i_iadd C dX12_crosses_143 ?_
    refine i_ald C dX12_crosses_144 (shR_1 hX) (fun v24 => ?_)
    refine i_iadd C dX12_crosses_145 ?_
    refine i_ast C dX12_crosses_146 (shR_1 hX) (fun M25 => ?_)
    refine i_aload_n C dX12_crosses_147 rfl (q := 0) rfl ?_
    refine i_getR C (k := 0) kX12 dX12_crosses_148 (shR_0 hX) rfl (by decide) fl_X12_7 ?_
    refine i_bipush C dX12_crosses_151 kB_16 ?_
    refine i_iload C dX12_crosses_153 (q := 2) rfl ?_
    refine i_isub C dX12_crosses_155 ?_
    refine i_dup2 C dX12_crosses_156 rfl rfl ?_
    refine i_ald C dX12_crosses_157 (shR_1 hX) (fun v26 => ?_)
    refine i_aload_n C dX12_crosses_158 rfl (q := 0) rfl ?_
    refine i_getR C (k := 0) kX12 dX12_crosses_159 (shR_0 hX) rfl (by decide) fl_X12_7 ?_
    refine i_bipush C dX12_crosses_162 kB_15 ?_
    refine i_iload C dX12_crosses_164 (q := 2) rfl ?_
    refine i_iadd C dX12_crosses_166 ?_
    refine i_ald C dX12_crosses_167 (shR_1 hX) (fun v27 => ?_)
    refine i_ior C dX12_crosses_168 ?_
    refine i_ast C dX12_crosses_169 (shR_1 hX) (fun M28 => ?_)
    exact i_vret C hq dX12_crosses_170
  refine i_jn (fun j => ∀  (M30 : Mem), Im X 0 0 89 [(0, aR 0), (3, aI v2), (4, aI v4), (6, aI v10), (7, aI v13)] [aI (w32 (v2 + 3)), aR 1] M30 res (j  M30)) ?_ (fun j29 hj29 => ?_)
  · intro  M30
    refine i_iload C dX12_crosses_89 (q := 3) rfl ?_
    exact i_sub [0, 1, 2, 4] rfl (hj17 v10 M30)
  refine i_icmp_eq (tgt := 89) C dX12_crosses_70 (by decide) ?_ ?_
  · exact i_sub [0, 3, 4, 6, 7] rfl (hj29  M14)
  · refine i_aload_n C dX12_crosses_73 rfl (q := 0) rfl ?_
    refine i_iload C dX12_crosses_74 (q := 6) rfl ?_
    refine i_cI (kc' := 0) (ks' := 0) 0 0 2 (fun q hq hM hS => crV C (as := [aI v10]) dX12_crosses_76.1 kX12 (shR_0 hX) ml_X12_96 cal_X12_sideOf cv_X12_sideOf (hRm ⟨Nat.le_of_ble_eq_true rfl, Nat.le_of_ble_eq_true rfl⟩) rfl (Nat.le_of_ble_eq_true rfl) (c_X12_sideOf (xl X) (xG X) hX hM ⟨hS.2.1, hS.1, trivial⟩ hq)) (Nat.le_of_ble_eq_true rfl) (Nat.le_of_ble_eq_true rfl) rfl rfl rfl (fun v32 M31 => ?_)
    refine i_iload C dX12_crosses_79 (q := 4) rfl ?_
    refine i_icmp_ne (tgt := 89) C dX12_crosses_81 (by decide) ?_ ?_
    · exact i_sub [0, 3, 4, 6, 7] rfl (hj29  M31)
    · refine i_iload C dX12_crosses_84 (q := 5) rfl ?_
      refine i_goto (tgt := 91) C dX12_crosses_86 (by decide) ?_
      exact i_sub [0, 3, 4, 7] rfl (hj17 v7 M31)
set_option maxRecDepth 100000 in
set_option maxHeartbeats 4000000 in
theorem w_X12_lets_2 {X : Xc} (C : Cx X RX12 cX12_lets none) (hX : xK X = kR) (hN : xn X = 4) (hR : xR X = rmX12_lets) {res : Mem} (hq : Rq X none res) (y1 : Int) : ∀ (n : Nat) (u2 : Int) (M : Mem), Im X 0 0 2 [(0, aR 0), (1, aI y1), (2, aI u2)] [] M res (lpX12_lets_2 y1 n u2 M) := by
  have hl2 : 2 < xn X := by rw [hN]; decide
  have hl3 : 3 < xn X := by rw [hN]; decide
  have hRm : ∀ {rm : Room} {ny : Nat}, RmOk rmX12_lets rm ny → RmOk (xR X) rm ny := fun h => by rw [hR]; exact h
  intro n
  induction n with
  | zero => intro _ _; exact i_none
  | succ n ih =>
    intro u2 M
    unfold lpX12_lets_2
    refine i_iload_n C dX12_lets_2 rfl (q := 2) rfl ?_
    refine i_aload_n C dX12_lets_3 rfl (q := 0) rfl ?_
    refine i_getR C (k := 0) kX12 dX12_lets_4 (shR_0 hX) rfl (by decide) fl_X12_7 ?_
    refine i_aload_n C dX12_lets_7 rfl (q := 0) rfl ?_
    refine i_iload_n C dX12_lets_8 rfl (q := 1) rfl ?_
    refine i_cI (kc' := 0) (ks' := 0) 0 0 2 (fun q hq hM hS => crV C (as := [aI y1]) dX12_lets_9.1 kX12 (shR_0 hX) ml_X12_86 cal_X12_tieAt cv_X12_tieAt (hRm ⟨Nat.le_of_ble_eq_true rfl, Nat.le_of_ble_eq_true rfl⟩) rfl (Nat.le_of_ble_eq_true rfl) (c_X12_tieAt (xl X) (xG X) hX hM ⟨hS.2.1, hS.1, trivial⟩ hq)) (Nat.le_of_ble_eq_true rfl) (Nat.le_of_ble_eq_true rfl) rfl rfl rfl (fun v2 M1 => ?_)
    refine i_iconst C dX12_lets_12 kI_3 ?_
    refine i_iadd C dX12_lets_13 ?_
    refine i_ald C dX12_lets_14 (shR_1 hX) (fun v3 => ?_)
    refine i_icmp_ge (tgt := 40) C dX12_lets_15 (by decide) ?_ ?_
    · exact i_vret C hq dX12_lets_40
    · refine i_aload_n C dX12_lets_18 rfl (q := 0) rfl ?_
      refine i_iload_n C dX12_lets_19 rfl (q := 1) rfl ?_
      refine i_cI (kc' := 0) (ks' := 0) 0 0 2 (fun q hq hM hS => crV C (as := [aI y1]) dX12_lets_20.1 kX12 (shR_0 hX) ml_X12_190 cal_X12_firstAt cv_X12_firstAt (hRm ⟨Nat.le_of_ble_eq_true rfl, Nat.le_of_ble_eq_true rfl⟩) rfl (Nat.le_of_ble_eq_true rfl) (c_X12_firstAt (xl X) (xG X) hX hM ⟨hS.2.1, hS.1, trivial⟩ hq)) (Nat.le_of_ble_eq_true rfl) (Nat.le_of_ble_eq_true rfl) rfl rfl rfl (fun v5 M4 => ?_)
      refine i_istore_n C dX12_lets_23 rfl hl3 (L' := [(0, aR 0), (1, aI y1), (2, aI u2), (3, aI v5)]) rfl ?_
      refine i_iload_n C dX12_lets_24 rfl (q := 3) rfl ?_
      refine i_jn (fun j => ∀  (M7 : Mem), Im X 0 0 34 [(0, aR 0), (1, aI y1), (2, aI u2)] [] M7 res (j  M7)) ?_ (fun j6 hj6 => ?_)
      · intro  M7
        refine i_iincN (L' := fun v8 => [(0, aR 0), (1, aI y1), (2, aI v8)]) C dX12_lets_34 (q := 2) rfl hl2 (fun _ => rfl) (fun v8 => ?_)
        refine i_goto (tgt := 2) C dX12_lets_37 (by decide) ?_
        exact (ih v8 M7)
      refine i_if_lt (tgt := 34) C dX12_lets_25 (by decide) ?_ ?_
      · exact i_sub [0, 1, 2] rfl (hj6  M4)
      · refine i_aload_n C dX12_lets_28 rfl (q := 0) rfl ?_
        refine i_iload_n C dX12_lets_29 rfl (q := 3) rfl ?_
        refine i_iload_n C dX12_lets_30 rfl (q := 1) rfl ?_
        refine i_cV (kc' := 0) (ks' := 0) 0 0 3 (fun q hq hM hS => crV C (as := [aI v5, aI y1]) dX12_lets_31.1 kX12 (shR_0 hX) ml_X12_193 cal_X12_crosses cv_X12_crosses (hRm ⟨Nat.le_of_ble_eq_true rfl, Nat.le_of_ble_eq_true rfl⟩) rfl (Nat.le_of_ble_eq_true rfl) (c_X12_crosses (xl X) (xG X) hX hM ⟨hS.2.2.1, hS.2.1, hS.1, trivial⟩ hq)) (Nat.le_of_ble_eq_true rfl) (Nat.le_of_ble_eq_true rfl) rfl rfl rfl (fun M9 => ?_)
        exact i_sub [0, 1, 2] rfl (hj6  M9)
set_option maxRecDepth 100000 in
set_option maxHeartbeats 4000000 in
theorem c_X12_lets (l : Launch) (G : Gx) {K : Kx} (hK : K = kR) {x1 : Int} {M : Mem} {res : Mem} (hM : OkM M) (ha : okS [aR 0, aI x1]) (hF : rM_lets x1 M = some res) : Ct l G K yX12_lets (wsM yX12_lets cX12_lets 4 none) rmX12_lets [aR 0, aI x1] M none res := by
  refine ct_of RX12 (by decide +kernel) rfl (hK ▸ kR_ok) hM ha (Nat.le_of_ble_eq_true rfl) hF ?_
  intro X C hl hG hX0 hN hR hq
  have hX : xK X = kR := hX0.trans hK
  show Im X 0 0 0 [(0, aR 0), (1, aI x1)] [] M res (rM_lets x1 M)
  unfold rM_lets
  have hl2 : 2 < xn X := by rw [hN]; decide
  have hl3 : 3 < xn X := by rw [hN]; decide
  have hRm : ∀ {rm : Room} {ny : Nat}, RmOk rmX12_lets rm ny → RmOk (xR X) rm ny := fun h => by rw [hR]; exact h
  refine i_iconst C dX12_lets_0 kI_0 ?_
  refine i_istore_n C dX12_lets_1 rfl hl2 (L' := [(0, aR 0), (1, aI x1), (2, aI 0)]) rfl ?_
  exact (w_X12_lets_2 C hX hN hR hq x1 FU 0 M)
set_option maxRecDepth 100000 in
set_option maxHeartbeats 4000000 in
theorem c_X12_returns (l : Launch) (G : Gx) {K : Kx} (hK : K = kR) {x1 : Int} {M : Mem} {res : Mem} (hM : OkM M) (ha : okS [aR 0, aI x1]) (hF : rM_returns x1 M = some res) : Ct l G K yX12_returns (wsM yX12_returns cX12_returns 5 none) rmX12_returns [aR 0, aI x1] M none res := by
  refine ct_of RX12 (by decide +kernel) rfl (hK ▸ kR_ok) hM ha (Nat.le_of_ble_eq_true rfl) hF ?_
  intro X C hl hG hX0 hN hR hq
  have hX : xK X = kR := hX0.trans hK
  show Im X 0 0 0 [(0, aR 0), (1, aI x1)] [] M res (rM_returns x1 M)
  unfold rM_returns
  have hl2 : 2 < xn X := by rw [hN]; decide
  have hl3 : 3 < xn X := by rw [hN]; decide
  have hl4 : 4 < xn X := by rw [hN]; decide
  have hRm : ∀ {rm : Room} {ny : Nat}, RmOk rmX12_returns rm ny → RmOk (xR X) rm ny := fun h => by rw [hR]; exact h
  refine i_aload_n C dX12_returns_0 rfl (q := 0) rfl ?_
  refine i_iload_n C dX12_returns_1 rfl (q := 1) rfl ?_
  refine i_cI (kc' := 0) (ks' := 0) 0 0 2 (fun q hq hM hS => crV C (as := [aI x1]) dX12_returns_2.1 kX12 (shR_0 hX) ml_X12_86 cal_X12_tieAt cv_X12_tieAt (hRm ⟨Nat.le_of_ble_eq_true rfl, Nat.le_of_ble_eq_true rfl⟩) rfl (Nat.le_of_ble_eq_true rfl) (c_X12_tieAt (xl X) (xG X) hX hM ⟨hS.2.1, hS.1, trivial⟩ hq)) (Nat.le_of_ble_eq_true rfl) (Nat.le_of_ble_eq_true rfl) rfl rfl rfl (fun v2 M1 => ?_)
  refine i_istore_n C dX12_returns_5 rfl hl2 (L' := [(0, aR 0), (1, aI x1), (2, aI v2)]) rfl ?_
  refine i_aload_n C dX12_returns_6 rfl (q := 0) rfl ?_
  refine i_getR C (k := 0) kX12 dX12_returns_7 (shR_0 hX) rfl (by decide) fl_X12_7 ?_
  refine i_iload_n C dX12_returns_10 rfl (q := 2) rfl ?_
  refine i_iconst C dX12_returns_11 kI_1 ?_
  refine i_iadd C dX12_returns_12 ?_
  refine i_ald C dX12_returns_13 (shR_1 hX) (fun v3 => ?_)
  refine i_istore_n C dX12_returns_14 rfl hl3 (L' := [(0, aR 0), (1, aI x1), (2, aI v2), (3, aI v3)]) rfl ?_
  refine i_aload_n C dX12_returns_15 rfl (q := 0) rfl ?_
  refine i_getR C (k := 0) kX12 dX12_returns_16 (shR_0 hX) rfl (by decide) fl_X12_7 ?_
  refine i_iload_n C dX12_returns_19 rfl (q := 2) rfl ?_
  refine i_bipush C dX12_returns_20 kB_6 ?_
  refine i_iadd C dX12_returns_22 ?_
  refine i_iconst C dX12_returns_23 kI_2 ?_
  refine i_ast C dX12_returns_24 (shR_1 hX) (fun M4 => ?_)
  refine i_aload_n C dX12_returns_25 rfl (q := 0) rfl ?_
  refine i_iload_n C dX12_returns_26 rfl (q := 3) rfl ?_
  refine i_cI (kc' := 0) (ks' := 0) 0 0 2 (fun q hq hM hS => crV C (as := [aI v3]) dX12_returns_27.1 kX12 (shR_0 hX) ml_X12_129 cal_X12_isDead cv_X12_isDead (hRm ⟨Nat.le_of_ble_eq_true rfl, Nat.le_of_ble_eq_true rfl⟩) rfl (Nat.le_of_ble_eq_true rfl) (c_X12_isDead (xl X) (xG X) hX hM ⟨hS.2.1, hS.1, trivial⟩ hq)) (Nat.le_of_ble_eq_true rfl) (Nat.le_of_ble_eq_true rfl) rfl rfl rfl (fun v6 M5 => ?_)
  refine i_if_ne (tgt := 68) C dX12_returns_30 (by decide) ?_ ?_
  · exact i_vret C hq dX12_returns_68
  · refine i_aload_n C dX12_returns_33 rfl (q := 0) rfl ?_
    refine i_iload_n C dX12_returns_34 rfl (q := 3) rfl ?_
    refine i_cV (kc' := 0) (ks' := 0) 0 0 2 (fun q hq hM hS => crV C (as := [aI v3]) dX12_returns_35.1 kX12 (shR_0 hX) ml_X12_173 cal_X12_goesHome cv_X12_goesHome (hRm ⟨Nat.le_of_ble_eq_true rfl, Nat.le_of_ble_eq_true rfl⟩) rfl (Nat.le_of_ble_eq_true rfl) (c_X12_goesHome (xl X) (xG X) hX hM ⟨hS.2.1, hS.1, trivial⟩ hq)) (Nat.le_of_ble_eq_true rfl) (Nat.le_of_ble_eq_true rfl) rfl rfl rfl (fun M7 => ?_)
    refine i_aload_n C dX12_returns_38 rfl (q := 0) rfl ?_
    refine i_iload_n C dX12_returns_39 rfl (q := 3) rfl ?_
    refine i_cI (kc' := 0) (ks' := 0) 0 0 2 (fun q hq hM hS => crV C (as := [aI v3]) dX12_returns_40.1 kX12 (shR_0 hX) ml_X12_135 cal_X12_ownSide cv_X12_ownSide (hRm ⟨Nat.le_of_ble_eq_true rfl, Nat.le_of_ble_eq_true rfl⟩) rfl (Nat.le_of_ble_eq_true rfl) (c_X12_ownSide (xl X) (xG X) hX hM ⟨hS.2.1, hS.1, trivial⟩ hq)) (Nat.le_of_ble_eq_true rfl) (Nat.le_of_ble_eq_true rfl) rfl rfl rfl (fun v9 M8 => ?_)
    refine i_istore C dX12_returns_43 hl4 (L' := [(0, aR 0), (1, aI x1), (2, aI v2), (3, aI v3), (4, aI v9)]) rfl ?_
    refine i_aload_n C dX12_returns_45 rfl (q := 0) rfl ?_
    refine i_getR C (k := 0) kX12 dX12_returns_46 (shR_0 hX) rfl (by decide) fl_X12_7 ?_
    refine i_bipush C dX12_returns_49 kB_15 ?_
    refine i_iload C dX12_returns_51 (q := 4) rfl ?_
    refine i_iadd C dX12_returns_53 ?_
    refine i_dup2 C dX12_returns_54 rfl rfl ?_
    refine i_ald C dX12_returns_55 (shR_1 hX) (fun v10 => ?_)
    refine i_aload_n C dX12_returns_56 rfl (q := 0) rfl ?_
    refine i_getR C (k := 0) kX12 dX12_returns_57 (shR_0 hX) rfl (by decide) fl_X12_7 ?_
    refine i_bipush C dX12_returns_60 kB_16 ?_
    refine i_iload C dX12_returns_62 (q := 4) rfl ?_
    refine i_isub C dX12_returns_64 ?_
    refine i_ald C dX12_returns_65 (shR_1 hX) (fun v11 => ?_)
    refine i_ior C dX12_returns_66 ?_
    refine i_ast C dX12_returns_67 (shR_1 hX) (fun M12 => ?_)
    exact i_vret C hq dX12_returns_68
set_option maxRecDepth 100000 in
set_option maxHeartbeats 4000000 in
theorem w_X12_nextCall_4 {X : Xc} (C : Cx X RX12 cX12_nextCall (some .int)) (hX : xK X = kR) (hN : xn X = 5) (hR : xR X = rmX12_nextCall) {res : Int × Mem} (hq : Rq X (some (aI res.1)) res.2) (y1 : Int) : ∀ (n : Nat) (u2 : Int) (u3 : Int) (M : Mem), Im X 0 0 4 [(0, aR 0), (1, aI y1), (2, aI u2), (3, aI u3)] [] M res (lpX12_nextCall_4 y1 n u2 u3 M) := by
  have hl2 : 2 < xn X := by rw [hN]; decide
  have hl3 : 3 < xn X := by rw [hN]; decide
  have hl4 : 4 < xn X := by rw [hN]; decide
  intro n
  induction n with
  | zero => intro _ _ _; exact i_none
  | succ n ih =>
    intro u2 u3 M
    unfold lpX12_nextCall_4
    refine i_iload_n C dX12_nextCall_4 rfl (q := 3) rfl ?_
    refine i_aload_n C dX12_nextCall_5 rfl (q := 0) rfl ?_
    refine i_getR C (k := 0) kX12 dX12_nextCall_6 (shR_0 hX) rfl (by decide) fl_X12_7 ?_
    refine i_bipush C dX12_nextCall_9 kB_6 ?_
    refine i_ald C dX12_nextCall_11 (shR_1 hX) (fun v1 => ?_)
    refine i_icmp_ge (tgt := 107) C dX12_nextCall_12 (by decide) ?_ ?_
    · refine i_iload_n C dX12_nextCall_107 rfl (q := 2) rfl ?_
      exact i_iret C hq dX12_nextCall_108
    · refine i_aload_n C dX12_nextCall_15 rfl (q := 0) rfl ?_
      refine i_getR C (k := 0) kX12 dX12_nextCall_16 (shR_0 hX) rfl (by decide) fl_X12_7 ?_
      refine i_sipush C dX12_nextCall_19 kS_3770 ?_
      refine i_iconst C dX12_nextCall_22 kI_3 ?_
      refine i_iload_n C dX12_nextCall_23 rfl (q := 3) rfl ?_
      refine i_imul C dX12_nextCall_24 ?_
      refine i_iadd C dX12_nextCall_25 ?_
      refine i_ald C dX12_nextCall_26 (shR_1 hX) (fun v2 => ?_)
      refine i_iload_n C dX12_nextCall_27 rfl (q := 1) rfl ?_
      refine i_jn (fun j => ∀ (p3 : Int) (M5 : Mem), Im X 0 0 53 [(0, aR 0), (1, aI y1), (2, aI u2), (3, aI u3)] [aI p3] M5 res (j p3 M5)) ?_ (fun j4 hj4 => ?_)
      · intro p3 M5
        refine i_istore C dX12_nextCall_53 hl4 (L' := [(0, aR 0), (1, aI y1), (2, aI u2), (3, aI u3), (4, aI p3)]) rfl ?_
        refine i_iload C dX12_nextCall_55 (q := 4) rfl ?_
        refine i_jn (fun j => ∀ (p6 : Int) (M8 : Mem), Im X 0 0 100 [(0, aR 0), (1, aI y1), (3, aI u3)] [aI p6] M8 res (j p6 M8)) ?_ (fun j7 hj7 => ?_)
        · intro p6 M8
          refine i_istore_n C dX12_nextCall_100 rfl hl2 (L' := [(0, aR 0), (1, aI y1), (2, aI p6), (3, aI u3)]) rfl ?_
          refine i_iincN (L' := fun v9 => [(0, aR 0), (1, aI y1), (2, aI p6), (3, aI v9)]) C dX12_nextCall_101 (q := 3) rfl hl3 (fun _ => rfl) (fun v9 => ?_)
          refine i_goto (tgt := 4) C dX12_nextCall_104 (by decide) ?_
          exact (ih p6 v9 M8)
        refine i_jn (fun j => ∀  (M11 : Mem), Im X 0 0 99 [(0, aR 0), (1, aI y1), (2, aI u2), (3, aI u3)] [] M11 res (j  M11)) ?_ (fun j10 hj10 => ?_)
        · intro  M11
          refine i_iload_n C dX12_nextCall_99 rfl (q := 2) rfl ?_
          exact i_sub [0, 1, 3] rfl (hj7 u2 M11)
        refine i_if_eq (tgt := 99) C dX12_nextCall_57 (by decide) ?_ ?_
        · exact i_sub [0, 1, 2, 3] rfl (hj10  M5)
        · refine i_iload_n C dX12_nextCall_60 rfl (q := 2) rfl ?_
          refine i_jn (fun j => ∀  (M13 : Mem), Im X 0 0 95 [(0, aR 0), (1, aI y1), (3, aI u3)] [] M13 res (j  M13)) ?_ (fun j12 hj12 => ?_)
          · intro  M13
            refine i_iload_n C dX12_nextCall_95 rfl (q := 2) rfl ?_
            refine i_goto (tgt := 100) C dX12_nextCall_96 (by decide) ?_
            exact (hj7 u3 M13)
          refine i_if_lt (tgt := 95) C dX12_nextCall_61 (by decide) ?_ ?_
          · exact i_sub [0, 1, 3] rfl (hj12  M5)
          · refine i_aload_n C dX12_nextCall_64 rfl (q := 0) rfl ?_
            refine i_getR C (k := 0) kX12 dX12_nextCall_65 (shR_0 hX) rfl (by decide) fl_X12_7 ?_
            refine i_sipush C dX12_nextCall_68 kS_3770 ?_
            refine i_iconst C dX12_nextCall_71 kI_3 ?_
            refine i_iload_n C dX12_nextCall_72 rfl (q := 3) rfl ?_
            refine i_imul C dX12_nextCall_73 ?_
            refine i_iadd C dX12_nextCall_74 ?_
            refine i_iconst C dX12_nextCall_75 kI_1 ?_
            refine i_iadd C dX12_nextCall_76 ?_
            refine i_ald C dX12_nextCall_77 (shR_1 hX) (fun v14 => ?_)
            refine i_aload_n C dX12_nextCall_78 rfl (q := 0) rfl ?_
            refine i_getR C (k := 0) kX12 dX12_nextCall_79 (shR_0 hX) rfl (by decide) fl_X12_7 ?_
            refine i_sipush C dX12_nextCall_82 kS_3770 ?_
            refine i_iconst C dX12_nextCall_85 kI_3 ?_
            refine i_iload_n C dX12_nextCall_86 rfl (q := 2) rfl ?_
            refine i_imul C dX12_nextCall_87 ?_
            refine i_iadd C dX12_nextCall_88 ?_
            refine i_iconst C dX12_nextCall_89 kI_1 ?_
            refine i_iadd C dX12_nextCall_90 ?_
            refine i_ald C dX12_nextCall_91 (shR_1 hX) (fun v15 => ?_)
            refine i_icmp_le (tgt := 99) C dX12_nextCall_92 (by decide) ?_ ?_
            · exact i_sub [0, 1, 2, 3] rfl (hj10  M5)
            · exact i_sub [0, 1, 3] rfl (hj12  M5)
      refine i_jn (fun j => ∀  (M17 : Mem), Im X 0 0 52 [(0, aR 0), (1, aI y1), (2, aI u2), (3, aI u3)] [] M17 res (j  M17)) ?_ (fun j16 hj16 => ?_)
      · intro  M17
        refine i_iconst C dX12_nextCall_52 kI_0 ?_
        exact (hj4 0 M17)
      refine i_icmp_ne (tgt := 52) C dX12_nextCall_28 (by decide) ?_ ?_
      · exact (hj16  M)
      · refine i_aload_n C dX12_nextCall_31 rfl (q := 0) rfl ?_
        refine i_getR C (k := 0) kX12 dX12_nextCall_32 (shR_0 hX) rfl (by decide) fl_X12_7 ?_
        refine i_sipush C dX12_nextCall_35 kS_3770 ?_
        refine i_iconst C dX12_nextCall_38 kI_3 ?_
        refine i_iload_n C dX12_nextCall_39 rfl (q := 3) rfl ?_
        refine i_imul C dX12_nextCall_40 ?_
        refine i_iadd C dX12_nextCall_41 ?_
        refine i_iconst C dX12_nextCall_42 kI_2 ?_
        refine i_iadd C dX12_nextCall_43 ?_
        refine i_ald C dX12_nextCall_44 (shR_1 hX) (fun v18 => ?_)
        refine i_if_le (tgt := 52) C dX12_nextCall_45 (by decide) ?_ ?_
        · exact (hj16  M)
        · refine i_iconst C dX12_nextCall_48 kI_1 ?_
          refine i_goto (tgt := 53) C dX12_nextCall_49 (by decide) ?_
          exact (hj4 1 M)
set_option maxRecDepth 100000 in
set_option maxHeartbeats 4000000 in
theorem c_X12_nextCall (l : Launch) (G : Gx) {K : Kx} (hK : K = kR) {x1 : Int} {M : Mem} {res : Int × Mem} (hM : OkM M) (ha : okS [aR 0, aI x1]) (hF : rM_nextCall x1 M = some res) : Ct l G K yX12_nextCall (wsM yX12_nextCall cX12_nextCall 5 (some .int)) rmX12_nextCall [aR 0, aI x1] M (some (aI res.1)) res.2 := by
  refine ct_of RX12 (by decide +kernel) rfl (hK ▸ kR_ok) hM ha (Nat.le_of_ble_eq_true rfl) hF ?_
  intro X C hl hG hX0 hN hR hq
  have hX : xK X = kR := hX0.trans hK
  show Im X 0 0 0 [(0, aR 0), (1, aI x1)] [] M res (rM_nextCall x1 M)
  unfold rM_nextCall
  have hl2 : 2 < xn X := by rw [hN]; decide
  have hl3 : 3 < xn X := by rw [hN]; decide
  have hl4 : 4 < xn X := by rw [hN]; decide
  refine i_iconst C dX12_nextCall_0 kI_m1 ?_
  refine i_istore_n C dX12_nextCall_1 rfl hl2 (L' := [(0, aR 0), (1, aI x1), (2, aI (-1))]) rfl ?_
  refine i_iconst C dX12_nextCall_2 kI_0 ?_
  refine i_istore_n C dX12_nextCall_3 rfl hl3 (L' := [(0, aR 0), (1, aI x1), (2, aI (-1)), (3, aI 0)]) rfl ?_
  exact (w_X12_nextCall_4 C hX hN hR hq x1 FU (-1) 0 M)
set_option maxRecDepth 100000 in
set_option maxHeartbeats 4000000 in
theorem w_X12_speaks_19 {X : Xc} (C : Cx X RX12 cX12_speaks none) (hX : xK X = kR) (hN : xn X = 8) (hR : xR X = rmX12_speaks) {res : Mem} (hq : Rq X none res) (y1 : Int) {k131 : Mem → Option (Mem)} (hk131 : ∀ (M : Mem), Im X 0 0 131 [(0, aR 0)] [] M res (k131 M)) : ∀ (n : Nat) (u2 : Int) (u3 : Int) (M : Mem), Im X 0 0 19 [(0, aR 0), (1, aI y1), (2, aI u2), (3, aI u3)] [] M res (lpX12_speaks_19 y1 k131 n u2 u3 M) := by
  have hl2 : 2 < xn X := by rw [hN]; decide
  have hl3 : 3 < xn X := by rw [hN]; decide
  have hl4 : 4 < xn X := by rw [hN]; decide
  have hRm : ∀ {rm : Room} {ny : Nat}, RmOk rmX12_speaks rm ny → RmOk (xR X) rm ny := fun h => by rw [hR]; exact h
  intro n
  induction n with
  | zero => intro _ _ _; exact i_none
  | succ n ih =>
    intro u2 u3 M
    unfold lpX12_speaks_19
    refine i_iload_n C dX12_speaks_19 rfl (q := 3) rfl ?_
    refine i_if_lt (tgt := 131) C dX12_speaks_20 (by decide) ?_ ?_
    · exact i_sub [0] rfl (hk131  M)
    · refine i_iload_n C dX12_speaks_23 rfl (q := 2) rfl ?_
      refine i_if_le (tgt := 131) C dX12_speaks_24 (by decide) ?_ ?_
      · exact i_sub [0] rfl (hk131  M)
      · refine i_iload_n C dX12_speaks_27 rfl (q := 2) rfl ?_
        refine i_aload_n C dX12_speaks_28 rfl (q := 0) rfl ?_
        refine i_getR C (k := 0) kX12 dX12_speaks_29 (shR_0 hX) rfl (by decide) fl_X12_7 ?_
        refine i_sipush C dX12_speaks_32 kS_3770 ?_
        refine i_iconst C dX12_speaks_35 kI_3 ?_
        refine i_iload_n C dX12_speaks_36 rfl (q := 3) rfl ?_
        refine i_imul C dX12_speaks_37 ?_
        refine i_iadd C dX12_speaks_38 ?_
        refine i_iconst C dX12_speaks_39 kI_2 ?_
        refine i_iadd C dX12_speaks_40 ?_
        refine i_ald C dX12_speaks_41 (shR_1 hX) (fun v6 => ?_)
        refine i_cI (kc' := 0) (ks' := 0) 0 0 2 (fun q hq hM hS => crS C (as := [aI u2, aI v6]) dX12_speaks_42.1 ml_X12_164 cal_X12_least st_X12_least (hRm ⟨Nat.le_of_ble_eq_true rfl, Nat.le_of_ble_eq_true rfl⟩) rfl (Nat.le_of_ble_eq_true rfl) (c_X12_least (xl X) (xG X) hX hM ⟨hS.2.1, hS.1, trivial⟩ hq)) (Nat.le_of_ble_eq_true rfl) (Nat.le_of_ble_eq_true rfl) rfl rfl rfl (fun v8 M7 => ?_)
        refine i_istore C dX12_speaks_45 hl4 (L' := [(0, aR 0), (1, aI y1), (2, aI u2), (3, aI u3), (4, aI v8)]) rfl ?_
        refine i_iload_n C dX12_speaks_47 rfl (q := 2) rfl ?_
        refine i_iload C dX12_speaks_48 (q := 4) rfl ?_
        refine i_isub C dX12_speaks_50 ?_
        refine i_nm (fun v9 => ?_)
        refine i_istore_n C dX12_speaks_51 rfl hl2 (L' := [(0, aR 0), (1, aI y1), (2, aI v9), (3, aI u3), (4, aI v8)]) rfl ?_
        refine i_aload_n C dX12_speaks_52 rfl (q := 0) rfl ?_
        refine i_getR C (k := 0) kX12 dX12_speaks_53 (shR_0 hX) rfl (by decide) fl_X12_7 ?_
        refine i_sipush C dX12_speaks_56 kS_3770 ?_
        refine i_iconst C dX12_speaks_59 kI_3 ?_
        refine i_iload_n C dX12_speaks_60 rfl (q := 3) rfl ?_
        refine i_imul C dX12_speaks_61 ?_
        refine i_iadd C dX12_speaks_62 ?_
        refine i_iconst C dX12_speaks_63 kI_2 ?_
        refine i_iadd C dX12_speaks_64 ?_
        refine i_dup2 C dX12_speaks_65 rfl rfl ?_
        refine i_ald C dX12_speaks_66 (shR_1 hX) (fun v10 => ?_)
        refine i_iload C dX12_speaks_67 (q := 4) rfl ?_
        refine i_isub C dX12_speaks_69 ?_
        refine i_ast C dX12_speaks_70 (shR_1 hX) (fun M11 => ?_)
        refine i_aload_n C dX12_speaks_71 rfl (q := 0) rfl ?_
        refine i_getR C (k := 0) kX12 dX12_speaks_72 (shR_0 hX) rfl (by decide) fl_X12_7 ?_
        refine i_sipush C dX12_speaks_75 kS_3770 ?_
        refine i_iconst C dX12_speaks_78 kI_3 ?_
        refine i_iload_n C dX12_speaks_79 rfl (q := 3) rfl ?_
        refine i_imul C dX12_speaks_80 ?_
        refine i_iadd C dX12_speaks_81 ?_
        refine i_iconst C dX12_speaks_82 kI_2 ?_
        refine i_iadd C dX12_speaks_83 ?_
        refine i_ald C dX12_speaks_84 (shR_1 hX) (fun v12 => ?_)
        refine i_jn (fun j => ∀  (M14 : Mem), Im X 0 0 122 [(0, aR 0), (1, aI y1), (2, aI v9)] [] M14 res (j  M14)) ?_ (fun j13 hj13 => ?_)
        · intro  M14
          refine i_aload_n C dX12_speaks_122 rfl (q := 0) rfl ?_
          refine i_iload_n C dX12_speaks_123 rfl (q := 1) rfl ?_
          refine i_cI (kc' := 0) (ks' := 0) 0 0 2 (fun q hq hM hS => crV C (as := [aI y1]) dX12_speaks_124.1 kX12 (shR_0 hX) ml_X12_197 cal_X12_nextCall cv_X12_nextCall (hRm ⟨Nat.le_of_ble_eq_true rfl, Nat.le_of_ble_eq_true rfl⟩) rfl (Nat.le_of_ble_eq_true rfl) (c_X12_nextCall (xl X) (xG X) hX hM ⟨hS.2.1, hS.1, trivial⟩ hq)) (Nat.le_of_ble_eq_true rfl) (Nat.le_of_ble_eq_true rfl) rfl rfl rfl (fun v16 M15 => ?_)
          refine i_istore_n C dX12_speaks_127 rfl hl3 (L' := [(0, aR 0), (1, aI y1), (2, aI v9), (3, aI v16)]) rfl ?_
          refine i_goto (tgt := 19) C dX12_speaks_128 (by decide) ?_
          exact (ih v9 v16 M15)
        refine i_if_ne (tgt := 122) C dX12_speaks_85 (by decide) ?_ ?_
        · exact i_sub [0, 1, 2] rfl (hj13  M11)
        · refine i_aload_n C dX12_speaks_88 rfl (q := 0) rfl ?_
          refine i_getR C (k := 0) kX12 dX12_speaks_89 (shR_0 hX) rfl (by decide) fl_X12_7 ?_
          refine i_bipush C dX12_speaks_92 kB_15 ?_
          refine i_dup2 C dX12_speaks_94 rfl rfl ?_
          refine i_ald C dX12_speaks_95 (shR_1 hX) (fun v17 => ?_)
          refine i_aload_n C dX12_speaks_96 rfl (q := 0) rfl ?_
          refine i_getR C (k := 0) kX12 dX12_speaks_97 (shR_0 hX) rfl (by decide) fl_X12_7 ?_
          refine i_bipush C dX12_speaks_100 kB_16 ?_
          refine i_ald C dX12_speaks_102 (shR_1 hX) (fun v18 => ?_)
          refine i_ior C dX12_speaks_103 ?_
          refine i_ast C dX12_speaks_104 (shR_1 hX) (fun M19 => ?_)
          refine i_aload_n C dX12_speaks_105 rfl (q := 0) rfl ?_
          refine i_getR C (k := 0) kX12 dX12_speaks_106 (shR_0 hX) rfl (by decide) fl_X12_7 ?_
          refine i_bipush C dX12_speaks_109 kB_16 ?_
          refine i_dup2 C dX12_speaks_111 rfl rfl ?_
          refine i_ald C dX12_speaks_112 (shR_1 hX) (fun v20 => ?_)
          refine i_aload_n C dX12_speaks_113 rfl (q := 0) rfl ?_
          refine i_getR C (k := 0) kX12 dX12_speaks_114 (shR_0 hX) rfl (by decide) fl_X12_7 ?_
          refine i_bipush C dX12_speaks_117 kB_15 ?_
          refine i_ald C dX12_speaks_119 (shR_1 hX) (fun v21 => ?_)
          refine i_ior C dX12_speaks_120 ?_
          refine i_ast C dX12_speaks_121 (shR_1 hX) (fun M22 => ?_)
          exact i_sub [0, 1, 2] rfl (hj13  M22)
set_option maxRecDepth 100000 in
set_option maxHeartbeats 4000000 in
theorem w_X12_speaks_177 {X : Xc} (C : Cx X RX12 cX12_speaks none) (hX : xK X = kR) (hN : xn X = 8) (hR : xR X = rmX12_speaks) {res : Mem} (hq : Rq X none res) (y4 : Int) (y5 : Int) (y6 : Int) {k226 : Mem → Option (Mem)} (hk226 : ∀ (M : Mem), Im X 0 0 226 [(0, aR 0), (4, aI y4), (5, aI y5), (6, aI y6)] [] M res (k226 M)) : ∀ (n : Nat) (u7 : Int) (M : Mem), Im X 0 0 177 [(0, aR 0), (4, aI y4), (5, aI y5), (6, aI y6), (7, aI u7)] [] M res (lpX12_speaks_177 y4 y5 y6 k226 n u7 M) := by
  have hl2 : 2 < xn X := by rw [hN]; decide
  have hl3 : 3 < xn X := by rw [hN]; decide
  have hl4 : 4 < xn X := by rw [hN]; decide
  have hl5 : 5 < xn X := by rw [hN]; decide
  have hl6 : 6 < xn X := by rw [hN]; decide
  have hl7 : 7 < xn X := by rw [hN]; decide
  have hRm : ∀ {rm : Room} {ny : Nat}, RmOk rmX12_speaks rm ny → RmOk (xR X) rm ny := fun h => by rw [hR]; exact h
  intro n
  induction n with
  | zero => intro _ _; exact i_none
  | succ n ih =>
    intro u7 M
    unfold lpX12_speaks_177
    refine i_iload C dX12_speaks_177 (q := 4) rfl ?_
    refine i_iconst C dX12_speaks_179 kI_3 ?_
    refine i_icmp_ge (tgt := 226) C dX12_speaks_180 (by decide) ?_ ?_
    · exact i_sub [0, 1, 2, 3] rfl (hk226  M)
    · refine i_iload C dX12_speaks_183 (q := 3) rfl ?_
      refine i_if_ne (tgt := 226) C dX12_speaks_185 (by decide) ?_ ?_
      · exact i_sub [0, 1, 2, 3] rfl (hk226  M)
      · refine i_aload_n C dX12_speaks_188 rfl (q := 0) rfl ?_
        refine i_getR C (k := 0) kX12 dX12_speaks_189 (shR_0 hX) rfl (by decide) fl_X12_7 ?_
        refine i_sipush C dX12_speaks_192 kS_3770 ?_
        refine i_iconst C dX12_speaks_195 kI_3 ?_
        refine i_iload C dX12_speaks_196 (q := 1) rfl ?_
        refine i_imul C dX12_speaks_198 ?_
        refine i_iadd C dX12_speaks_199 ?_
        refine i_iload C dX12_speaks_200 (q := 4) rfl ?_
        refine i_iadd C dX12_speaks_202 ?_
        refine i_aload_n C dX12_speaks_203 rfl (q := 0) rfl ?_
        refine i_getR C (k := 0) kX12 dX12_speaks_204 (shR_0 hX) rfl (by decide) fl_X12_7 ?_
        refine i_sipush C dX12_speaks_207 kS_3770 ?_
        refine i_iconst C dX12_speaks_210 kI_3 ?_
        refine i_iload C dX12_speaks_211 (q := 2) rfl ?_
        refine i_imul C dX12_speaks_213 ?_
        refine i_iadd C dX12_speaks_214 ?_
        refine i_iload C dX12_speaks_215 (q := 4) rfl ?_
        refine i_iadd C dX12_speaks_217 ?_
        refine i_ald C dX12_speaks_218 (shR_1 hX) (fun v29 => ?_)
        refine i_ast C dX12_speaks_219 (shR_1 hX) (fun M30 => ?_)
        refine i_iincN (L' := fun v31 => [(0, aR 0), (4, aI y4), (5, aI y5), (6, aI y6), (7, aI v31)]) C dX12_speaks_220 (q := 4) rfl hl7 (fun _ => rfl) (fun v31 => ?_)
        refine i_goto (tgt := 177) C dX12_speaks_223 (by decide) ?_
        exact (ih v31 M30)
set_option maxRecDepth 100000 in
set_option maxHeartbeats 4000000 in
theorem w_X12_speaks_137 {X : Xc} (C : Cx X RX12 cX12_speaks none) (hX : xK X = kR) (hN : xn X = 8) (hR : xR X = rmX12_speaks) {res : Mem} (hq : Rq X none res) {k247 : Int → Mem → Option (Mem)} (hk247 : ∀ (q4 : Int) (M : Mem), Im X 0 0 247 [(0, aR 0), (4, aI q4)] [] M res (k247 q4 M)) : ∀ (n : Nat) (u4 : Int) (u5 : Int) (M : Mem), Im X 0 0 137 [(0, aR 0), (4, aI u4), (5, aI u5)] [] M res (lpX12_speaks_137 k247 n u4 u5 M) := by
  have hl2 : 2 < xn X := by rw [hN]; decide
  have hl3 : 3 < xn X := by rw [hN]; decide
  have hl4 : 4 < xn X := by rw [hN]; decide
  have hl5 : 5 < xn X := by rw [hN]; decide
  have hl6 : 6 < xn X := by rw [hN]; decide
  have hl7 : 7 < xn X := by rw [hN]; decide
  have hRm : ∀ {rm : Room} {ny : Nat}, RmOk rmX12_speaks rm ny → RmOk (xR X) rm ny := fun h => by rw [hR]; exact h
  intro n
  induction n with
  | zero => intro _ _ _; exact i_none
  | succ n ih =>
    intro u4 u5 M
    unfold lpX12_speaks_137
    refine i_iload C dX12_speaks_137 (q := 2) rfl ?_
    refine i_aload_n C dX12_speaks_139 rfl (q := 0) rfl ?_
    refine i_getR C (k := 0) kX12 dX12_speaks_140 (shR_0 hX) rfl (by decide) fl_X12_7 ?_
    refine i_bipush C dX12_speaks_143 kB_6 ?_
    refine i_ald C dX12_speaks_145 (shR_1 hX) (fun v24 => ?_)
    refine i_icmp_ge (tgt := 247) C dX12_speaks_146 (by decide) ?_ ?_
    · exact i_sub [0, 1] rfl (hk247 u4 M)
    · refine i_aload_n C dX12_speaks_149 rfl (q := 0) rfl ?_
      refine i_getR C (k := 0) kX12 dX12_speaks_150 (shR_0 hX) rfl (by decide) fl_X12_7 ?_
      refine i_sipush C dX12_speaks_153 kS_3770 ?_
      refine i_iconst C dX12_speaks_156 kI_3 ?_
      refine i_iload C dX12_speaks_157 (q := 2) rfl ?_
      refine i_imul C dX12_speaks_159 ?_
      refine i_iadd C dX12_speaks_160 ?_
      refine i_iconst C dX12_speaks_161 kI_2 ?_
      refine i_iadd C dX12_speaks_162 ?_
      refine i_ald C dX12_speaks_163 (shR_1 hX) (fun v25 => ?_)
      refine i_jn (fun j => ∀ (p26 : Int) (M28 : Mem), Im X 0 0 172 [(0, aR 0), (4, aI u4), (5, aI u5)] [aI p26] M28 res (j p26 M28)) ?_ (fun j27 hj27 => ?_)
      · intro p26 M28
        refine i_istore C dX12_speaks_172 hl6 (L' := [(0, aR 0), (4, aI u4), (5, aI u5), (6, aI p26)]) rfl ?_
        refine i_iconst C dX12_speaks_174 kI_0 ?_
        refine i_istore C dX12_speaks_175 hl7 (L' := [(0, aR 0), (4, aI u4), (5, aI u5), (6, aI p26), (7, aI 0)]) rfl ?_
        refine (w_X12_speaks_177 C hX hN hR hq u4 u5 p26 (fun M32 => ?_) FU 0 M28)
        refine i_iload C dX12_speaks_226 (q := 1) rfl ?_
        refine i_iload C dX12_speaks_228 (q := 3) rfl ?_
        refine i_jn (fun j => ∀ (p33 : Int) (M35 : Mem), Im X 0 0 238 [(0, aR 0), (5, aI u5)] [aI p33, aI u4] M35 res (j p33 M35)) ?_ (fun j34 hj34 => ?_)
        · intro p33 M35
          refine i_iadd C dX12_speaks_238 ?_
          refine i_nm (fun v36 => ?_)
          refine i_istore C dX12_speaks_239 hl4 (L' := [(0, aR 0), (4, aI v36), (5, aI u5)]) rfl ?_
          refine i_iincN (L' := fun v37 => [(0, aR 0), (4, aI v36), (5, aI v37)]) C dX12_speaks_241 (q := 2) rfl hl5 (fun _ => rfl) (fun v37 => ?_)
          refine i_goto (tgt := 137) C dX12_speaks_244 (by decide) ?_
          exact (ih v36 v37 M35)
        refine i_if_eq (tgt := 237) C dX12_speaks_230 (by decide) ?_ ?_
        · refine i_iconst C dX12_speaks_237 kI_1 ?_
          exact i_sub [0, 2] rfl (hj34 1 M32)
        · refine i_iconst C dX12_speaks_233 kI_0 ?_
          refine i_goto (tgt := 238) C dX12_speaks_234 (by decide) ?_
          exact i_sub [0, 2] rfl (hj34 0 M32)
      refine i_if_ne (tgt := 171) C dX12_speaks_164 (by decide) ?_ ?_
      · refine i_iconst C dX12_speaks_171 kI_0 ?_
        exact (hj27 0 M)
      · refine i_iconst C dX12_speaks_167 kI_1 ?_
        refine i_goto (tgt := 172) C dX12_speaks_168 (by decide) ?_
        exact (hj27 1 M)
set_option maxRecDepth 100000 in
set_option maxHeartbeats 4000000 in
theorem c_X12_speaks (l : Launch) (G : Gx) {K : Kx} (hK : K = kR) {x1 : Int} {M : Mem} {res : Mem} (hM : OkM M) (ha : okS [aR 0, aI x1]) (hF : rM_speaks x1 M = some res) : Ct l G K yX12_speaks (wsM yX12_speaks cX12_speaks 8 none) rmX12_speaks [aR 0, aI x1] M none res := by
  refine ct_of RX12 (by decide +kernel) rfl (hK ▸ kR_ok) hM ha (Nat.le_of_ble_eq_true rfl) hF ?_
  intro X C hl hG hX0 hN hR hq
  have hX : xK X = kR := hX0.trans hK
  show Im X 0 0 0 [(0, aR 0), (1, aI x1)] [] M res (rM_speaks x1 M)
  unfold rM_speaks
  have hl2 : 2 < xn X := by rw [hN]; decide
  have hl3 : 3 < xn X := by rw [hN]; decide
  have hl4 : 4 < xn X := by rw [hN]; decide
  have hl5 : 5 < xn X := by rw [hN]; decide
  have hl6 : 6 < xn X := by rw [hN]; decide
  have hl7 : 7 < xn X := by rw [hN]; decide
  have hRm : ∀ {rm : Room} {ny : Nat}, RmOk rmX12_speaks rm ny → RmOk (xR X) rm ny := fun h => by rw [hR]; exact h
  refine i_aload_n C dX12_speaks_0 rfl (q := 0) rfl ?_
  refine i_getR C (k := 0) kX12 dX12_speaks_1 (shR_0 hX) rfl (by decide) fl_X12_7 ?_
  refine i_aload_n C dX12_speaks_4 rfl (q := 0) rfl ?_
  refine i_iload_n C dX12_speaks_5 rfl (q := 1) rfl ?_
  refine i_cI (kc' := 0) (ks' := 0) 0 0 2 (fun q hq hM hS => crV C (as := [aI x1]) dX12_speaks_6.1 kX12 (shR_0 hX) ml_X12_86 cal_X12_tieAt cv_X12_tieAt (hRm ⟨Nat.le_of_ble_eq_true rfl, Nat.le_of_ble_eq_true rfl⟩) rfl (Nat.le_of_ble_eq_true rfl) (c_X12_tieAt (xl X) (xG X) hX hM ⟨hS.2.1, hS.1, trivial⟩ hq)) (Nat.le_of_ble_eq_true rfl) (Nat.le_of_ble_eq_true rfl) rfl rfl rfl (fun v2 M1 => ?_)
  refine i_iconst C dX12_speaks_9 kI_3 ?_
  refine i_iadd C dX12_speaks_10 ?_
  refine i_ald C dX12_speaks_11 (shR_1 hX) (fun v3 => ?_)
  refine i_istore_n C dX12_speaks_12 rfl hl2 (L' := [(0, aR 0), (1, aI x1), (2, aI v3)]) rfl ?_
  refine i_aload_n C dX12_speaks_13 rfl (q := 0) rfl ?_
  refine i_iload_n C dX12_speaks_14 rfl (q := 1) rfl ?_
  refine i_cI (kc' := 0) (ks' := 0) 0 0 2 (fun q hq hM hS => crV C (as := [aI x1]) dX12_speaks_15.1 kX12 (shR_0 hX) ml_X12_197 cal_X12_nextCall cv_X12_nextCall (hRm ⟨Nat.le_of_ble_eq_true rfl, Nat.le_of_ble_eq_true rfl⟩) rfl (Nat.le_of_ble_eq_true rfl) (c_X12_nextCall (xl X) (xG X) hX hM ⟨hS.2.1, hS.1, trivial⟩ hq)) (Nat.le_of_ble_eq_true rfl) (Nat.le_of_ble_eq_true rfl) rfl rfl rfl (fun v5 M4 => ?_)
  refine i_istore_n C dX12_speaks_18 rfl hl3 (L' := [(0, aR 0), (1, aI x1), (2, aI v3), (3, aI v5)]) rfl ?_
  refine (w_X12_speaks_19 C hX hN hR hq x1 (fun M23 => ?_) FU v3 v5 M4)
  refine i_iconst C dX12_speaks_131 kI_0 ?_
  refine i_istore C dX12_speaks_132 hl4 (L' := [(0, aR 0), (4, aI 0)]) rfl ?_
  refine i_iconst C dX12_speaks_134 kI_0 ?_
  refine i_istore C dX12_speaks_135 hl5 (L' := [(0, aR 0), (4, aI 0), (5, aI 0)]) rfl ?_
  refine (w_X12_speaks_137 C hX hN hR hq (fun v38 M39 => ?_) FU 0 0 M23)
  refine i_aload_n C dX12_speaks_247 rfl (q := 0) rfl ?_
  refine i_getR C (k := 0) kX12 dX12_speaks_248 (shR_0 hX) rfl (by decide) fl_X12_7 ?_
  refine i_bipush C dX12_speaks_251 kB_6 ?_
  refine i_iload C dX12_speaks_253 (q := 1) rfl ?_
  refine i_ast C dX12_speaks_255 (shR_1 hX) (fun M40 => ?_)
  exact i_vret C hq dX12_speaks_256
set_option maxRecDepth 100000 in
set_option maxHeartbeats 4000000 in
theorem w_X12_hour_6 {X : Xc} (C : Cx X RX12 cX12_hour none) (hX : xK X = kR) (hN : xn X = 2) (hR : xR X = rmX12_hour) {res : Mem} (hq : Rq X none res) {k49 : Mem → Option (Mem)} (hk49 : ∀ (M : Mem), Im X 0 0 49 [(0, aR 0)] [] M res (k49 M)) : ∀ (n : Nat) (u1 : Int) (M : Mem), Im X 0 0 6 [(0, aR 0), (1, aI u1)] [] M res (lpX12_hour_6 k49 n u1 M) := by
  have hl1 : 1 < xn X := by rw [hN]; decide
  have hRm : ∀ {rm : Room} {ny : Nat}, RmOk rmX12_hour rm ny → RmOk (xR X) rm ny := fun h => by rw [hR]; exact h
  intro n
  induction n with
  | zero => intro _ _; exact i_none
  | succ n ih =>
    intro u1 M
    unfold lpX12_hour_6
    refine i_iload_n C dX12_hour_6 rfl (q := 1) rfl ?_
    refine i_aload_n C dX12_hour_7 rfl (q := 0) rfl ?_
    refine i_getR C (k := 0) kX12 dX12_hour_8 (shR_0 hX) rfl (by decide) fl_X12_7 ?_
    refine i_iconst C dX12_hour_11 kI_3 ?_
    refine i_ald C dX12_hour_12 (shR_1 hX) (fun v2 => ?_)
    refine i_icmp_ge (tgt := 49) C dX12_hour_13 (by decide) ?_ ?_
    · exact i_sub [0] rfl (hk49  M)
    · refine i_aload_n C dX12_hour_16 rfl (q := 0) rfl ?_
      refine i_getR C (k := 0) kX12 dX12_hour_17 (shR_0 hX) rfl (by decide) fl_X12_7 ?_
      refine i_aload_n C dX12_hour_20 rfl (q := 0) rfl ?_
      refine i_iload_n C dX12_hour_21 rfl (q := 1) rfl ?_
      refine i_cI (kc' := 0) (ks' := 0) 0 0 2 (fun q hq hM hS => crV C (as := [aI u1]) dX12_hour_22.1 kX12 (shR_0 hX) ml_X12_86 cal_X12_tieAt cv_X12_tieAt (hRm ⟨Nat.le_of_ble_eq_true rfl, Nat.le_of_ble_eq_true rfl⟩) rfl (Nat.le_of_ble_eq_true rfl) (c_X12_tieAt (xl X) (xG X) hX hM ⟨hS.2.1, hS.1, trivial⟩ hq)) (Nat.le_of_ble_eq_true rfl) (Nat.le_of_ble_eq_true rfl) rfl rfl rfl (fun v4 M3 => ?_)
      refine i_ald C dX12_hour_25 (shR_1 hX) (fun v5 => ?_)
      refine i_iconst C dX12_hour_26 kI_1 ?_
      refine i_jn (fun j => ∀  (M7 : Mem), Im X 0 0 43 [(0, aR 0), (1, aI u1)] [] M7 res (j  M7)) ?_ (fun j6 hj6 => ?_)
      · intro  M7
        refine i_iincN (L' := fun v8 => [(0, aR 0), (1, aI v8)]) C dX12_hour_43 (q := 1) rfl hl1 (fun _ => rfl) (fun v8 => ?_)
        refine i_goto (tgt := 6) C dX12_hour_46 (by decide) ?_
        exact (ih v8 M7)
      refine i_icmp_ne (tgt := 43) C dX12_hour_27 (by decide) ?_ ?_
      · exact (hj6  M3)
      · refine i_aload_n C dX12_hour_30 rfl (q := 0) rfl ?_
        refine i_iload_n C dX12_hour_31 rfl (q := 1) rfl ?_
        refine i_cI (kc' := 0) (ks' := 0) 0 0 2 (fun q hq hM hS => crV C (as := [aI u1]) dX12_hour_32.1 kX12 (shR_0 hX) ml_X12_203 cal_X12_isOpenNow cv_X12_isOpenNow (hRm ⟨Nat.le_of_ble_eq_true rfl, Nat.le_of_ble_eq_true rfl⟩) rfl (Nat.le_of_ble_eq_true rfl) (c_X12_isOpenNow (xl X) (xG X) hX hM ⟨hS.2.1, hS.1, trivial⟩ hq)) (Nat.le_of_ble_eq_true rfl) (Nat.le_of_ble_eq_true rfl) rfl rfl rfl (fun v10 M9 => ?_)
        refine i_if_eq (tgt := 43) C dX12_hour_35 (by decide) ?_ ?_
        · exact (hj6  M9)
        · refine i_aload_n C dX12_hour_38 rfl (q := 0) rfl ?_
          refine i_iload_n C dX12_hour_39 rfl (q := 1) rfl ?_
          refine i_cV (kc' := 0) (ks' := 0) 0 0 2 (fun q hq hM hS => crV C (as := [aI u1]) dX12_hour_40.1 kX12 (shR_0 hX) ml_X12_206 cal_X12_lets cv_X12_lets (hRm ⟨Nat.le_of_ble_eq_true rfl, Nat.le_of_ble_eq_true rfl⟩) rfl (Nat.le_of_ble_eq_true rfl) (c_X12_lets (xl X) (xG X) hX hM ⟨hS.2.1, hS.1, trivial⟩ hq)) (Nat.le_of_ble_eq_true rfl) (Nat.le_of_ble_eq_true rfl) rfl rfl rfl (fun M11 => ?_)
          exact (hj6  M11)
set_option maxRecDepth 100000 in
set_option maxHeartbeats 4000000 in
theorem w_X12_hour_51 {X : Xc} (C : Cx X RX12 cX12_hour none) (hX : xK X = kR) (hN : xn X = 2) (hR : xR X = rmX12_hour) {res : Mem} (hq : Rq X none res) {k126 : Mem → Option (Mem)} (hk126 : ∀ (M : Mem), Im X 0 0 126 [(0, aR 0)] [] M res (k126 M)) : ∀ (n : Nat) (u1 : Int) (M : Mem), Im X 0 0 51 [(0, aR 0), (1, aI u1)] [] M res (lpX12_hour_51 k126 n u1 M) := by
  have hl1 : 1 < xn X := by rw [hN]; decide
  have hRm : ∀ {rm : Room} {ny : Nat}, RmOk rmX12_hour rm ny → RmOk (xR X) rm ny := fun h => by rw [hR]; exact h
  intro n
  induction n with
  | zero => intro _ _; exact i_none
  | succ n ih =>
    intro u1 M
    unfold lpX12_hour_51
    refine i_iload_n C dX12_hour_51 rfl (q := 1) rfl ?_
    refine i_aload_n C dX12_hour_52 rfl (q := 0) rfl ?_
    refine i_getR C (k := 0) kX12 dX12_hour_53 (shR_0 hX) rfl (by decide) fl_X12_7 ?_
    refine i_iconst C dX12_hour_56 kI_3 ?_
    refine i_ald C dX12_hour_57 (shR_1 hX) (fun v13 => ?_)
    refine i_icmp_ge (tgt := 126) C dX12_hour_58 (by decide) ?_ ?_
    · exact i_sub [0] rfl (hk126  M)
    · refine i_aload_n C dX12_hour_61 rfl (q := 0) rfl ?_
      refine i_getR C (k := 0) kX12 dX12_hour_62 (shR_0 hX) rfl (by decide) fl_X12_7 ?_
      refine i_aload_n C dX12_hour_65 rfl (q := 0) rfl ?_
      refine i_iload_n C dX12_hour_66 rfl (q := 1) rfl ?_
      refine i_cI (kc' := 0) (ks' := 0) 0 0 2 (fun q hq hM hS => crV C (as := [aI u1]) dX12_hour_67.1 kX12 (shR_0 hX) ml_X12_86 cal_X12_tieAt cv_X12_tieAt (hRm ⟨Nat.le_of_ble_eq_true rfl, Nat.le_of_ble_eq_true rfl⟩) rfl (Nat.le_of_ble_eq_true rfl) (c_X12_tieAt (xl X) (xG X) hX hM ⟨hS.2.1, hS.1, trivial⟩ hq)) (Nat.le_of_ble_eq_true rfl) (Nat.le_of_ble_eq_true rfl) rfl rfl rfl (fun v15 M14 => ?_)
      refine i_ald C dX12_hour_70 (shR_1 hX) (fun v16 => ?_)
      refine i_bipush C dX12_hour_71 kB_6 ?_
      refine i_jn (fun j => ∀  (M18 : Mem), Im X 0 0 120 [(0, aR 0), (1, aI u1)] [] M18 res (j  M18)) ?_ (fun j17 hj17 => ?_)
      · intro  M18
        refine i_iincN (L' := fun v19 => [(0, aR 0), (1, aI v19)]) C dX12_hour_120 (q := 1) rfl hl1 (fun _ => rfl) (fun v19 => ?_)
        refine i_goto (tgt := 51) C dX12_hour_123 (by decide) ?_
        exact (ih v19 M18)
      refine i_icmp_ne (tgt := 120) C dX12_hour_73 (by decide) ?_ ?_
      · exact (hj17  M14)
      · refine i_aload_n C dX12_hour_76 rfl (q := 0) rfl ?_
        refine i_getR C (k := 0) kX12 dX12_hour_77 (shR_0 hX) rfl (by decide) fl_X12_7 ?_
        refine i_aload_n C dX12_hour_80 rfl (q := 0) rfl ?_
        refine i_iload_n C dX12_hour_81 rfl (q := 1) rfl ?_
        refine i_cI (kc' := 0) (ks' := 0) 0 0 2 (fun q hq hM hS => crV C (as := [aI u1]) dX12_hour_82.1 kX12 (shR_0 hX) ml_X12_86 cal_X12_tieAt cv_X12_tieAt (hRm ⟨Nat.le_of_ble_eq_true rfl, Nat.le_of_ble_eq_true rfl⟩) rfl (Nat.le_of_ble_eq_true rfl) (c_X12_tieAt (xl X) (xG X) hX hM ⟨hS.2.1, hS.1, trivial⟩ hq)) (Nat.le_of_ble_eq_true rfl) (Nat.le_of_ble_eq_true rfl) rfl rfl rfl (fun v21 M20 => ?_)
        refine i_bipush C dX12_hour_85 kB_6 ?_
        refine i_iadd C dX12_hour_87 ?_
        refine i_ald C dX12_hour_88 (shR_1 hX) (fun v22 => ?_)
        refine i_iconst C dX12_hour_89 kI_1 ?_
        refine i_icmp_ne (tgt := 120) C dX12_hour_90 (by decide) ?_ ?_
        · exact (hj17  M20)
        · refine i_aload_n C dX12_hour_93 rfl (q := 0) rfl ?_
          refine i_getR C (k := 0) kX12 dX12_hour_94 (shR_0 hX) rfl (by decide) fl_X12_7 ?_
          refine i_aload_n C dX12_hour_97 rfl (q := 0) rfl ?_
          refine i_iload_n C dX12_hour_98 rfl (q := 1) rfl ?_
          refine i_cI (kc' := 0) (ks' := 0) 0 0 2 (fun q hq hM hS => crV C (as := [aI u1]) dX12_hour_99.1 kX12 (shR_0 hX) ml_X12_86 cal_X12_tieAt cv_X12_tieAt (hRm ⟨Nat.le_of_ble_eq_true rfl, Nat.le_of_ble_eq_true rfl⟩) rfl (Nat.le_of_ble_eq_true rfl) (c_X12_tieAt (xl X) (xG X) hX hM ⟨hS.2.1, hS.1, trivial⟩ hq)) (Nat.le_of_ble_eq_true rfl) (Nat.le_of_ble_eq_true rfl) rfl rfl rfl (fun v24 M23 => ?_)
          refine i_bipush C dX12_hour_102 kB_9 ?_
          refine i_iadd C dX12_hour_104 ?_
          refine i_ald C dX12_hour_105 (shR_1 hX) (fun v25 => ?_)
          refine i_aload_n C dX12_hour_106 rfl (q := 0) rfl ?_
          refine i_getR C (k := 0) kX12 dX12_hour_107 (shR_0 hX) rfl (by decide) fl_X12_7 ?_
          refine i_iconst C dX12_hour_110 kI_0 ?_
          refine i_ald C dX12_hour_111 (shR_1 hX) (fun v26 => ?_)
          refine i_icmp_gt (tgt := 120) C dX12_hour_112 (by decide) ?_ ?_
          · exact (hj17  M23)
          · refine i_aload_n C dX12_hour_115 rfl (q := 0) rfl ?_
            refine i_iload_n C dX12_hour_116 rfl (q := 1) rfl ?_
            refine i_cV (kc' := 0) (ks' := 0) 0 0 2 (fun q hq hM hS => crV C (as := [aI u1]) dX12_hour_117.1 kX12 (shR_0 hX) ml_X12_209 cal_X12_returns cv_X12_returns (hRm ⟨Nat.le_of_ble_eq_true rfl, Nat.le_of_ble_eq_true rfl⟩) rfl (Nat.le_of_ble_eq_true rfl) (c_X12_returns (xl X) (xG X) hX hM ⟨hS.2.1, hS.1, trivial⟩ hq)) (Nat.le_of_ble_eq_true rfl) (Nat.le_of_ble_eq_true rfl) rfl rfl rfl (fun M27 => ?_)
            exact (hj17  M27)
set_option maxRecDepth 100000 in
set_option maxHeartbeats 4000000 in
theorem w_X12_hour_128 {X : Xc} (C : Cx X RX12 cX12_hour none) (hX : xK X = kR) (hN : xn X = 2) (hR : xR X = rmX12_hour) {res : Mem} (hq : Rq X none res) {k213 : Mem → Option (Mem)} (hk213 : ∀ (M : Mem), Im X 0 0 213 [(0, aR 0)] [] M res (k213 M)) : ∀ (n : Nat) (u1 : Int) (M : Mem), Im X 0 0 128 [(0, aR 0), (1, aI u1)] [] M res (lpX12_hour_128 k213 n u1 M) := by
  have hl1 : 1 < xn X := by rw [hN]; decide
  have hRm : ∀ {rm : Room} {ny : Nat}, RmOk rmX12_hour rm ny → RmOk (xR X) rm ny := fun h => by rw [hR]; exact h
  intro n
  induction n with
  | zero => intro _ _; exact i_none
  | succ n ih =>
    intro u1 M
    unfold lpX12_hour_128
    refine i_iload_n C dX12_hour_128 rfl (q := 1) rfl ?_
    refine i_aload_n C dX12_hour_129 rfl (q := 0) rfl ?_
    refine i_getR C (k := 0) kX12 dX12_hour_130 (shR_0 hX) rfl (by decide) fl_X12_7 ?_
    refine i_iconst C dX12_hour_133 kI_3 ?_
    refine i_ald C dX12_hour_134 (shR_1 hX) (fun v29 => ?_)
    refine i_icmp_ge (tgt := 213) C dX12_hour_135 (by decide) ?_ ?_
    · exact i_sub [0] rfl (hk213  M)
    · refine i_aload_n C dX12_hour_138 rfl (q := 0) rfl ?_
      refine i_getR C (k := 0) kX12 dX12_hour_139 (shR_0 hX) rfl (by decide) fl_X12_7 ?_
      refine i_aload_n C dX12_hour_142 rfl (q := 0) rfl ?_
      refine i_iload_n C dX12_hour_143 rfl (q := 1) rfl ?_
      refine i_cI (kc' := 0) (ks' := 0) 0 0 2 (fun q hq hM hS => crV C (as := [aI u1]) dX12_hour_144.1 kX12 (shR_0 hX) ml_X12_86 cal_X12_tieAt cv_X12_tieAt (hRm ⟨Nat.le_of_ble_eq_true rfl, Nat.le_of_ble_eq_true rfl⟩) rfl (Nat.le_of_ble_eq_true rfl) (c_X12_tieAt (xl X) (xG X) hX hM ⟨hS.2.1, hS.1, trivial⟩ hq)) (Nat.le_of_ble_eq_true rfl) (Nat.le_of_ble_eq_true rfl) rfl rfl rfl (fun v31 M30 => ?_)
      refine i_ald C dX12_hour_147 (shR_1 hX) (fun v32 => ?_)
      refine i_bipush C dX12_hour_148 kB_6 ?_
      refine i_jn (fun j => ∀  (M34 : Mem), Im X 0 0 207 [(0, aR 0), (1, aI u1)] [] M34 res (j  M34)) ?_ (fun j33 hj33 => ?_)
      · intro  M34
        refine i_iincN (L' := fun v35 => [(0, aR 0), (1, aI v35)]) C dX12_hour_207 (q := 1) rfl hl1 (fun _ => rfl) (fun v35 => ?_)
        refine i_goto (tgt := 128) C dX12_hour_210 (by decide) ?_
        exact (ih v35 M34)
      refine i_icmp_ne (tgt := 207) C dX12_hour_150 (by decide) ?_ ?_
      · exact (hj33  M30)
      · refine i_aload_n C dX12_hour_153 rfl (q := 0) rfl ?_
        refine i_getR C (k := 0) kX12 dX12_hour_154 (shR_0 hX) rfl (by decide) fl_X12_7 ?_
        refine i_aload_n C dX12_hour_157 rfl (q := 0) rfl ?_
        refine i_iload_n C dX12_hour_158 rfl (q := 1) rfl ?_
        refine i_cI (kc' := 0) (ks' := 0) 0 0 2 (fun q hq hM hS => crV C (as := [aI u1]) dX12_hour_159.1 kX12 (shR_0 hX) ml_X12_86 cal_X12_tieAt cv_X12_tieAt (hRm ⟨Nat.le_of_ble_eq_true rfl, Nat.le_of_ble_eq_true rfl⟩) rfl (Nat.le_of_ble_eq_true rfl) (c_X12_tieAt (xl X) (xG X) hX hM ⟨hS.2.1, hS.1, trivial⟩ hq)) (Nat.le_of_ble_eq_true rfl) (Nat.le_of_ble_eq_true rfl) rfl rfl rfl (fun v37 M36 => ?_)
        refine i_bipush C dX12_hour_162 kB_6 ?_
        refine i_iadd C dX12_hour_164 ?_
        refine i_ald C dX12_hour_165 (shR_1 hX) (fun v38 => ?_)
        refine i_if_ne (tgt := 207) C dX12_hour_166 (by decide) ?_ ?_
        · exact (hj33  M36)
        · refine i_aload_n C dX12_hour_169 rfl (q := 0) rfl ?_
          refine i_getR C (k := 0) kX12 dX12_hour_170 (shR_0 hX) rfl (by decide) fl_X12_7 ?_
          refine i_aload_n C dX12_hour_173 rfl (q := 0) rfl ?_
          refine i_iload_n C dX12_hour_174 rfl (q := 1) rfl ?_
          refine i_cI (kc' := 0) (ks' := 0) 0 0 2 (fun q hq hM hS => crV C (as := [aI u1]) dX12_hour_175.1 kX12 (shR_0 hX) ml_X12_86 cal_X12_tieAt cv_X12_tieAt (hRm ⟨Nat.le_of_ble_eq_true rfl, Nat.le_of_ble_eq_true rfl⟩) rfl (Nat.le_of_ble_eq_true rfl) (c_X12_tieAt (xl X) (xG X) hX hM ⟨hS.2.1, hS.1, trivial⟩ hq)) (Nat.le_of_ble_eq_true rfl) (Nat.le_of_ble_eq_true rfl) rfl rfl rfl (fun v40 M39 => ?_)
          refine i_iconst C dX12_hour_178 kI_5 ?_
          refine i_iadd C dX12_hour_179 ?_
          refine i_ald C dX12_hour_180 (shR_1 hX) (fun v41 => ?_)
          refine i_aload_n C dX12_hour_181 rfl (q := 0) rfl ?_
          refine i_cI (kc' := 0) (ks' := 0) 0 0 1 (fun q hq hM hS => crV C (as := []) dX12_hour_182.1 kX12 (shR_0 hX) ml_X12_180 cal_X12_day cv_X12_day (hRm ⟨Nat.le_of_ble_eq_true rfl, Nat.le_of_ble_eq_true rfl⟩) rfl (Nat.le_of_ble_eq_true rfl) (c_X12_day (xl X) (xG X) hX hM ⟨hS.1, trivial⟩ hq)) (Nat.le_of_ble_eq_true rfl) (Nat.le_of_ble_eq_true rfl) rfl rfl rfl (fun v43 M42 => ?_)
          refine i_icmp_ge (tgt := 207) C dX12_hour_185 (by decide) ?_ ?_
          · exact (hj33  M42)
          · refine i_aload_n C dX12_hour_188 rfl (q := 0) rfl ?_
            refine i_getR C (k := 0) kX12 dX12_hour_189 (shR_0 hX) rfl (by decide) fl_X12_7 ?_
            refine i_aload_n C dX12_hour_192 rfl (q := 0) rfl ?_
            refine i_iload_n C dX12_hour_193 rfl (q := 1) rfl ?_
            refine i_cI (kc' := 0) (ks' := 0) 0 0 2 (fun q hq hM hS => crV C (as := [aI u1]) dX12_hour_194.1 kX12 (shR_0 hX) ml_X12_86 cal_X12_tieAt cv_X12_tieAt (hRm ⟨Nat.le_of_ble_eq_true rfl, Nat.le_of_ble_eq_true rfl⟩) rfl (Nat.le_of_ble_eq_true rfl) (c_X12_tieAt (xl X) (xG X) hX hM ⟨hS.2.1, hS.1, trivial⟩ hq)) (Nat.le_of_ble_eq_true rfl) (Nat.le_of_ble_eq_true rfl) rfl rfl rfl (fun v45 M44 => ?_)
            refine i_bipush C dX12_hour_197 kB_6 ?_
            refine i_iadd C dX12_hour_199 ?_
            refine i_iconst C dX12_hour_200 kI_2 ?_
            refine i_ast C dX12_hour_201 (shR_1 hX) (fun M46 => ?_)
            refine i_aload_n C dX12_hour_202 rfl (q := 0) rfl ?_
            refine i_iload_n C dX12_hour_203 rfl (q := 1) rfl ?_
            refine i_cV (kc' := 0) (ks' := 0) 0 0 2 (fun q hq hM hS => crV C (as := [aI u1]) dX12_hour_204.1 kX12 (shR_0 hX) ml_X12_177 cal_X12_sendHome cv_X12_sendHome (hRm ⟨Nat.le_of_ble_eq_true rfl, Nat.le_of_ble_eq_true rfl⟩) rfl (Nat.le_of_ble_eq_true rfl) (c_X12_sendHome (xl X) (xG X) hX hM ⟨hS.2.1, hS.1, trivial⟩ hq)) (Nat.le_of_ble_eq_true rfl) (Nat.le_of_ble_eq_true rfl) rfl rfl rfl (fun M47 => ?_)
            exact (hj33  M47)
set_option maxRecDepth 100000 in
set_option maxHeartbeats 4000000 in
theorem w_X12_hour_215 {X : Xc} (C : Cx X RX12 cX12_hour none) (hX : xK X = kR) (hN : xn X = 2) (hR : xR X = rmX12_hour) {res : Mem} (hq : Rq X none res) {k250 : Mem → Option (Mem)} (hk250 : ∀ (M : Mem), Im X 0 0 250 [(0, aR 0)] [] M res (k250 M)) : ∀ (n : Nat) (u1 : Int) (M : Mem), Im X 0 0 215 [(0, aR 0), (1, aI u1)] [] M res (lpX12_hour_215 k250 n u1 M) := by
  have hl1 : 1 < xn X := by rw [hN]; decide
  have hRm : ∀ {rm : Room} {ny : Nat}, RmOk rmX12_hour rm ny → RmOk (xR X) rm ny := fun h => by rw [hR]; exact h
  intro n
  induction n with
  | zero => intro _ _; exact i_none
  | succ n ih =>
    intro u1 M
    unfold lpX12_hour_215
    refine i_iload_n C dX12_hour_215 rfl (q := 1) rfl ?_
    refine i_aload_n C dX12_hour_216 rfl (q := 0) rfl ?_
    refine i_getR C (k := 0) kX12 dX12_hour_217 (shR_0 hX) rfl (by decide) fl_X12_7 ?_
    refine i_iconst C dX12_hour_220 kI_3 ?_
    refine i_ald C dX12_hour_221 (shR_1 hX) (fun v49 => ?_)
    refine i_icmp_ge (tgt := 250) C dX12_hour_222 (by decide) ?_ ?_
    · exact i_sub [0] rfl (hk250  M)
    · refine i_aload_n C dX12_hour_225 rfl (q := 0) rfl ?_
      refine i_getR C (k := 0) kX12 dX12_hour_226 (shR_0 hX) rfl (by decide) fl_X12_7 ?_
      refine i_aload_n C dX12_hour_229 rfl (q := 0) rfl ?_
      refine i_iload_n C dX12_hour_230 rfl (q := 1) rfl ?_
      refine i_cI (kc' := 0) (ks' := 0) 0 0 2 (fun q hq hM hS => crV C (as := [aI u1]) dX12_hour_231.1 kX12 (shR_0 hX) ml_X12_86 cal_X12_tieAt cv_X12_tieAt (hRm ⟨Nat.le_of_ble_eq_true rfl, Nat.le_of_ble_eq_true rfl⟩) rfl (Nat.le_of_ble_eq_true rfl) (c_X12_tieAt (xl X) (xG X) hX hM ⟨hS.2.1, hS.1, trivial⟩ hq)) (Nat.le_of_ble_eq_true rfl) (Nat.le_of_ble_eq_true rfl) rfl rfl rfl (fun v51 M50 => ?_)
      refine i_ald C dX12_hour_234 (shR_1 hX) (fun v52 => ?_)
      refine i_iconst C dX12_hour_235 kI_4 ?_
      refine i_jn (fun j => ∀  (M54 : Mem), Im X 0 0 244 [(0, aR 0), (1, aI u1)] [] M54 res (j  M54)) ?_ (fun j53 hj53 => ?_)
      · intro  M54
        refine i_iincN (L' := fun v55 => [(0, aR 0), (1, aI v55)]) C dX12_hour_244 (q := 1) rfl hl1 (fun _ => rfl) (fun v55 => ?_)
        refine i_goto (tgt := 215) C dX12_hour_247 (by decide) ?_
        exact (ih v55 M54)
      refine i_icmp_ne (tgt := 244) C dX12_hour_236 (by decide) ?_ ?_
      · exact (hj53  M50)
      · refine i_aload_n C dX12_hour_239 rfl (q := 0) rfl ?_
        refine i_iload_n C dX12_hour_240 rfl (q := 1) rfl ?_
        refine i_cV (kc' := 0) (ks' := 0) 0 0 2 (fun q hq hM hS => crV C (as := [aI u1]) dX12_hour_241.1 kX12 (shR_0 hX) ml_X12_212 cal_X12_speaks cv_X12_speaks (hRm ⟨Nat.le_of_ble_eq_true rfl, Nat.le_of_ble_eq_true rfl⟩) rfl (Nat.le_of_ble_eq_true rfl) (c_X12_speaks (xl X) (xG X) hX hM ⟨hS.2.1, hS.1, trivial⟩ hq)) (Nat.le_of_ble_eq_true rfl) (Nat.le_of_ble_eq_true rfl) rfl rfl rfl (fun M56 => ?_)
        exact (hj53  M56)
set_option maxRecDepth 100000 in
set_option maxHeartbeats 4000000 in
theorem c_X12_hour (l : Launch) (G : Gx) {K : Kx} (hK : K = kR) {M : Mem} {res : Mem} (hM : OkM M) (ha : okS [aR 0]) (hF : rM_hour M = some res) : Ct l G K yX12_hour (wsM yX12_hour cX12_hour 2 none) rmX12_hour [aR 0] M none res := by
  refine ct_of RX12 (by decide +kernel) rfl (hK ▸ kR_ok) hM ha (Nat.le_of_ble_eq_true rfl) hF ?_
  intro X C hl hG hX0 hN hR hq
  have hX : xK X = kR := hX0.trans hK
  show Im X 0 0 0 [(0, aR 0)] [] M res (rM_hour  M)
  unfold rM_hour
  have hl1 : 1 < xn X := by rw [hN]; decide
  have hRm : ∀ {rm : Room} {ny : Nat}, RmOk rmX12_hour rm ny → RmOk (xR X) rm ny := fun h => by rw [hR]; exact h
  refine i_aload_n C dX12_hour_0 rfl (q := 0) rfl ?_
  refine i_cV (kc' := 0) (ks' := 0) 0 0 1 (fun q hq hM hS => crV C (as := []) dX12_hour_1.1 kX12 (shR_0 hX) ml_X12_200 cal_X12_come cv_X12_come (hRm ⟨Nat.le_of_ble_eq_true rfl, Nat.le_of_ble_eq_true rfl⟩) rfl (Nat.le_of_ble_eq_true rfl) (c_X12_come (xl X) (xG X) hX hM ⟨hS.1, trivial⟩ hq)) (Nat.le_of_ble_eq_true rfl) (Nat.le_of_ble_eq_true rfl) rfl rfl rfl (fun M1 => ?_)
  refine i_iconst C dX12_hour_4 kI_0 ?_
  refine i_istore_n C dX12_hour_5 rfl hl1 (L' := [(0, aR 0), (1, aI 0)]) rfl ?_
  refine (w_X12_hour_6 C hX hN hR hq (fun M12 => ?_) FU 0 M1)
  refine i_iconst C dX12_hour_49 kI_0 ?_
  refine i_istore_n C dX12_hour_50 rfl hl1 (L' := [(0, aR 0), (1, aI 0)]) rfl ?_
  refine (w_X12_hour_51 C hX hN hR hq (fun M28 => ?_) FU 0 M12)
  refine i_iconst C dX12_hour_126 kI_0 ?_
  refine i_istore_n C dX12_hour_127 rfl hl1 (L' := [(0, aR 0), (1, aI 0)]) rfl ?_
  refine (w_X12_hour_128 C hX hN hR hq (fun M48 => ?_) FU 0 M28)
  refine i_iconst C dX12_hour_213 kI_0 ?_
  refine i_istore_n C dX12_hour_214 rfl hl1 (L' := [(0, aR 0), (1, aI 0)]) rfl ?_
  refine (w_X12_hour_215 C hX hN hR hq (fun M57 => ?_) FU 0 M48)
  refine i_aload_n C dX12_hour_250 rfl (q := 0) rfl ?_
  refine i_getR C (k := 0) kX12 dX12_hour_251 (shR_0 hX) rfl (by decide) fl_X12_7 ?_
  refine i_iconst C dX12_hour_254 kI_0 ?_
  refine i_dup2 C dX12_hour_255 rfl rfl ?_
  refine i_ald C dX12_hour_256 (shR_1 hX) (fun v58 => ?_)
  refine i_iconst C dX12_hour_257 kI_1 ?_
  refine i_iadd C dX12_hour_258 ?_
  refine i_ast C dX12_hour_259 (shR_1 hX) (fun M59 => ?_)
  exact i_vret C hq dX12_hour_260
set_option maxRecDepth 100000 in
set_option maxHeartbeats 4000000 in
theorem w_X12_run_34 {X : Xc} (C : Cx X RX12 cX12_run (some .int)) (hX : xK X = kR) (hN : xn X = 3) (hR : xR X = rmX12_run) {res : Int × Mem} (hq : Rq X (some (aI res.1)) res.2) (y1 : Int) : ∀ (n : Nat) (u2 : Int) (M : Mem), Im X 0 0 34 [(0, aR 0), (1, aI y1), (2, aI u2)] [] M res (lpX12_run_34 y1 n u2 M) := by
  have hl2 : 2 < xn X := by rw [hN]; decide
  have hRm : ∀ {rm : Room} {ny : Nat}, RmOk rmX12_run rm ny → RmOk (xR X) rm ny := fun h => by rw [hR]; exact h
  intro n
  induction n with
  | zero => intro _ _; exact i_none
  | succ n ih =>
    intro u2 M
    unfold lpX12_run_34
    refine i_iload_n C dX12_run_34 rfl (q := 2) rfl ?_
    refine i_iload_n C dX12_run_35 rfl (q := 1) rfl ?_
    refine i_icmp_ge (tgt := 49) C dX12_run_36 (by decide) ?_ ?_
    · refine i_aload_n C dX12_run_49 rfl (q := 0) rfl ?_
      refine i_getR C (k := 0) kX12 dX12_run_50 (shR_0 hX) rfl (by decide) fl_X12_7 ?_
      refine i_iconst C dX12_run_53 kI_0 ?_
      refine i_ald C dX12_run_54 (shR_1 hX) (fun v4 => ?_)
      exact i_iret C hq dX12_run_55
    · refine i_aload_n C dX12_run_39 rfl (q := 0) rfl ?_
      refine i_cV (kc' := 0) (ks' := 0) 0 0 1 (fun q hq hM hS => crV C (as := []) dX12_run_40.1 kX12 (shR_0 hX) ml_X12_217 cal_X12_hour cv_X12_hour (hRm ⟨Nat.le_of_ble_eq_true rfl, Nat.le_of_ble_eq_true rfl⟩) rfl (Nat.le_of_ble_eq_true rfl) (c_X12_hour (xl X) (xG X) hX hM ⟨hS.1, trivial⟩ hq)) (Nat.le_of_ble_eq_true rfl) (Nat.le_of_ble_eq_true rfl) rfl rfl rfl (fun M5 => ?_)
      refine i_iincN (L' := fun v6 => [(0, aR 0), (1, aI y1), (2, aI v6)]) C dX12_run_43 (q := 2) rfl hl2 (fun _ => rfl) (fun v6 => ?_)
      refine i_goto (tgt := 34) C dX12_run_46 (by decide) ?_
      exact (ih v6 M5)
set_option maxRecDepth 100000 in
set_option maxHeartbeats 4000000 in
theorem c_X12_run (l : Launch) (G : Gx) {K : Kx} (hK : K = kR) {x1 : Int} {M : Mem} {res : Int × Mem} (hM : OkM M) (ha : okS [aR 0, aI x1]) (hF : rM_run x1 M = some res) : Ct l G K yX12_run (wsM yX12_run cX12_run 3 (some .int)) rmX12_run [aR 0, aI x1] M (some (aI res.1)) res.2 := by
  refine ct_of RX12 (by decide +kernel) rfl (hK ▸ kR_ok) hM ha (Nat.le_of_ble_eq_true rfl) hF ?_
  intro X C hl hG hX0 hN hR hq
  have hX : xK X = kR := hX0.trans hK
  show Im X 0 0 0 [(0, aR 0), (1, aI x1)] [] M res (rM_run x1 M)
  unfold rM_run
  have hl2 : 2 < xn X := by rw [hN]; decide
  have hRm : ∀ {rm : Room} {ny : Nat}, RmOk rmX12_run rm ny → RmOk (xR X) rm ny := fun h => by rw [hR]; exact h
  refine i_iload_n C dX12_run_0 rfl (q := 1) rfl ?_
  refine i_i2l C dX12_run_1 ?_
  refine i_lconst C dX12_run_2 kL_1 ?_
  refine i_ldc2 C dX12_run_3 k2_X12_215 kJ_100 ?_
  refine i_cI (kc' := 0) (ks' := 0) 0 0 3 (fun q hq hM hS => crS C (as := [aL x1, aL 1, aL 100]) dX12_run_6.1 ml_X12_78 cal_X12_isIn st_X12_isIn (hRm ⟨Nat.le_of_ble_eq_true rfl, Nat.le_of_ble_eq_true rfl⟩) rfl (Nat.le_of_ble_eq_true rfl) (c_X12_isIn (xl X) (xG X) hX hM ⟨hS.2.2.1, hS.2.1, hS.1, trivial⟩ hq)) (Nat.le_of_ble_eq_true rfl) (Nat.le_of_ble_eq_true rfl) rfl rfl rfl (fun v2 M1 => ?_)
  refine i_if_ne (tgt := 15) C dX12_run_9 (by decide) ?_ ?_
  · refine i_aload_n C dX12_run_15 rfl (q := 0) rfl ?_
    refine i_getR C (k := 0) kX12 dX12_run_16 (shR_0 hX) rfl (by decide) fl_X12_7 ?_
    refine i_iconst C dX12_run_19 kI_0 ?_
    refine i_ald C dX12_run_20 (shR_1 hX) (fun v3 => ?_)
    refine i_iload_n C dX12_run_21 rfl (q := 1) rfl ?_
    refine i_iadd C dX12_run_22 ?_
    refine i_sipush C dX12_run_23 kS_9999 ?_
    refine i_icmp_le (tgt := 32) C dX12_run_26 (by decide) ?_ ?_
    · refine i_iconst C dX12_run_32 kI_0 ?_
      refine i_istore_n C dX12_run_33 rfl hl2 (L' := [(0, aR 0), (1, aI x1), (2, aI 0)]) rfl ?_
      exact (w_X12_run_34 C hX hN hR hq x1 FU 0 M1)
    · refine i_ldc C dX12_run_29 kc_X12_103 kI_m1000000003 ?_
      exact i_iret C hq dX12_run_31
  · refine i_ldc C dX12_run_12 kc_X12_102 kI_m1000000001 ?_
    exact i_iret C hq dX12_run_14
set_option maxRecDepth 100000 in
set_option maxHeartbeats 4000000 in
theorem w_X12_feed_18 {X : Xc} (C : Cx X RX12 cX12_feed (some .int)) (hX : xK X = kR) (hN : xn X = 6) (hR : xR X = rmX12_feed) {res : Int × Mem} (hq : Rq X (some (aI res.1)) res.2) (y1 : Int) (y2 : Int) (y3 : Int) : ∀ (n : Nat) (u4 : Int) (M : Mem), Im X 0 0 18 [(0, aR 0), (1, aI y1), (2, aI y2), (3, aI y3), (4, aI u4)] [] M res (lpX12_feed_18 y1 y2 y3 n u4 M) := by
  have hl4 : 4 < xn X := by rw [hN]; decide
  have hl5 : 5 < xn X := by rw [hN]; decide
  intro n
  induction n with
  | zero => intro _ _; exact i_none
  | succ n ih =>
    intro u4 M
    unfold lpX12_feed_18
    refine i_iload C dX12_feed_18 (q := 4) rfl ?_
    refine i_bipush C dX12_feed_20 kB_12 ?_
    refine i_icmp_ge (tgt := 91) C dX12_feed_22 (by decide) ?_ ?_
    · refine i_aload_n C dX12_feed_91 rfl (q := 0) rfl ?_
      refine i_getI C (k := 9) kX12 dX12_feed_92 (shR_0 hX) rfl (by decide) fl_X12_220 rfl ?_
      exact i_iret C hq dX12_feed_95
    · refine i_iload C dX12_feed_25 (q := 4) rfl ?_
      refine i_iconst C dX12_feed_27 kI_4 ?_
      refine i_jn (fun j => ∀ (p1 : Int) (M3 : Mem), Im X 0 0 47 [(0, aR 0), (1, aI y1), (2, aI y2), (3, aI y3), (4, aI u4)] [aI p1] M3 res (j p1 M3)) ?_ (fun j2 hj2 => ?_)
      · intro p1 M3
        refine i_istore C dX12_feed_47 hl5 (L' := [(0, aR 0), (1, aI y1), (2, aI y2), (3, aI y3), (4, aI u4), (5, aI p1)]) rfl ?_
        refine i_aload_n C dX12_feed_49 rfl (q := 0) rfl ?_
        refine i_getR C (k := 8) kX12 dX12_feed_50 (shR_0 hX) rfl (by decide) fl_X12_31 ?_
        refine i_aload_n C dX12_feed_53 rfl (q := 0) rfl ?_
        refine i_getI C (k := 9) kX12 dX12_feed_54 (shR_0 hX) rfl (by decide) fl_X12_220 rfl ?_
        refine i_iload C dX12_feed_57 (q := 5) rfl ?_
        refine i_bipush C dX12_feed_59 kB_24 ?_
        refine i_bipush C dX12_feed_61 kB_8 ?_
        refine i_iload C dX12_feed_63 (q := 4) rfl ?_
        refine i_iconst C dX12_feed_65 kI_4 ?_
        refine i_irem C dX12_feed_66 (by decide) ?_
        refine i_imul C dX12_feed_67 ?_
        refine i_isub C dX12_feed_68 ?_
        refine i_ishr C dX12_feed_69 ?_
        refine i_sipush C dX12_feed_70 kS_255 ?_
        refine i_iand C dX12_feed_73 ?_
        refine i_ast C dX12_feed_74 (shR_8 hX) (fun M4 => ?_)
        refine i_aload_n C dX12_feed_75 rfl (q := 0) rfl ?_
        refine i_dup C dX12_feed_76 rfl ?_
        refine i_getI C (k := 9) kX12 dX12_feed_77 (shR_0 hX) rfl (by decide) fl_X12_220 rfl ?_
        refine i_iconst C dX12_feed_80 kI_1 ?_
        refine i_iadd C dX12_feed_81 ?_
        refine i_putI C (k := 9) kX12 dX12_feed_82 (shR_0 hX) rfl (by decide) fl_X12_220 rfl rfl rfl rfl (fun M5 => ?_)
        refine i_iincN (L' := fun v6 => [(0, aR 0), (1, aI y1), (2, aI y2), (3, aI y3), (4, aI v6), (5, aI p1)]) C dX12_feed_85 (q := 4) rfl hl4 (fun _ => rfl) (fun v6 => ?_)
        refine i_goto (tgt := 18) C dX12_feed_88 (by decide) ?_
        exact i_sub [0, 1, 2, 3, 4] rfl (ih v6 M5)
      refine i_icmp_ge (tgt := 35) C dX12_feed_28 (by decide) ?_ ?_
      · refine i_iload C dX12_feed_35 (q := 4) rfl ?_
        refine i_bipush C dX12_feed_37 kB_8 ?_
        refine i_icmp_ge (tgt := 46) C dX12_feed_39 (by decide) ?_ ?_
        · refine i_iload_n C dX12_feed_46 rfl (q := 3) rfl ?_
          exact (hj2 y3 M)
        · refine i_iload_n C dX12_feed_42 rfl (q := 2) rfl ?_
          refine i_goto (tgt := 47) C dX12_feed_43 (by decide) ?_
          exact (hj2 y2 M)
      · refine i_iload_n C dX12_feed_31 rfl (q := 1) rfl ?_
        refine i_goto (tgt := 47) C dX12_feed_32 (by decide) ?_
        exact (hj2 y1 M)
set_option maxRecDepth 100000 in
set_option maxHeartbeats 4000000 in
theorem c_X12_feed (l : Launch) (G : Gx) {K : Kx} (hK : K = kR) {x1 : Int} {x2 : Int} {x3 : Int} {M : Mem} {res : Int × Mem} (hM : OkM M) (ha : okS [aR 0, aI x1, aI x2, aI x3]) (hF : rM_feed x1 x2 x3 M = some res) : Ct l G K yX12_feed (wsM yX12_feed cX12_feed 6 (some .int)) rmX12_feed [aR 0, aI x1, aI x2, aI x3] M (some (aI res.1)) res.2 := by
  refine ct_of RX12 (by decide +kernel) rfl (hK ▸ kR_ok) hM ha (Nat.le_of_ble_eq_true rfl) hF ?_
  intro X C hl hG hX0 hN hR hq
  have hX : xK X = kR := hX0.trans hK
  show Im X 0 0 0 [(0, aR 0), (1, aI x1), (2, aI x2), (3, aI x3)] [] M res (rM_feed x1 x2 x3 M)
  unfold rM_feed
  have hl4 : 4 < xn X := by rw [hN]; decide
  have hl5 : 5 < xn X := by rw [hN]; decide
  refine i_aload_n C dX12_feed_0 rfl (q := 0) rfl ?_
  refine i_getI C (k := 9) kX12 dX12_feed_1 (shR_0 hX) rfl (by decide) fl_X12_220 rfl ?_
  refine i_bipush C dX12_feed_4 kB_12 ?_
  refine i_iadd C dX12_feed_6 ?_
  refine i_bipush C dX12_feed_7 kB_96 ?_
  refine i_icmp_le (tgt := 15) C dX12_feed_9 (by decide) ?_ ?_
  · refine i_iconst C dX12_feed_15 kI_0 ?_
    refine i_istore C dX12_feed_16 hl4 (L' := [(0, aR 0), (1, aI x1), (2, aI x2), (3, aI x3), (4, aI 0)]) rfl ?_
    exact (w_X12_feed_18 C hX hN hR hq x1 x2 x3 FU 0 M)
  · refine i_ldc C dX12_feed_12 kc_X12_103 kI_m1000000003 ?_
    exact i_iret C hq dX12_feed_14
set_option maxRecDepth 100000 in
set_option maxHeartbeats 4000000 in
theorem c_X12_trim (l : Launch) (G : Gx) {K : Kx} (hK : K = kR) {x1 : Int} {M : Mem} {res : Int × Mem} (hM : OkM M) (ha : okS [aR 0, aI x1]) (hF : rM_trim x1 M = some res) : Ct l G K yX12_trim (wsM yX12_trim cX12_trim 2 (some .int)) rmX12_trim [aR 0, aI x1] M (some (aI res.1)) res.2 := by
  refine ct_of RX12 (by decide +kernel) rfl (hK ▸ kR_ok) hM ha (Nat.le_of_ble_eq_true rfl) hF ?_
  intro X C hl hG hX0 hN hR hq
  have hX : xK X = kR := hX0.trans hK
  show Im X 0 0 0 [(0, aR 0), (1, aI x1)] [] M res (rM_trim x1 M)
  unfold rM_trim
  have hRm : ∀ {rm : Room} {ny : Nat}, RmOk rmX12_trim rm ny → RmOk (xR X) rm ny := fun h => by rw [hR]; exact h
  refine i_iload_n C dX12_trim_0 rfl (q := 1) rfl ?_
  refine i_i2l C dX12_trim_1 ?_
  refine i_lconst C dX12_trim_2 kL_0 ?_
  refine i_aload_n C dX12_trim_3 rfl (q := 0) rfl ?_
  refine i_getI C (k := 9) kX12 dX12_trim_4 (shR_0 hX) rfl (by decide) fl_X12_220 rfl ?_
  refine i_i2l C dX12_trim_7 ?_
  refine i_cI (kc' := 0) (ks' := 0) 0 0 3 (fun q hq hM hS => crS C (as := [aL x1, aL 0, aL (M 0 9)]) dX12_trim_8.1 ml_X12_78 cal_X12_isIn st_X12_isIn (hRm ⟨Nat.le_of_ble_eq_true rfl, Nat.le_of_ble_eq_true rfl⟩) rfl (Nat.le_of_ble_eq_true rfl) (c_X12_isIn (xl X) (xG X) hX hM ⟨hS.2.2.1, hS.2.1, hS.1, trivial⟩ hq)) (Nat.le_of_ble_eq_true rfl) (Nat.le_of_ble_eq_true rfl) rfl rfl rfl (fun v2 M1 => ?_)
  refine i_if_ne (tgt := 17) C dX12_trim_11 (by decide) ?_ ?_
  · refine i_aload_n C dX12_trim_17 rfl (q := 0) rfl ?_
    refine i_iload_n C dX12_trim_18 rfl (q := 1) rfl ?_
    refine i_putI C (k := 9) kX12 dX12_trim_19 (shR_0 hX) rfl (by decide) fl_X12_220 rfl rfl rfl rfl (fun M3 => ?_)
    refine i_iload_n C dX12_trim_22 rfl (q := 1) rfl ?_
    exact i_iret C hq dX12_trim_23
  · refine i_ldc C dX12_trim_14 kc_X12_102 kI_m1000000001 ?_
    exact i_iret C hq dX12_trim_16
set_option maxRecDepth 100000 in
set_option maxHeartbeats 4000000 in
theorem c_X12_isWordAt (l : Launch) (G : Gx) {K : Kx} (hK : K = kR) {x1 : Int} {x2 : Int} {x3 : Int} {x4 : Int} {x5 : Int} {M : Mem} {res : Int × Mem} (hM : OkM M) (ha : okS [aR 0, aI x1, aI x2, aI x3, aI x4, aI x5]) (hF : rM_isWordAt x1 x2 x3 x4 x5 M = some res) : Ct l G K yX12_isWordAt (wsM yX12_isWordAt cX12_isWordAt 8 (some .boolean)) rmX12_isWordAt [aR 0, aI x1, aI x2, aI x3, aI x4, aI x5] M (some (aI res.1)) res.2 := by
  refine ct_of RX12 (by decide +kernel) rfl (hK ▸ kR_ok) hM ha (Nat.le_of_ble_eq_true rfl) hF ?_
  intro X C hl hG hX0 hN hR hq
  have hX : xK X = kR := hX0.trans hK
  show Im X 0 0 0 [(0, aR 0), (1, aI x1), (2, aI x2), (3, aI x3), (4, aI x4), (5, aI x5)] [] M res (rM_isWordAt x1 x2 x3 x4 x5 M)
  unfold rM_isWordAt
  have hl6 : 6 < xn X := by rw [hN]; decide
  have hl7 : 7 < xn X := by rw [hN]; decide
  refine i_iload C dX12_isWordAt_0 (q := 5) rfl ?_
  refine i_jn (fun j => ∀ (p1 : Int) (M3 : Mem), Im X 0 0 10 [(0, aR 0), (1, aI x1), (2, aI x2), (3, aI x3), (4, aI x4), (5, aI x5)] [aI p1] M3 res (j p1 M3)) ?_ (fun j2 hj2 => ?_)
  · intro p1 M3
    refine i_istore C dX12_isWordAt_10 hl6 (L' := [(0, aR 0), (1, aI x1), (2, aI x2), (3, aI x3), (4, aI x4), (5, aI x5), (6, aI p1)]) rfl ?_
    refine i_aload_n C dX12_isWordAt_12 rfl (q := 0) rfl ?_
    refine i_getI C (k := 12) kX12 dX12_isWordAt_13 (shR_0 hX) rfl (by decide) fl_X12_234 rfl ?_
    refine i_iconst C dX12_isWordAt_16 kI_1 ?_
    refine i_jn (fun j => ∀ (p4 : Int) (M6 : Mem), Im X 0 0 98 [(0, aR 0), (5, aI x5)] [aI p4] M6 res (j p4 M6)) ?_ (fun j5 hj5 => ?_)
    · intro p4 M6
      refine i_istore C dX12_isWordAt_98 hl7 (L' := [(0, aR 0), (5, aI x5), (7, aI p4)]) rfl ?_
      refine i_iload C dX12_isWordAt_100 (q := 2) rfl ?_
      refine i_if_eq (tgt := 130) C dX12_isWordAt_102 (by decide) ?_ ?_
      · refine i_iconst C dX12_isWordAt_130 kI_0 ?_
        exact i_zret C hq dX12_isWordAt_131 (Or.inl rfl)
      · refine i_iload C dX12_isWordAt_105 (q := 1) rfl ?_
        refine i_if_eq (tgt := 126) C dX12_isWordAt_107 (by decide) ?_ ?_
        · refine i_iconst C dX12_isWordAt_126 kI_1 ?_
          refine i_goto (tgt := 131) C dX12_isWordAt_127 (by decide) ?_
          exact i_zret C hq dX12_isWordAt_131 (Or.inr rfl)
        · refine i_aload_n C dX12_isWordAt_110 rfl (q := 0) rfl ?_
          refine i_getR C (k := 8) kX12 dX12_isWordAt_111 (shR_0 hX) rfl (by decide) fl_X12_31 ?_
          refine i_aload_n C dX12_isWordAt_114 rfl (q := 0) rfl ?_
          refine i_getI C (k := 10) kX12 dX12_isWordAt_115 (shR_0 hX) rfl (by decide) fl_X12_237 rfl ?_
          refine i_iconst C dX12_isWordAt_118 kI_4 ?_
          refine i_iadd C dX12_isWordAt_119 ?_
          refine i_ald C dX12_isWordAt_120 (shR_8 hX) (fun v7 => ?_)
          refine i_iload C dX12_isWordAt_121 (q := 1) rfl ?_
          refine i_icmp_ne (tgt := 130) C dX12_isWordAt_123 (by decide) ?_ ?_
          · refine i_iconst C dX12_isWordAt_130 kI_0 ?_
            exact i_zret C hq dX12_isWordAt_131 (Or.inl rfl)
          · refine i_iconst C dX12_isWordAt_126 kI_1 ?_
            refine i_goto (tgt := 131) C dX12_isWordAt_127 (by decide) ?_
            exact i_zret C hq dX12_isWordAt_131 (Or.inr rfl)
    refine i_jn (fun j => ∀  (M9 : Mem), Im X 0 0 97 [(0, aR 0), (5, aI x5)] [] M9 res (j  M9)) ?_ (fun j8 hj8 => ?_)
    · intro  M9
      refine i_iconst C dX12_isWordAt_97 kI_0 ?_
      exact (hj5 0 M9)
    refine i_icmp_ne (tgt := 97) C dX12_isWordAt_17 (by decide) ?_ ?_
    · exact i_sub [0, 5] rfl (hj8  M3)
    · refine i_aload_n C dX12_isWordAt_20 rfl (q := 0) rfl ?_
      refine i_getI C (k := 11) kX12 dX12_isWordAt_21 (shR_0 hX) rfl (by decide) fl_X12_231 rfl ?_
      refine i_aload_n C dX12_isWordAt_24 rfl (q := 0) rfl ?_
      refine i_getI C (k := 10) kX12 dX12_isWordAt_25 (shR_0 hX) rfl (by decide) fl_X12_237 rfl ?_
      refine i_isub C dX12_isWordAt_28 ?_
      refine i_iload C dX12_isWordAt_29 (q := 6) rfl ?_
      refine i_icmp_ne (tgt := 97) C dX12_isWordAt_31 (by decide) ?_ ?_
      · exact i_sub [0, 5] rfl (hj8  M3)
      · refine i_aload_n C dX12_isWordAt_34 rfl (q := 0) rfl ?_
        refine i_getR C (k := 8) kX12 dX12_isWordAt_35 (shR_0 hX) rfl (by decide) fl_X12_31 ?_
        refine i_aload_n C dX12_isWordAt_38 rfl (q := 0) rfl ?_
        refine i_getI C (k := 10) kX12 dX12_isWordAt_39 (shR_0 hX) rfl (by decide) fl_X12_237 rfl ?_
        refine i_ald C dX12_isWordAt_42 (shR_8 hX) (fun v10 => ?_)
        refine i_iload_n C dX12_isWordAt_43 rfl (q := 1) rfl ?_
        refine i_icmp_ne (tgt := 97) C dX12_isWordAt_44 (by decide) ?_ ?_
        · exact i_sub [0, 5] rfl (hj8  M3)
        · refine i_aload_n C dX12_isWordAt_47 rfl (q := 0) rfl ?_
          refine i_getR C (k := 8) kX12 dX12_isWordAt_48 (shR_0 hX) rfl (by decide) fl_X12_31 ?_
          refine i_aload_n C dX12_isWordAt_51 rfl (q := 0) rfl ?_
          refine i_getI C (k := 10) kX12 dX12_isWordAt_52 (shR_0 hX) rfl (by decide) fl_X12_237 rfl ?_
          refine i_iconst C dX12_isWordAt_55 kI_1 ?_
          refine i_iadd C dX12_isWordAt_56 ?_
          refine i_ald C dX12_isWordAt_57 (shR_8 hX) (fun v11 => ?_)
          refine i_iload_n C dX12_isWordAt_58 rfl (q := 2) rfl ?_
          refine i_icmp_ne (tgt := 97) C dX12_isWordAt_59 (by decide) ?_ ?_
          · exact i_sub [0, 5] rfl (hj8  M3)
          · refine i_aload_n C dX12_isWordAt_62 rfl (q := 0) rfl ?_
            refine i_getR C (k := 8) kX12 dX12_isWordAt_63 (shR_0 hX) rfl (by decide) fl_X12_31 ?_
            refine i_aload_n C dX12_isWordAt_66 rfl (q := 0) rfl ?_
            refine i_getI C (k := 10) kX12 dX12_isWordAt_67 (shR_0 hX) rfl (by decide) fl_X12_237 rfl ?_
            refine i_iconst C dX12_isWordAt_70 kI_2 ?_
            refine i_iadd C dX12_isWordAt_71 ?_
            refine i_ald C dX12_isWordAt_72 (shR_8 hX) (fun v12 => ?_)
            refine i_iload_n C dX12_isWordAt_73 rfl (q := 3) rfl ?_
            refine i_icmp_ne (tgt := 97) C dX12_isWordAt_74 (by decide) ?_ ?_
            · exact i_sub [0, 5] rfl (hj8  M3)
            · refine i_aload_n C dX12_isWordAt_77 rfl (q := 0) rfl ?_
              refine i_getR C (k := 8) kX12 dX12_isWordAt_78 (shR_0 hX) rfl (by decide) fl_X12_31 ?_
              refine i_aload_n C dX12_isWordAt_81 rfl (q := 0) rfl ?_
              refine i_getI C (k := 10) kX12 dX12_isWordAt_82 (shR_0 hX) rfl (by decide) fl_X12_237 rfl ?_
              refine i_iconst C dX12_isWordAt_85 kI_3 ?_
              refine i_iadd C dX12_isWordAt_86 ?_
              refine i_ald C dX12_isWordAt_87 (shR_8 hX) (fun v13 => ?_)
              refine i_iload C dX12_isWordAt_88 (q := 4) rfl ?_
              refine i_icmp_ne (tgt := 97) C dX12_isWordAt_90 (by decide) ?_ ?_
              · exact i_sub [0, 5] rfl (hj8  M3)
              · refine i_iconst C dX12_isWordAt_93 kI_1 ?_
                refine i_goto (tgt := 98) C dX12_isWordAt_94 (by decide) ?_
                exact i_sub [0, 5] rfl (hj5 1 M3)
  refine i_if_ne (tgt := 9) C dX12_isWordAt_2 (by decide) ?_ ?_
  · refine i_iconst C dX12_isWordAt_9 kI_5 ?_
    exact (hj2 5 M)
  · refine i_iconst C dX12_isWordAt_5 kI_4 ?_
    refine i_goto (tgt := 10) C dX12_isWordAt_6 (by decide) ?_
    exact (hj2 4 M)
set_option maxRecDepth 100000 in
set_option maxHeartbeats 4000000 in
theorem c_X12_isPay (l : Launch) (G : Gx) {K : Kx} (hK : K = kR) {M : Mem} {res : Int × Mem} (hM : OkM M) (ha : okS [aR 0]) (hF : rM_isPay M = some res) : Ct l G K yX12_isPay (wsM yX12_isPay cX12_isPay 1 (some .boolean)) rmX12_isPay [aR 0] M (some (aI res.1)) res.2 := by
  refine ct_of RX12 (by decide +kernel) rfl (hK ▸ kR_ok) hM ha (Nat.le_of_ble_eq_true rfl) hF ?_
  intro X C hl hG hX0 hN hR hq
  have hX : xK X = kR := hX0.trans hK
  show Im X 0 0 0 [(0, aR 0)] [] M res (rM_isPay  M)
  unfold rM_isPay
  refine i_aload_n C dX12_isPay_0 rfl (q := 0) rfl ?_
  refine i_getI C (k := 12) kX12 dX12_isPay_1 (shR_0 hX) rfl (by decide) fl_X12_234 rfl ?_
  refine i_iconst C dX12_isPay_4 kI_1 ?_
  refine i_icmp_ne (tgt := 71) C dX12_isPay_5 (by decide) ?_ ?_
  · refine i_iconst C dX12_isPay_71 kI_0 ?_
    exact i_zret C hq dX12_isPay_72 (Or.inl rfl)
  · refine i_aload_n C dX12_isPay_8 rfl (q := 0) rfl ?_
    refine i_getI C (k := 11) kX12 dX12_isPay_9 (shR_0 hX) rfl (by decide) fl_X12_231 rfl ?_
    refine i_aload_n C dX12_isPay_12 rfl (q := 0) rfl ?_
    refine i_getI C (k := 10) kX12 dX12_isPay_13 (shR_0 hX) rfl (by decide) fl_X12_237 rfl ?_
    refine i_isub C dX12_isPay_16 ?_
    refine i_iconst C dX12_isPay_17 kI_3 ?_
    refine i_icmp_ne (tgt := 71) C dX12_isPay_18 (by decide) ?_ ?_
    · refine i_iconst C dX12_isPay_71 kI_0 ?_
      exact i_zret C hq dX12_isPay_72 (Or.inl rfl)
    · refine i_aload_n C dX12_isPay_21 rfl (q := 0) rfl ?_
      refine i_getR C (k := 8) kX12 dX12_isPay_22 (shR_0 hX) rfl (by decide) fl_X12_31 ?_
      refine i_aload_n C dX12_isPay_25 rfl (q := 0) rfl ?_
      refine i_getI C (k := 10) kX12 dX12_isPay_26 (shR_0 hX) rfl (by decide) fl_X12_237 rfl ?_
      refine i_ald C dX12_isPay_29 (shR_8 hX) (fun v1 => ?_)
      refine i_bipush C dX12_isPay_30 kB_112 ?_
      refine i_icmp_ne (tgt := 71) C dX12_isPay_32 (by decide) ?_ ?_
      · refine i_iconst C dX12_isPay_71 kI_0 ?_
        exact i_zret C hq dX12_isPay_72 (Or.inl rfl)
      · refine i_aload_n C dX12_isPay_35 rfl (q := 0) rfl ?_
        refine i_getR C (k := 8) kX12 dX12_isPay_36 (shR_0 hX) rfl (by decide) fl_X12_31 ?_
        refine i_aload_n C dX12_isPay_39 rfl (q := 0) rfl ?_
        refine i_getI C (k := 10) kX12 dX12_isPay_40 (shR_0 hX) rfl (by decide) fl_X12_237 rfl ?_
        refine i_iconst C dX12_isPay_43 kI_1 ?_
        refine i_iadd C dX12_isPay_44 ?_
        refine i_ald C dX12_isPay_45 (shR_8 hX) (fun v2 => ?_)
        refine i_bipush C dX12_isPay_46 kB_97 ?_
        refine i_icmp_ne (tgt := 71) C dX12_isPay_48 (by decide) ?_ ?_
        · refine i_iconst C dX12_isPay_71 kI_0 ?_
          exact i_zret C hq dX12_isPay_72 (Or.inl rfl)
        · refine i_aload_n C dX12_isPay_51 rfl (q := 0) rfl ?_
          refine i_getR C (k := 8) kX12 dX12_isPay_52 (shR_0 hX) rfl (by decide) fl_X12_31 ?_
          refine i_aload_n C dX12_isPay_55 rfl (q := 0) rfl ?_
          refine i_getI C (k := 10) kX12 dX12_isPay_56 (shR_0 hX) rfl (by decide) fl_X12_237 rfl ?_
          refine i_iconst C dX12_isPay_59 kI_2 ?_
          refine i_iadd C dX12_isPay_60 ?_
          refine i_ald C dX12_isPay_61 (shR_8 hX) (fun v3 => ?_)
          refine i_bipush C dX12_isPay_62 kB_121 ?_
          refine i_icmp_ne (tgt := 71) C dX12_isPay_64 (by decide) ?_ ?_
          · refine i_iconst C dX12_isPay_71 kI_0 ?_
            exact i_zret C hq dX12_isPay_72 (Or.inl rfl)
          · refine i_iconst C dX12_isPay_67 kI_1 ?_
            refine i_goto (tgt := 72) C dX12_isPay_68 (by decide) ?_
            exact i_zret C hq dX12_isPay_72 (Or.inr rfl)
set_option maxRecDepth 100000 in
set_option maxHeartbeats 4000000 in
theorem c_X12_key (l : Launch) (G : Gx) {K : Kx} (hK : K = kR) {M : Mem} {res : Int × Mem} (hM : OkM M) (ha : okS [aR 0]) (hF : rM_key M = some res) : Ct l G K yX12_key (wsM yX12_key cX12_key 1 (some .int)) rmX12_key [aR 0] M (some (aI res.1)) res.2 := by
  refine ct_of RX12 (by decide +kernel) rfl (hK ▸ kR_ok) hM ha (Nat.le_of_ble_eq_true rfl) hF ?_
  intro X C hl hG hX0 hN hR hq
  have hX : xK X = kR := hX0.trans hK
  show Im X 0 0 0 [(0, aR 0)] [] M res (rM_key  M)
  unfold rM_key
  have hRm : ∀ {rm : Room} {ny : Nat}, RmOk rmX12_key rm ny → RmOk (xR X) rm ny := fun h => by rw [hR]; exact h
  refine i_aload_n C dX12_key_0 rfl (q := 0) rfl ?_
  refine i_bipush C dX12_key_1 kB_99 ?_
  refine i_bipush C dX12_key_3 kB_114 ?_
  refine i_bipush C dX12_key_5 kB_111 ?_
  refine i_bipush C dX12_key_7 kB_115 ?_
  refine i_bipush C dX12_key_9 kB_115 ?_
  refine i_cI (kc' := 0) (ks' := 0) 0 0 6 (fun q hq hM hS => crV C (as := [aI 99, aI 114, aI 111, aI 115, aI 115]) dX12_key_11.1 kX12 (shR_0 hX) ml_X12_252 cal_X12_isWordAt cv_X12_isWordAt (hRm ⟨Nat.le_of_ble_eq_true rfl, Nat.le_of_ble_eq_true rfl⟩) rfl (Nat.le_of_ble_eq_true rfl) (c_X12_isWordAt (xl X) (xG X) hX hM ⟨hS.2.2.2.2.2.1, hS.2.2.2.2.1, hS.2.2.2.1, hS.2.2.1, hS.2.1, hS.1, trivial⟩ hq)) (Nat.le_of_ble_eq_true rfl) (Nat.le_of_ble_eq_true rfl) rfl rfl rfl (fun v2 M1 => ?_)
  refine i_if_eq (tgt := 21) C dX12_key_14 (by decide) ?_ ?_
  · refine i_aload_n C dX12_key_21 rfl (q := 0) rfl ?_
    refine i_bipush C dX12_key_22 kB_99 ?_
    refine i_bipush C dX12_key_24 kB_97 ?_
    refine i_bipush C dX12_key_26 kB_114 ?_
    refine i_bipush C dX12_key_28 kB_114 ?_
    refine i_bipush C dX12_key_30 kB_121 ?_
    refine i_cI (kc' := 0) (ks' := 0) 0 0 6 (fun q hq hM hS => crV C (as := [aI 99, aI 97, aI 114, aI 114, aI 121]) dX12_key_32.1 kX12 (shR_0 hX) ml_X12_252 cal_X12_isWordAt cv_X12_isWordAt (hRm ⟨Nat.le_of_ble_eq_true rfl, Nat.le_of_ble_eq_true rfl⟩) rfl (Nat.le_of_ble_eq_true rfl) (c_X12_isWordAt (xl X) (xG X) hX hM ⟨hS.2.2.2.2.2.1, hS.2.2.2.2.1, hS.2.2.2.1, hS.2.2.1, hS.2.1, hS.1, trivial⟩ hq)) (Nat.le_of_ble_eq_true rfl) (Nat.le_of_ble_eq_true rfl) rfl rfl rfl (fun v4 M3 => ?_)
    refine i_if_eq (tgt := 42) C dX12_key_35 (by decide) ?_ ?_
    · refine i_aload_n C dX12_key_42 rfl (q := 0) rfl ?_
      refine i_bipush C dX12_key_43 kB_104 ?_
      refine i_bipush C dX12_key_45 kB_97 ?_
      refine i_bipush C dX12_key_47 kB_108 ?_
      refine i_bipush C dX12_key_49 kB_116 ?_
      refine i_iconst C dX12_key_51 kI_0 ?_
      refine i_cI (kc' := 0) (ks' := 0) 0 0 6 (fun q hq hM hS => crV C (as := [aI 104, aI 97, aI 108, aI 116, aI 0]) dX12_key_52.1 kX12 (shR_0 hX) ml_X12_252 cal_X12_isWordAt cv_X12_isWordAt (hRm ⟨Nat.le_of_ble_eq_true rfl, Nat.le_of_ble_eq_true rfl⟩) rfl (Nat.le_of_ble_eq_true rfl) (c_X12_isWordAt (xl X) (xG X) hX hM ⟨hS.2.2.2.2.2.1, hS.2.2.2.2.1, hS.2.2.2.1, hS.2.2.1, hS.2.1, hS.1, trivial⟩ hq)) (Nat.le_of_ble_eq_true rfl) (Nat.le_of_ble_eq_true rfl) rfl rfl rfl (fun v6 M5 => ?_)
      refine i_if_eq (tgt := 62) C dX12_key_55 (by decide) ?_ ?_
      · refine i_aload_n C dX12_key_62 rfl (q := 0) rfl ?_
        refine i_bipush C dX12_key_63 kB_104 ?_
        refine i_bipush C dX12_key_65 kB_111 ?_
        refine i_bipush C dX12_key_67 kB_117 ?_
        refine i_bipush C dX12_key_69 kB_115 ?_
        refine i_bipush C dX12_key_71 kB_101 ?_
        refine i_cI (kc' := 0) (ks' := 0) 0 0 6 (fun q hq hM hS => crV C (as := [aI 104, aI 111, aI 117, aI 115, aI 101]) dX12_key_73.1 kX12 (shR_0 hX) ml_X12_252 cal_X12_isWordAt cv_X12_isWordAt (hRm ⟨Nat.le_of_ble_eq_true rfl, Nat.le_of_ble_eq_true rfl⟩) rfl (Nat.le_of_ble_eq_true rfl) (c_X12_isWordAt (xl X) (xG X) hX hM ⟨hS.2.2.2.2.2.1, hS.2.2.2.2.1, hS.2.2.2.1, hS.2.2.1, hS.2.1, hS.1, trivial⟩ hq)) (Nat.le_of_ble_eq_true rfl) (Nat.le_of_ble_eq_true rfl) rfl rfl rfl (fun v8 M7 => ?_)
        refine i_if_eq (tgt := 83) C dX12_key_76 (by decide) ?_ ?_
        · refine i_aload_n C dX12_key_83 rfl (q := 0) rfl ?_
          refine i_cI (kc' := 0) (ks' := 0) 0 0 1 (fun q hq hM hS => crV C (as := []) dX12_key_84.1 kX12 (shR_0 hX) ml_X12_256 cal_X12_isPay cv_X12_isPay (hRm ⟨Nat.le_of_ble_eq_true rfl, Nat.le_of_ble_eq_true rfl⟩) rfl (Nat.le_of_ble_eq_true rfl) (c_X12_isPay (xl X) (xG X) hX hM ⟨hS.1, trivial⟩ hq)) (Nat.le_of_ble_eq_true rfl) (Nat.le_of_ble_eq_true rfl) rfl rfl rfl (fun v10 M9 => ?_)
          refine i_if_eq (tgt := 94) C dX12_key_87 (by decide) ?_ ?_
          · refine i_iconst C dX12_key_94 kI_m1 ?_
            exact i_iret C hq dX12_key_95
          · refine i_iconst C dX12_key_90 kI_4 ?_
            refine i_goto (tgt := 95) C dX12_key_91 (by decide) ?_
            exact i_iret C hq dX12_key_95
        · refine i_iconst C dX12_key_79 kI_3 ?_
          refine i_goto (tgt := 95) C dX12_key_80 (by decide) ?_
          exact i_iret C hq dX12_key_95
      · refine i_iconst C dX12_key_58 kI_2 ?_
        refine i_goto (tgt := 95) C dX12_key_59 (by decide) ?_
        exact i_iret C hq dX12_key_95
    · refine i_iconst C dX12_key_38 kI_1 ?_
      refine i_goto (tgt := 95) C dX12_key_39 (by decide) ?_
      exact i_iret C hq dX12_key_95
  · refine i_iconst C dX12_key_17 kI_0 ?_
    refine i_goto (tgt := 95) C dX12_key_18 (by decide) ?_
    exact i_iret C hq dX12_key_95
set_option maxRecDepth 100000 in
set_option maxHeartbeats 4000000 in
theorem c_X12_of (l : Launch) (G : Gx) {K : Kx} (hK : K = kR) {x1 : Int} {x2 : Int} {M : Mem} {res : Int × Mem} (hM : OkM M) (ha : okS [aR 0, aI x1, aI x2]) (hF : rM_of x1 x2 M = some res) : Ct l G K yX12_of (wsM yX12_of cX12_of 4 (some .int)) rmX12_of [aR 0, aI x1, aI x2] M (some (aI res.1)) res.2 := by
  refine ct_of RX12 (by decide +kernel) rfl (hK ▸ kR_ok) hM ha (Nat.le_of_ble_eq_true rfl) hF ?_
  intro X C hl hG hX0 hN hR hq
  have hX : xK X = kR := hX0.trans hK
  show Im X 0 0 0 [(0, aR 0), (1, aI x1), (2, aI x2)] [] M res (rM_of x1 x2 M)
  unfold rM_of
  have hl3 : 3 < xn X := by rw [hN]; decide
  have hRm : ∀ {rm : Room} {ny : Nat}, RmOk rmX12_of rm ny → RmOk (xR X) rm ny := fun h => by rw [hR]; exact h
  refine i_aload_n C dX12_of_0 rfl (q := 0) rfl ?_
  refine i_iload_n C dX12_of_1 rfl (q := 1) rfl ?_
  refine i_cI (kc' := 0) (ks' := 0) 0 0 2 (fun q hq hM hS => crV C (as := [aI x1]) dX12_of_2.1 kX12 (shR_0 hX) ml_X12_316 cal_X12_isText cv_X12_isText (hRm ⟨Nat.le_of_ble_eq_true rfl, Nat.le_of_ble_eq_true rfl⟩) rfl (Nat.le_of_ble_eq_true rfl) (c_X12_isText (xl X) (xG X) hX hM ⟨hS.2.1, hS.1, trivial⟩ hq)) (Nat.le_of_ble_eq_true rfl) (Nat.le_of_ble_eq_true rfl) rfl rfl rfl (fun v2 M1 => ?_)
  refine i_if_eq (tgt := 20) C dX12_of_5 (by decide) ?_ ?_
  · refine i_ldc C dX12_of_20 kc_X12_102 kI_m1000000001 ?_
    exact i_iret C hq dX12_of_22
  · refine i_iload_n C dX12_of_8 rfl (q := 2) rfl ?_
    refine i_i2l C dX12_of_9 ?_
    refine i_lconst C dX12_of_10 kL_0 ?_
    refine i_ldc2 C dX12_of_11 k2_X12_319 kJ_4 ?_
    refine i_cI (kc' := 0) (ks' := 0) 0 0 3 (fun q hq hM hS => crS C (as := [aL x2, aL 0, aL 4]) dX12_of_14.1 ml_X12_78 cal_X12_isIn st_X12_isIn (hRm ⟨Nat.le_of_ble_eq_true rfl, Nat.le_of_ble_eq_true rfl⟩) rfl (Nat.le_of_ble_eq_true rfl) (c_X12_isIn (xl X) (xG X) hX hM ⟨hS.2.2.1, hS.2.1, hS.1, trivial⟩ hq)) (Nat.le_of_ble_eq_true rfl) (Nat.le_of_ble_eq_true rfl) rfl rfl rfl (fun v4 M3 => ?_)
    refine i_if_ne (tgt := 23) C dX12_of_17 (by decide) ?_ ?_
    · refine i_aload_n C dX12_of_23 rfl (q := 0) rfl ?_
      refine i_getR C (k := 0) kX12 dX12_of_24 (shR_0 hX) rfl (by decide) fl_X12_7 ?_
      refine i_aload_n C dX12_of_27 rfl (q := 0) rfl ?_
      refine i_iload_n C dX12_of_28 rfl (q := 1) rfl ?_
      refine i_cI (kc' := 0) (ks' := 0) 0 0 2 (fun q hq hM hS => crV C (as := [aI x1]) dX12_of_29.1 kX12 (shR_0 hX) ml_X12_305 cal_X12_textAt cv_X12_textAt (hRm ⟨Nat.le_of_ble_eq_true rfl, Nat.le_of_ble_eq_true rfl⟩) rfl (Nat.le_of_ble_eq_true rfl) (c_X12_textAt (xl X) (xG X) hX hM ⟨hS.2.1, hS.1, trivial⟩ hq)) (Nat.le_of_ble_eq_true rfl) (Nat.le_of_ble_eq_true rfl) rfl rfl rfl (fun v6 M5 => ?_)
      refine i_iload_n C dX12_of_32 rfl (q := 2) rfl ?_
      refine i_iadd C dX12_of_33 ?_
      refine i_ald C dX12_of_34 (shR_1 hX) (fun v7 => ?_)
      refine i_istore_n C dX12_of_35 rfl hl3 (L' := [(0, aR 0), (1, aI x1), (2, aI x2), (3, aI v7)]) rfl ?_
      refine i_iload_n C dX12_of_36 rfl (q := 2) rfl ?_
      refine i_iconst C dX12_of_37 kI_3 ?_
      refine i_icmp_ne (tgt := 48) C dX12_of_38 (by decide) ?_ ?_
      · refine i_iload_n C dX12_of_48 rfl (q := 3) rfl ?_
        exact i_iret C hq dX12_of_49
      · refine i_iload_n C dX12_of_41 rfl (q := 3) rfl ?_
        refine i_cI (kc' := 0) (ks' := 0) 0 0 1 (fun q hq hM hS => crS C (as := [aI v7]) dX12_of_42.1 ml_X12_124 cal_X12_orNone st_X12_orNone (hRm ⟨Nat.le_of_ble_eq_true rfl, Nat.le_of_ble_eq_true rfl⟩) rfl (Nat.le_of_ble_eq_true rfl) (c_X12_orNone (xl X) (xG X) hX hM ⟨hS.1, trivial⟩ hq)) (Nat.le_of_ble_eq_true rfl) (Nat.le_of_ble_eq_true rfl) rfl rfl rfl (fun v9 M8 => ?_)
        refine i_goto (tgt := 49) C dX12_of_45 (by decide) ?_
        exact i_iret C hq dX12_of_49
    · refine i_ldc C dX12_of_20 kc_X12_102 kI_m1000000001 ?_
      exact i_iret C hq dX12_of_22
set_option maxRecDepth 100000 in
set_option maxHeartbeats 4000000 in
theorem c_X12_strike (l : Launch) (G : Gx) {K : Kx} (hK : K = kR) {x1 : Int} {M : Mem} {res : Int × Mem} (hM : OkM M) (ha : okS [aR 0, aI x1]) (hF : rM_strike x1 M = some res) : Ct l G K yX12_strike (wsM yX12_strike cX12_strike 2 (some .int)) rmX12_strike [aR 0, aI x1] M (some (aI res.1)) res.2 := by
  refine ct_of RX12 (by decide +kernel) rfl (hK ▸ kR_ok) hM ha (Nat.le_of_ble_eq_true rfl) hF ?_
  intro X C hl hG hX0 hN hR hq
  have hX : xK X = kR := hX0.trans hK
  show Im X 0 0 0 [(0, aR 0), (1, aI x1)] [] M res (rM_strike x1 M)
  unfold rM_strike
  have hRm : ∀ {rm : Room} {ny : Nat}, RmOk rmX12_strike rm ny → RmOk (xR X) rm ny := fun h => by rw [hR]; exact h
  refine i_aload_n C dX12_strike_0 rfl (q := 0) rfl ?_
  refine i_iload_n C dX12_strike_1 rfl (q := 1) rfl ?_
  refine i_cI (kc' := 0) (ks' := 0) 0 0 2 (fun q hq hM hS => crV C (as := [aI x1]) dX12_strike_2.1 kX12 (shR_0 hX) ml_X12_316 cal_X12_isText cv_X12_isText (hRm ⟨Nat.le_of_ble_eq_true rfl, Nat.le_of_ble_eq_true rfl⟩) rfl (Nat.le_of_ble_eq_true rfl) (c_X12_isText (xl X) (xG X) hX hM ⟨hS.2.1, hS.1, trivial⟩ hq)) (Nat.le_of_ble_eq_true rfl) (Nat.le_of_ble_eq_true rfl) rfl rfl rfl (fun v2 M1 => ?_)
  refine i_if_ne (tgt := 11) C dX12_strike_5 (by decide) ?_ ?_
  · refine i_aload_n C dX12_strike_11 rfl (q := 0) rfl ?_
    refine i_getR C (k := 0) kX12 dX12_strike_12 (shR_0 hX) rfl (by decide) fl_X12_7 ?_
    refine i_aload_n C dX12_strike_15 rfl (q := 0) rfl ?_
    refine i_iload_n C dX12_strike_16 rfl (q := 1) rfl ?_
    refine i_cI (kc' := 0) (ks' := 0) 0 0 2 (fun q hq hM hS => crV C (as := [aI x1]) dX12_strike_17.1 kX12 (shR_0 hX) ml_X12_305 cal_X12_textAt cv_X12_textAt (hRm ⟨Nat.le_of_ble_eq_true rfl, Nat.le_of_ble_eq_true rfl⟩) rfl (Nat.le_of_ble_eq_true rfl) (c_X12_textAt (xl X) (xG X) hX hM ⟨hS.2.1, hS.1, trivial⟩ hq)) (Nat.le_of_ble_eq_true rfl) (Nat.le_of_ble_eq_true rfl) rfl rfl rfl (fun v4 M3 => ?_)
    refine i_iconst C dX12_strike_20 kI_3 ?_
    refine i_iadd C dX12_strike_21 ?_
    refine i_ald C dX12_strike_22 (shR_1 hX) (fun v5 => ?_)
    refine i_if_lt (tgt := 29) C dX12_strike_23 (by decide) ?_ ?_
    · refine i_aload_n C dX12_strike_29 rfl (q := 0) rfl ?_
      refine i_getR C (k := 0) kX12 dX12_strike_30 (shR_0 hX) rfl (by decide) fl_X12_7 ?_
      refine i_aload_n C dX12_strike_33 rfl (q := 0) rfl ?_
      refine i_iload_n C dX12_strike_34 rfl (q := 1) rfl ?_
      refine i_cI (kc' := 0) (ks' := 0) 0 0 2 (fun q hq hM hS => crV C (as := [aI x1]) dX12_strike_35.1 kX12 (shR_0 hX) ml_X12_305 cal_X12_textAt cv_X12_textAt (hRm ⟨Nat.le_of_ble_eq_true rfl, Nat.le_of_ble_eq_true rfl⟩) rfl (Nat.le_of_ble_eq_true rfl) (c_X12_textAt (xl X) (xG X) hX hM ⟨hS.2.1, hS.1, trivial⟩ hq)) (Nat.le_of_ble_eq_true rfl) (Nat.le_of_ble_eq_true rfl) rfl rfl rfl (fun v7 M6 => ?_)
      refine i_iconst C dX12_strike_38 kI_3 ?_
      refine i_iadd C dX12_strike_39 ?_
      refine i_aload_n C dX12_strike_40 rfl (q := 0) rfl ?_
      refine i_cI (kc' := 0) (ks' := 0) 0 0 1 (fun q hq hM hS => crV C (as := []) dX12_strike_41.1 kX12 (shR_0 hX) ml_X12_180 cal_X12_day cv_X12_day (hRm ⟨Nat.le_of_ble_eq_true rfl, Nat.le_of_ble_eq_true rfl⟩) rfl (Nat.le_of_ble_eq_true rfl) (c_X12_day (xl X) (xG X) hX hM ⟨hS.1, trivial⟩ hq)) (Nat.le_of_ble_eq_true rfl) (Nat.le_of_ble_eq_true rfl) rfl rfl rfl (fun v9 M8 => ?_)
      refine i_iconst C dX12_strike_44 kI_1 ?_
      refine i_iadd C dX12_strike_45 ?_
      refine i_ast C dX12_strike_46 (shR_1 hX) (fun M10 => ?_)
      refine i_iconst C dX12_strike_47 kI_1 ?_
      exact i_iret C hq dX12_strike_48
    · refine i_ldc C dX12_strike_26 kc_X12_132 kI_m1000000002 ?_
      exact i_iret C hq dX12_strike_28
  · refine i_ldc C dX12_strike_8 kc_X12_102 kI_m1000000001 ?_
    exact i_iret C hq dX12_strike_10
set_option maxRecDepth 100000 in
set_option maxHeartbeats 4000000 in
theorem c_X12_counts (l : Launch) (G : Gx) {K : Kx} (hK : K = kR) {x1 : Int} {x2 : Int} {M : Mem} {res : Int × Mem} (hM : OkM M) (ha : okS [aR 0, aI x1, aI x2]) (hF : rM_counts x1 x2 M = some res) : Ct l G K yX12_counts (wsM yX12_counts cX12_counts 3 (some .int)) rmX12_counts [aR 0, aI x1, aI x2] M (some (aI res.1)) res.2 := by
  refine ct_of RX12 (by decide +kernel) rfl (hK ▸ kR_ok) hM ha (Nat.le_of_ble_eq_true rfl) hF ?_
  intro X C hl hG hX0 hN hR hq
  have hX : xK X = kR := hX0.trans hK
  show Im X 0 0 0 [(0, aR 0), (1, aI x1), (2, aI x2)] [] M res (rM_counts x1 x2 M)
  unfold rM_counts
  have hRm : ∀ {rm : Room} {ny : Nat}, RmOk rmX12_counts rm ny → RmOk (xR X) rm ny := fun h => by rw [hR]; exact h
  refine i_iload_n C dX12_counts_0 rfl (q := 1) rfl ?_
  refine i_cI (kc' := 0) (ks' := 0) 0 0 1 (fun q hq hM hS => crS C (as := [aI x1]) dX12_counts_1.1 ml_X12_99 cal_X12_isSide st_X12_isSide (hRm ⟨Nat.le_of_ble_eq_true rfl, Nat.le_of_ble_eq_true rfl⟩) rfl (Nat.le_of_ble_eq_true rfl) (c_X12_isSide (xl X) (xG X) hX hM ⟨hS.1, trivial⟩ hq)) (Nat.le_of_ble_eq_true rfl) (Nat.le_of_ble_eq_true rfl) rfl rfl rfl (fun v2 M1 => ?_)
  refine i_if_eq (tgt := 31) C dX12_counts_4 (by decide) ?_ ?_
  · refine i_ldc C dX12_counts_31 kc_X12_102 kI_m1000000001 ?_
    exact i_iret C hq dX12_counts_33
  · refine i_iload_n C dX12_counts_7 rfl (q := 2) rfl ?_
    refine i_i2l C dX12_counts_8 ?_
    refine i_lconst C dX12_counts_9 kL_0 ?_
    refine i_ldc2 C dX12_counts_10 k2_X12_319 kJ_4 ?_
    refine i_cI (kc' := 0) (ks' := 0) 0 0 3 (fun q hq hM hS => crS C (as := [aL x2, aL 0, aL 4]) dX12_counts_13.1 ml_X12_78 cal_X12_isIn st_X12_isIn (hRm ⟨Nat.le_of_ble_eq_true rfl, Nat.le_of_ble_eq_true rfl⟩) rfl (Nat.le_of_ble_eq_true rfl) (c_X12_isIn (xl X) (xG X) hX hM ⟨hS.2.2.1, hS.2.1, hS.1, trivial⟩ hq)) (Nat.le_of_ble_eq_true rfl) (Nat.le_of_ble_eq_true rfl) rfl rfl rfl (fun v4 M3 => ?_)
    refine i_if_eq (tgt := 31) C dX12_counts_16 (by decide) ?_ ?_
    · refine i_ldc C dX12_counts_31 kc_X12_102 kI_m1000000001 ?_
      exact i_iret C hq dX12_counts_33
    · refine i_aload_n C dX12_counts_19 rfl (q := 0) rfl ?_
      refine i_iload_n C dX12_counts_20 rfl (q := 1) rfl ?_
      refine i_iload_n C dX12_counts_21 rfl (q := 2) rfl ?_
      refine i_cI (kc' := 0) (ks' := 0) 0 0 3 (fun q hq hM hS => crV C (as := [aI x1, aI x2]) dX12_counts_22.1 kX12 (shR_0 hX) ml_X12_321 cal_X12_countsFor cv_X12_countsFor (hRm ⟨Nat.le_of_ble_eq_true rfl, Nat.le_of_ble_eq_true rfl⟩) rfl (Nat.le_of_ble_eq_true rfl) (c_X12_countsFor (xl X) (xG X) hX hM ⟨hS.2.2.1, hS.2.1, hS.1, trivial⟩ hq)) (Nat.le_of_ble_eq_true rfl) (Nat.le_of_ble_eq_true rfl) rfl rfl rfl (fun v6 M5 => ?_)
      refine i_cI (kc' := 0) (ks' := 0) 0 0 1 (fun q hq hM hS => crS C (as := [aI v6]) dX12_counts_25.1 ml_X12_124 cal_X12_orNone st_X12_orNone (hRm ⟨Nat.le_of_ble_eq_true rfl, Nat.le_of_ble_eq_true rfl⟩) rfl (Nat.le_of_ble_eq_true rfl) (c_X12_orNone (xl X) (xG X) hX hM ⟨hS.1, trivial⟩ hq)) (Nat.le_of_ble_eq_true rfl) (Nat.le_of_ble_eq_true rfl) rfl rfl rfl (fun v8 M7 => ?_)
      refine i_goto (tgt := 33) C dX12_counts_28 (by decide) ?_
      exact i_iret C hq dX12_counts_33
set_option maxRecDepth 100000 in
set_option maxHeartbeats 4000000 in
theorem c_X12_may (l : Launch) (G : Gx) {K : Kx} (hK : K = kR) {x1 : Int} {x2 : Int} {M : Mem} {res : Int × Mem} (hM : OkM M) (ha : okS [aR 0, aI x1, aI x2]) (hF : rM_may x1 x2 M = some res) : Ct l G K yX12_may (wsM yX12_may cX12_may 3 (some .int)) rmX12_may [aR 0, aI x1, aI x2] M (some (aI res.1)) res.2 := by
  refine ct_of RX12 (by decide +kernel) rfl (hK ▸ kR_ok) hM ha (Nat.le_of_ble_eq_true rfl) hF ?_
  intro X C hl hG hX0 hN hR hq
  have hX : xK X = kR := hX0.trans hK
  show Im X 0 0 0 [(0, aR 0), (1, aI x1), (2, aI x2)] [] M res (rM_may x1 x2 M)
  unfold rM_may
  have hRm : ∀ {rm : Room} {ny : Nat}, RmOk rmX12_may rm ny → RmOk (xR X) rm ny := fun h => by rw [hR]; exact h
  refine i_aload_n C dX12_may_0 rfl (q := 0) rfl ?_
  refine i_iload_n C dX12_may_1 rfl (q := 1) rfl ?_
  refine i_bipush C dX12_may_2 kB_6 ?_
  refine i_cI (kc' := 0) (ks' := 0) 0 0 3 (fun q hq hM hS => crV C (as := [aI x1, aI 6]) dX12_may_4.1 kX12 (shR_0 hX) ml_X12_152 cal_X12_isOf cv_X12_isOf (hRm ⟨Nat.le_of_ble_eq_true rfl, Nat.le_of_ble_eq_true rfl⟩) rfl (Nat.le_of_ble_eq_true rfl) (c_X12_isOf (xl X) (xG X) hX hM ⟨hS.2.2.1, hS.2.1, hS.1, trivial⟩ hq)) (Nat.le_of_ble_eq_true rfl) (Nat.le_of_ble_eq_true rfl) rfl rfl rfl (fun v2 M1 => ?_)
  refine i_if_eq (tgt := 17) C dX12_may_7 (by decide) ?_ ?_
  · refine i_ldc C dX12_may_17 kc_X12_102 kI_m1000000001 ?_
    refine i_goto (tgt := 36) C dX12_may_19 (by decide) ?_
    exact i_iret C hq dX12_may_36
  · refine i_iload_n C dX12_may_10 rfl (q := 2) rfl ?_
    refine i_cI (kc' := 0) (ks' := 0) 0 0 1 (fun q hq hM hS => crS C (as := [aI x2]) dX12_may_11.1 ml_X12_99 cal_X12_isSide st_X12_isSide (hRm ⟨Nat.le_of_ble_eq_true rfl, Nat.le_of_ble_eq_true rfl⟩) rfl (Nat.le_of_ble_eq_true rfl) (c_X12_isSide (xl X) (xG X) hX hM ⟨hS.1, trivial⟩ hq)) (Nat.le_of_ble_eq_true rfl) (Nat.le_of_ble_eq_true rfl) rfl rfl rfl (fun v4 M3 => ?_)
    refine i_if_ne (tgt := 22) C dX12_may_14 (by decide) ?_ ?_
    · refine i_aload_n C dX12_may_22 rfl (q := 0) rfl ?_
      refine i_iload_n C dX12_may_23 rfl (q := 1) rfl ?_
      refine i_iload_n C dX12_may_24 rfl (q := 2) rfl ?_
      refine i_cI (kc' := 0) (ks' := 0) 0 0 3 (fun q hq hM hS => crV C (as := [aI x1, aI x2]) dX12_may_25.1 kX12 (shR_0 hX) ml_X12_184 cal_X12_mayCross cv_X12_mayCross (hRm ⟨Nat.le_of_ble_eq_true rfl, Nat.le_of_ble_eq_true rfl⟩) rfl (Nat.le_of_ble_eq_true rfl) (c_X12_mayCross (xl X) (xG X) hX hM ⟨hS.2.2.1, hS.2.1, hS.1, trivial⟩ hq)) (Nat.le_of_ble_eq_true rfl) (Nat.le_of_ble_eq_true rfl) rfl rfl rfl (fun v6 M5 => ?_)
      refine i_if_eq (tgt := 35) C dX12_may_28 (by decide) ?_ ?_
      · refine i_iconst C dX12_may_35 kI_0 ?_
        exact i_iret C hq dX12_may_36
      · refine i_iconst C dX12_may_31 kI_1 ?_
        refine i_goto (tgt := 36) C dX12_may_32 (by decide) ?_
        exact i_iret C hq dX12_may_36
    · refine i_ldc C dX12_may_17 kc_X12_102 kI_m1000000001 ?_
      refine i_goto (tgt := 36) C dX12_may_19 (by decide) ?_
      exact i_iret C hq dX12_may_36
set_option maxRecDepth 100000 in
set_option maxHeartbeats 4000000 in
theorem w_X12_unlike_86 {X : Xc} (C : Cx X RX12 cX12_unlike (some .int)) (hX : xK X = kR) (hN : xn X = 8) (hR : xR X = rmX12_unlike) {res : Int × Mem} (hq : Rq X (some (aI res.1)) res.2) (y1 : Int) (y2 : Int) (y3 : Int) {k200 : Int → Int → Mem → Option (Int × Mem)} (hk200 : ∀ (q4 : Int) (q5 : Int) (M : Mem), Im X 0 0 200 [(3, aI y3), (4, aI q4), (5, aI q5)] [] M res (k200 q4 q5 M)) : ∀ (n : Nat) (u4 : Int) (u5 : Int) (u6 : Int) (M : Mem), Im X 0 0 86 [(0, aR 0), (1, aI y1), (2, aI y2), (3, aI y3), (4, aI u4), (5, aI u5), (6, aI u6)] [] M res (lpX12_unlike_86 y1 y2 y3 k200 n u4 u5 u6 M) := by
  have hl4 : 4 < xn X := by rw [hN]; decide
  have hl5 : 5 < xn X := by rw [hN]; decide
  have hl6 : 6 < xn X := by rw [hN]; decide
  have hl7 : 7 < xn X := by rw [hN]; decide
  have hRm : ∀ {rm : Room} {ny : Nat}, RmOk rmX12_unlike rm ny → RmOk (xR X) rm ny := fun h => by rw [hR]; exact h
  intro n
  induction n with
  | zero => intro _ _ _ _; exact i_none
  | succ n ih =>
    intro u4 u5 u6 M
    unfold lpX12_unlike_86
    refine i_iload C dX12_unlike_86 (q := 6) rfl ?_
    refine i_sipush C dX12_unlike_88 kS_4000 ?_
    refine i_icmp_ge (tgt := 200) C dX12_unlike_91 (by decide) ?_ ?_
    · exact i_sub [3, 4, 5] rfl (hk200 u4 u5 M)
    · refine i_aload_n C dX12_unlike_94 rfl (q := 0) rfl ?_
      refine i_getR C (k := 21) kX12 dX12_unlike_95 (shR_0 hX) rfl (by decide) fl_X12_38 ?_
      refine i_bipush C dX12_unlike_98 kB_97 ?_
      refine i_iload C dX12_unlike_100 (q := 6) rfl ?_
      refine i_bipush C dX12_unlike_102 kB_40 ?_
      refine i_idiv C dX12_unlike_104 (by decide) ?_
      refine i_ast C dX12_unlike_105 (shR_9 hX) (fun M16 => ?_)
      refine i_aload_n C dX12_unlike_106 rfl (q := 0) rfl ?_
      refine i_getR C (k := 21) kX12 dX12_unlike_107 (shR_0 hX) rfl (by decide) fl_X12_38 ?_
      refine i_bipush C dX12_unlike_110 kB_112 ?_
      refine i_iload C dX12_unlike_112 (q := 6) rfl ?_
      refine i_bipush C dX12_unlike_114 kB_10 ?_
      refine i_idiv C dX12_unlike_116 (by decide) ?_
      refine i_iconst C dX12_unlike_117 kI_4 ?_
      refine i_irem C dX12_unlike_118 (by decide) ?_
      refine i_ast C dX12_unlike_119 (shR_9 hX) (fun M17 => ?_)
      refine i_aload_n C dX12_unlike_120 rfl (q := 0) rfl ?_
      refine i_getR C (k := 21) kX12 dX12_unlike_121 (shR_0 hX) rfl (by decide) fl_X12_38 ?_
      refine i_bipush C dX12_unlike_124 kB_107 ?_
      refine i_iload C dX12_unlike_126 (q := 6) rfl ?_
      refine i_bipush C dX12_unlike_128 kB_10 ?_
      refine i_irem C dX12_unlike_130 (by decide) ?_
      refine i_ast C dX12_unlike_131 (shR_9 hX) (fun M18 => ?_)
      refine i_aload_n C dX12_unlike_132 rfl (q := 0) rfl ?_
      refine i_iload_n C dX12_unlike_133 rfl (q := 1) rfl ?_
      refine i_cI (kc' := 0) (ks' := 0) 0 0 2 (fun q hq hM hS => crV C (as := [aI y1]) dX12_unlike_134.1 kX12 (shR_0 hX) ml_X12_328 cal_X12_worked cv_X12_worked (hRm ⟨Nat.le_of_ble_eq_true rfl, Nat.le_of_ble_eq_true rfl⟩) rfl (Nat.le_of_ble_eq_true rfl) (c_X12_worked (xl X) (xG X) hX hM ⟨hS.2.1, hS.1, trivial⟩ hq)) (Nat.le_of_ble_eq_true rfl) (Nat.le_of_ble_eq_true rfl) rfl rfl rfl (fun v20 M19 => ?_)
      refine i_jn (fun j => ∀ (p21 : Int) (M23 : Mem), Im X 0 0 145 [(0, aR 0), (1, aI y1), (2, aI y2), (3, aI y3), (4, aI u4), (5, aI u5), (6, aI u6)] [aI p21] M23 res (j p21 M23)) ?_ (fun j22 hj22 => ?_)
      · intro p21 M23
        refine i_istore C dX12_unlike_145 hl7 (L' := [(0, aR 0), (1, aI y1), (2, aI y2), (3, aI y3), (4, aI u4), (5, aI u5), (6, aI u6), (7, aI p21)]) rfl ?_
        refine i_iload C dX12_unlike_147 (q := 7) rfl ?_
        refine i_aload_n C dX12_unlike_149 rfl (q := 0) rfl ?_
        refine i_iload_n C dX12_unlike_150 rfl (q := 2) rfl ?_
        refine i_cI (kc' := 0) (ks' := 0) 0 0 2 (fun q hq hM hS => crV C (as := [aI y2]) dX12_unlike_151.1 kX12 (shR_0 hX) ml_X12_328 cal_X12_worked cv_X12_worked (hRm ⟨Nat.le_of_ble_eq_true rfl, Nat.le_of_ble_eq_true rfl⟩) rfl (Nat.le_of_ble_eq_true rfl) (c_X12_worked (xl X) (xG X) hX hM ⟨hS.2.1, hS.1, trivial⟩ hq)) (Nat.le_of_ble_eq_true rfl) (Nat.le_of_ble_eq_true rfl) rfl rfl rfl (fun v25 M24 => ?_)
        refine i_jn (fun j => ∀ (p26 : Int) (M28 : Mem), Im X 0 0 162 [(0, aR 0), (1, aI y1), (2, aI y2), (3, aI y3), (4, aI u4), (5, aI u5), (6, aI u6)] [aI p26, aI p21] M28 res (j p26 M28)) ?_ (fun j27 hj27 => ?_)
        · intro p26 M28
          refine i_jn (fun j => ∀ (p29 : Int) (p30 : Int) (M32 : Mem), Im X 0 0 194 [(0, aR 0), (1, aI y1), (2, aI y2), (3, aI y3), (4, aI p29), (5, aI p30), (6, aI u6)] [] M32 res (j p29 p30 M32)) ?_ (fun j31 hj31 => ?_)
          · intro p29 p30 M32
            refine i_iincN (L' := fun v33 => [(0, aR 0), (1, aI y1), (2, aI y2), (3, aI y3), (4, aI p29), (5, aI p30), (6, aI v33)]) C dX12_unlike_194 (q := 6) rfl hl6 (fun _ => rfl) (fun v33 => ?_)
            refine i_goto (tgt := 86) C dX12_unlike_197 (by decide) ?_
            exact (ih p29 p30 v33 M32)
          refine i_icmp_eq (tgt := 194) C dX12_unlike_162 (by decide) ?_ ?_
          · exact (hj31 u4 u5 M28)
          · refine i_iload C dX12_unlike_165 (q := 4) rfl ?_
            refine i_jn (fun j => ∀ (p34 : Int) (M36 : Mem), Im X 0 0 189 [(0, aR 0), (1, aI y1), (2, aI y2), (3, aI y3), (4, aI u4), (6, aI u6)] [aI p34] M36 res (j p34 M36)) ?_ (fun j35 hj35 => ?_)
            · intro p34 M36
              refine i_istore C dX12_unlike_189 hl5 (L' := [(0, aR 0), (1, aI y1), (2, aI y2), (3, aI y3), (4, aI u4), (5, aI p34), (6, aI u6)]) rfl ?_
              refine i_iincN (L' := fun v37 => [(0, aR 0), (1, aI y1), (2, aI y2), (3, aI y3), (4, aI v37), (5, aI p34), (6, aI u6)]) C dX12_unlike_191 (q := 4) rfl hl4 (fun _ => rfl) (fun v37 => ?_)
              exact (hj31 v37 p34 M36)
            refine i_if_ne (tgt := 187) C dX12_unlike_167 (by decide) ?_ ?_
            · refine i_iload C dX12_unlike_187 (q := 5) rfl ?_
              exact i_sub [0, 1, 2, 3, 4, 6] rfl (hj35 u5 M28)
            · refine i_bipush C dX12_unlike_170 kB_100 ?_
              refine i_iload C dX12_unlike_172 (q := 6) rfl ?_
              refine i_bipush C dX12_unlike_174 kB_40 ?_
              refine i_idiv C dX12_unlike_176 (by decide) ?_
              refine i_imul C dX12_unlike_177 ?_
              refine i_iload C dX12_unlike_178 (q := 6) rfl ?_
              refine i_bipush C dX12_unlike_180 kB_40 ?_
              refine i_irem C dX12_unlike_182 (by decide) ?_
              refine i_iadd C dX12_unlike_183 ?_
              refine i_goto (tgt := 189) C dX12_unlike_184 (by decide) ?_
              exact i_sub [0, 1, 2, 3, 4, 6] rfl (hj35 (w32 ((w32 (100 * (w32 (Int.tdiv u6 40)))) + (w32 (Int.tmod u6 40)))) M28)
        refine i_if_eq (tgt := 161) C dX12_unlike_154 (by decide) ?_ ?_
        · refine i_iconst C dX12_unlike_161 kI_0 ?_
          exact i_sub [0, 1, 2, 3, 4, 5, 6] rfl (hj27 0 M24)
        · refine i_iconst C dX12_unlike_157 kI_1 ?_
          refine i_goto (tgt := 162) C dX12_unlike_158 (by decide) ?_
          exact i_sub [0, 1, 2, 3, 4, 5, 6] rfl (hj27 1 M24)
      refine i_if_eq (tgt := 144) C dX12_unlike_137 (by decide) ?_ ?_
      · refine i_iconst C dX12_unlike_144 kI_0 ?_
        exact (hj22 0 M19)
      · refine i_iconst C dX12_unlike_140 kI_1 ?_
        refine i_goto (tgt := 145) C dX12_unlike_141 (by decide) ?_
        exact (hj22 1 M19)
set_option maxRecDepth 100000 in
set_option maxHeartbeats 4000000 in
theorem c_X12_unlike (l : Launch) (G : Gx) {K : Kx} (hK : K = kR) {x1 : Int} {x2 : Int} {x3 : Int} {M : Mem} {res : Int × Mem} (hM : OkM M) (ha : okS [aR 0, aI x1, aI x2, aI x3]) (hF : rM_unlike x1 x2 x3 M = some res) : Ct l G K yX12_unlike (wsM yX12_unlike cX12_unlike 8 (some .int)) rmX12_unlike [aR 0, aI x1, aI x2, aI x3] M (some (aI res.1)) res.2 := by
  refine ct_of RX12 (by decide +kernel) rfl (hK ▸ kR_ok) hM ha (Nat.le_of_ble_eq_true rfl) hF ?_
  intro X C hl hG hX0 hN hR hq
  have hX : xK X = kR := hX0.trans hK
  show Im X 0 0 0 [(0, aR 0), (1, aI x1), (2, aI x2), (3, aI x3)] [] M res (rM_unlike x1 x2 x3 M)
  unfold rM_unlike
  have hl4 : 4 < xn X := by rw [hN]; decide
  have hl5 : 5 < xn X := by rw [hN]; decide
  have hl6 : 6 < xn X := by rw [hN]; decide
  have hl7 : 7 < xn X := by rw [hN]; decide
  have hRm : ∀ {rm : Room} {ny : Nat}, RmOk rmX12_unlike rm ny → RmOk (xR X) rm ny := fun h => by rw [hR]; exact h
  refine i_aload_n C dX12_unlike_0 rfl (q := 0) rfl ?_
  refine i_iload_n C dX12_unlike_1 rfl (q := 1) rfl ?_
  refine i_cI (kc' := 0) (ks' := 0) 0 0 2 (fun q hq hM hS => crV C (as := [aI x1]) dX12_unlike_2.1 kX12 (shR_0 hX) ml_X12_316 cal_X12_isText cv_X12_isText (hRm ⟨Nat.le_of_ble_eq_true rfl, Nat.le_of_ble_eq_true rfl⟩) rfl (Nat.le_of_ble_eq_true rfl) (c_X12_isText (xl X) (xG X) hX hM ⟨hS.2.1, hS.1, trivial⟩ hq)) (Nat.le_of_ble_eq_true rfl) (Nat.le_of_ble_eq_true rfl) rfl rfl rfl (fun v2 M1 => ?_)
  refine i_if_eq (tgt := 26) C dX12_unlike_5 (by decide) ?_ ?_
  · refine i_ldc C dX12_unlike_26 kc_X12_102 kI_m1000000001 ?_
    exact i_iret C hq dX12_unlike_28
  · refine i_aload_n C dX12_unlike_8 rfl (q := 0) rfl ?_
    refine i_iload_n C dX12_unlike_9 rfl (q := 2) rfl ?_
    refine i_cI (kc' := 0) (ks' := 0) 0 0 2 (fun q hq hM hS => crV C (as := [aI x2]) dX12_unlike_10.1 kX12 (shR_0 hX) ml_X12_316 cal_X12_isText cv_X12_isText (hRm ⟨Nat.le_of_ble_eq_true rfl, Nat.le_of_ble_eq_true rfl⟩) rfl (Nat.le_of_ble_eq_true rfl) (c_X12_isText (xl X) (xG X) hX hM ⟨hS.2.1, hS.1, trivial⟩ hq)) (Nat.le_of_ble_eq_true rfl) (Nat.le_of_ble_eq_true rfl) rfl rfl rfl (fun v4 M3 => ?_)
    refine i_if_eq (tgt := 26) C dX12_unlike_13 (by decide) ?_ ?_
    · refine i_ldc C dX12_unlike_26 kc_X12_102 kI_m1000000001 ?_
      exact i_iret C hq dX12_unlike_28
    · refine i_iload_n C dX12_unlike_16 rfl (q := 3) rfl ?_
      refine i_i2l C dX12_unlike_17 ?_
      refine i_lconst C dX12_unlike_18 kL_0 ?_
      refine i_lconst C dX12_unlike_19 kL_1 ?_
      refine i_cI (kc' := 0) (ks' := 0) 0 0 3 (fun q hq hM hS => crS C (as := [aL x3, aL 0, aL 1]) dX12_unlike_20.1 ml_X12_78 cal_X12_isIn st_X12_isIn (hRm ⟨Nat.le_of_ble_eq_true rfl, Nat.le_of_ble_eq_true rfl⟩) rfl (Nat.le_of_ble_eq_true rfl) (c_X12_isIn (xl X) (xG X) hX hM ⟨hS.2.2.1, hS.2.1, hS.1, trivial⟩ hq)) (Nat.le_of_ble_eq_true rfl) (Nat.le_of_ble_eq_true rfl) rfl rfl rfl (fun v6 M5 => ?_)
      refine i_if_ne (tgt := 29) C dX12_unlike_23 (by decide) ?_ ?_
      · refine i_aload_n C dX12_unlike_29 rfl (q := 0) rfl ?_
        refine i_getR C (k := 0) kX12 dX12_unlike_30 (shR_0 hX) rfl (by decide) fl_X12_7 ?_
        refine i_aload_n C dX12_unlike_33 rfl (q := 0) rfl ?_
        refine i_iload_n C dX12_unlike_34 rfl (q := 1) rfl ?_
        refine i_cI (kc' := 0) (ks' := 0) 0 0 2 (fun q hq hM hS => crV C (as := [aI x1]) dX12_unlike_35.1 kX12 (shR_0 hX) ml_X12_305 cal_X12_textAt cv_X12_textAt (hRm ⟨Nat.le_of_ble_eq_true rfl, Nat.le_of_ble_eq_true rfl⟩) rfl (Nat.le_of_ble_eq_true rfl) (c_X12_textAt (xl X) (xG X) hX hM ⟨hS.2.1, hS.1, trivial⟩ hq)) (Nat.le_of_ble_eq_true rfl) (Nat.le_of_ble_eq_true rfl) rfl rfl rfl (fun v8 M7 => ?_)
        refine i_iconst C dX12_unlike_38 kI_0 ?_
        refine i_iadd C dX12_unlike_39 ?_
        refine i_ald C dX12_unlike_40 (shR_1 hX) (fun v9 => ?_)
        refine i_if_ne (tgt := 59) C dX12_unlike_41 (by decide) ?_ ?_
        · refine i_ldc C dX12_unlike_59 kc_X12_161 kI_m1000000012 ?_
          exact i_iret C hq dX12_unlike_61
        · refine i_aload_n C dX12_unlike_44 rfl (q := 0) rfl ?_
          refine i_getR C (k := 0) kX12 dX12_unlike_45 (shR_0 hX) rfl (by decide) fl_X12_7 ?_
          refine i_aload_n C dX12_unlike_48 rfl (q := 0) rfl ?_
          refine i_iload_n C dX12_unlike_49 rfl (q := 2) rfl ?_
          refine i_cI (kc' := 0) (ks' := 0) 0 0 2 (fun q hq hM hS => crV C (as := [aI x2]) dX12_unlike_50.1 kX12 (shR_0 hX) ml_X12_305 cal_X12_textAt cv_X12_textAt (hRm ⟨Nat.le_of_ble_eq_true rfl, Nat.le_of_ble_eq_true rfl⟩) rfl (Nat.le_of_ble_eq_true rfl) (c_X12_textAt (xl X) (xG X) hX hM ⟨hS.2.1, hS.1, trivial⟩ hq)) (Nat.le_of_ble_eq_true rfl) (Nat.le_of_ble_eq_true rfl) rfl rfl rfl (fun v11 M10 => ?_)
          refine i_iconst C dX12_unlike_53 kI_0 ?_
          refine i_iadd C dX12_unlike_54 ?_
          refine i_ald C dX12_unlike_55 (shR_1 hX) (fun v12 => ?_)
          refine i_if_eq (tgt := 62) C dX12_unlike_56 (by decide) ?_ ?_
          · refine i_iconst C dX12_unlike_62 kI_0 ?_
            refine i_istore C dX12_unlike_63 hl4 (L' := [(0, aR 0), (1, aI x1), (2, aI x2), (3, aI x3), (4, aI 0)]) rfl ?_
            refine i_ldc C dX12_unlike_65 kc_X12_77 kI_m1000000005 ?_
            refine i_istore C dX12_unlike_67 hl5 (L' := [(0, aR 0), (1, aI x1), (2, aI x2), (3, aI x3), (4, aI 0), (5, aI (-1000000005))]) rfl ?_
            refine i_aload_n C dX12_unlike_69 rfl (q := 0) rfl ?_
            refine i_getR C (k := 21) kX12 dX12_unlike_70 (shR_0 hX) rfl (by decide) fl_X12_38 ?_
            refine i_bipush C dX12_unlike_73 kB_100 ?_
            refine i_aload_n C dX12_unlike_75 rfl (q := 0) rfl ?_
            refine i_cI (kc' := 0) (ks' := 0) 0 0 1 (fun q hq hM hS => crV C (as := []) dX12_unlike_76.1 kX12 (shR_0 hX) ml_X12_180 cal_X12_day cv_X12_day (hRm ⟨Nat.le_of_ble_eq_true rfl, Nat.le_of_ble_eq_true rfl⟩) rfl (Nat.le_of_ble_eq_true rfl) (c_X12_day (xl X) (xG X) hX hM ⟨hS.1, trivial⟩ hq)) (Nat.le_of_ble_eq_true rfl) (Nat.le_of_ble_eq_true rfl) rfl rfl rfl (fun v14 M13 => ?_)
            refine i_bipush C dX12_unlike_79 kB_7 ?_
            refine i_irem C dX12_unlike_81 (by decide) ?_
            refine i_ast C dX12_unlike_82 (shR_9 hX) (fun M15 => ?_)
            refine i_iconst C dX12_unlike_83 kI_0 ?_
            refine i_istore C dX12_unlike_84 hl6 (L' := [(0, aR 0), (1, aI x1), (2, aI x2), (3, aI x3), (4, aI 0), (5, aI (-1000000005)), (6, aI 0)]) rfl ?_
            refine (w_X12_unlike_86 C hX hN hR hq x1 x2 x3 (fun v38 v39 M40 => ?_) FU 0 (-1000000005) 0 M15)
            refine i_iload_n C dX12_unlike_200 rfl (q := 0) rfl ?_
            refine i_if_ne (tgt := 209) C dX12_unlike_201 (by decide) ?_ ?_
            · refine i_iload C dX12_unlike_209 (q := 2) rfl ?_
              exact i_iret C hq dX12_unlike_211
            · refine i_iload C dX12_unlike_204 (q := 1) rfl ?_
              refine i_goto (tgt := 211) C dX12_unlike_206 (by decide) ?_
              exact i_iret C hq dX12_unlike_211
          · refine i_ldc C dX12_unlike_59 kc_X12_161 kI_m1000000012 ?_
            exact i_iret C hq dX12_unlike_61
      · refine i_ldc C dX12_unlike_26 kc_X12_102 kI_m1000000001 ?_
        exact i_iret C hq dX12_unlike_28
set_option maxRecDepth 100000 in
set_option maxHeartbeats 4000000 in
theorem w_X12_visitsOf_17 {X : Xc} (C : Cx X RX12 cX12_visitsOf (some .int)) (hX : xK X = kR) (hN : xn X = 6) (hR : xR X = rmX12_visitsOf) {res : Int × Mem} (hq : Rq X (some (aI res.1)) res.2) (y1 : Int) (y3 : Int) {k112 : Int → Mem → Option (Int × Mem)} (hk112 : ∀ (q2 : Int) (M : Mem), Im X 0 0 112 [(0, aR 0), (1, aI y1), (2, aI q2), (3, aI y3)] [] M res (k112 q2 M)) : ∀ (n : Nat) (u2 : Int) (u4 : Int) (M : Mem), Im X 0 0 17 [(0, aR 0), (1, aI y1), (2, aI u2), (3, aI y3), (4, aI u4)] [] M res (lpX12_visitsOf_17 y1 y3 k112 n u2 u4 M) := by
  have hl2 : 2 < xn X := by rw [hN]; decide
  have hl3 : 3 < xn X := by rw [hN]; decide
  have hl4 : 4 < xn X := by rw [hN]; decide
  have hl5 : 5 < xn X := by rw [hN]; decide
  have hRm : ∀ {rm : Room} {ny : Nat}, RmOk rmX12_visitsOf rm ny → RmOk (xR X) rm ny := fun h => by rw [hR]; exact h
  intro n
  induction n with
  | zero => intro _ _ _; exact i_none
  | succ n ih =>
    intro u2 u4 M
    unfold lpX12_visitsOf_17
    refine i_iload C dX12_visitsOf_17 (q := 4) rfl ?_
    refine i_aload_n C dX12_visitsOf_19 rfl (q := 0) rfl ?_
    refine i_getR C (k := 0) kX12 dX12_visitsOf_20 (shR_0 hX) rfl (by decide) fl_X12_7 ?_
    refine i_iconst C dX12_visitsOf_23 kI_2 ?_
    refine i_ald C dX12_visitsOf_24 (shR_1 hX) (fun v2 => ?_)
    refine i_icmp_ge (tgt := 112) C dX12_visitsOf_25 (by decide) ?_ ?_
    · exact i_sub [0, 1, 2, 3] rfl (hk112 u2 M)
    · refine i_aload_n C dX12_visitsOf_28 rfl (q := 0) rfl ?_
      refine i_iload_n C dX12_visitsOf_29 rfl (q := 3) rfl ?_
      refine i_cI (kc' := 0) (ks' := 0) 0 0 2 (fun q hq hM hS => crV C (as := [aI y3]) dX12_visitsOf_30.1 kX12 (shR_0 hX) ml_X12_129 cal_X12_isDead cv_X12_isDead (hRm ⟨Nat.le_of_ble_eq_true rfl, Nat.le_of_ble_eq_true rfl⟩) rfl (Nat.le_of_ble_eq_true rfl) (c_X12_isDead (xl X) (xG X) hX hM ⟨hS.2.1, hS.1, trivial⟩ hq)) (Nat.le_of_ble_eq_true rfl) (Nat.le_of_ble_eq_true rfl) rfl rfl rfl (fun v4 M3 => ?_)
      refine i_jn (fun j => ∀ (p5 : Int) (M7 : Mem), Im X 0 0 69 [(0, aR 0), (1, aI y1), (2, aI u2), (3, aI y3), (4, aI u4)] [aI p5] M7 res (j p5 M7)) ?_ (fun j6 hj6 => ?_)
      · intro p5 M7
        refine i_istore C dX12_visitsOf_69 hl5 (L' := [(0, aR 0), (1, aI y1), (2, aI u2), (3, aI y3), (4, aI u4), (5, aI p5)]) rfl ?_
        refine i_iload_n C dX12_visitsOf_71 rfl (q := 2) rfl ?_
        refine i_iload C dX12_visitsOf_72 (q := 5) rfl ?_
        refine i_jn (fun j => ∀ (p8 : Int) (M10 : Mem), Im X 0 0 104 [(0, aR 0), (1, aI y1), (3, aI y3), (4, aI u4)] [aI p8, aI u2] M10 res (j p8 M10)) ?_ (fun j9 hj9 => ?_)
        · intro p8 M10
          refine i_iadd C dX12_visitsOf_104 ?_
          refine i_nm (fun v11 => ?_)
          refine i_istore_n C dX12_visitsOf_105 rfl hl2 (L' := [(0, aR 0), (1, aI y1), (2, aI v11), (3, aI y3), (4, aI u4)]) rfl ?_
          refine i_iincN (L' := fun v12 => [(0, aR 0), (1, aI y1), (2, aI v11), (3, aI y3), (4, aI v12)]) C dX12_visitsOf_106 (q := 4) rfl hl4 (fun _ => rfl) (fun v12 => ?_)
          refine i_goto (tgt := 17) C dX12_visitsOf_109 (by decide) ?_
          exact (ih v11 v12 M10)
        refine i_jn (fun j => ∀  (M14 : Mem), Im X 0 0 103 [(0, aR 0), (1, aI y1), (3, aI y3), (4, aI u4)] [aI u2] M14 res (j  M14)) ?_ (fun j13 hj13 => ?_)
        · intro  M14
          refine i_iconst C dX12_visitsOf_103 kI_0 ?_
          exact (hj9 0 M14)
        refine i_if_eq (tgt := 103) C dX12_visitsOf_74 (by decide) ?_ ?_
        · exact i_sub [0, 1, 3, 4] rfl (hj13  M7)
        · refine i_aload_n C dX12_visitsOf_77 rfl (q := 0) rfl ?_
          refine i_iconst C dX12_visitsOf_78 kI_0 ?_
          refine i_iload_n C dX12_visitsOf_79 rfl (q := 3) rfl ?_
          refine i_iload C dX12_visitsOf_80 (q := 4) rfl ?_
          refine i_cI (kc' := 0) (ks' := 0) 0 0 4 (fun q hq hM hS => crV C (as := [aI 0, aI y3, aI u4]) dX12_visitsOf_82.1 kX12 (shR_0 hX) ml_X12_331 cal_X12_letsVisit cv_X12_letsVisit (hRm ⟨Nat.le_of_ble_eq_true rfl, Nat.le_of_ble_eq_true rfl⟩) rfl (Nat.le_of_ble_eq_true rfl) (c_X12_letsVisit (xl X) (xG X) hX hM ⟨hS.2.2.2.1, hS.2.2.1, hS.2.1, hS.1, trivial⟩ hq)) (Nat.le_of_ble_eq_true rfl) (Nat.le_of_ble_eq_true rfl) rfl rfl rfl (fun v16 M15 => ?_)
          refine i_if_eq (tgt := 103) C dX12_visitsOf_85 (by decide) ?_ ?_
          · exact i_sub [0, 1, 3, 4] rfl (hj13  M15)
          · refine i_aload_n C dX12_visitsOf_88 rfl (q := 0) rfl ?_
            refine i_iconst C dX12_visitsOf_89 kI_1 ?_
            refine i_iload_n C dX12_visitsOf_90 rfl (q := 3) rfl ?_
            refine i_iload C dX12_visitsOf_91 (q := 4) rfl ?_
            refine i_cI (kc' := 0) (ks' := 0) 0 0 4 (fun q hq hM hS => crV C (as := [aI 1, aI y3, aI u4]) dX12_visitsOf_93.1 kX12 (shR_0 hX) ml_X12_331 cal_X12_letsVisit cv_X12_letsVisit (hRm ⟨Nat.le_of_ble_eq_true rfl, Nat.le_of_ble_eq_true rfl⟩) rfl (Nat.le_of_ble_eq_true rfl) (c_X12_letsVisit (xl X) (xG X) hX hM ⟨hS.2.2.2.1, hS.2.2.1, hS.2.1, hS.1, trivial⟩ hq)) (Nat.le_of_ble_eq_true rfl) (Nat.le_of_ble_eq_true rfl) rfl rfl rfl (fun v18 M17 => ?_)
            refine i_if_eq (tgt := 103) C dX12_visitsOf_96 (by decide) ?_ ?_
            · exact i_sub [0, 1, 3, 4] rfl (hj13  M17)
            · refine i_iconst C dX12_visitsOf_99 kI_1 ?_
              refine i_goto (tgt := 104) C dX12_visitsOf_100 (by decide) ?_
              exact i_sub [0, 1, 3, 4] rfl (hj9 1 M17)
      refine i_jn (fun j => ∀  (M20 : Mem), Im X 0 0 68 [(0, aR 0), (1, aI y1), (2, aI u2), (3, aI y3), (4, aI u4)] [] M20 res (j  M20)) ?_ (fun j19 hj19 => ?_)
      · intro  M20
        refine i_iconst C dX12_visitsOf_68 kI_0 ?_
        exact (hj6 0 M20)
      refine i_if_ne (tgt := 68) C dX12_visitsOf_33 (by decide) ?_ ?_
      · exact (hj19  M3)
      · refine i_aload_n C dX12_visitsOf_36 rfl (q := 0) rfl ?_
        refine i_iload C dX12_visitsOf_37 (q := 4) rfl ?_
        refine i_cI (kc' := 0) (ks' := 0) 0 0 2 (fun q hq hM hS => crV C (as := [aI u4]) dX12_visitsOf_39.1 kX12 (shR_0 hX) ml_X12_129 cal_X12_isDead cv_X12_isDead (hRm ⟨Nat.le_of_ble_eq_true rfl, Nat.le_of_ble_eq_true rfl⟩) rfl (Nat.le_of_ble_eq_true rfl) (c_X12_isDead (xl X) (xG X) hX hM ⟨hS.2.1, hS.1, trivial⟩ hq)) (Nat.le_of_ble_eq_true rfl) (Nat.le_of_ble_eq_true rfl) rfl rfl rfl (fun v22 M21 => ?_)
        refine i_if_ne (tgt := 68) C dX12_visitsOf_42 (by decide) ?_ ?_
        · exact (hj19  M21)
        · refine i_aload_n C dX12_visitsOf_45 rfl (q := 0) rfl ?_
          refine i_iload_n C dX12_visitsOf_46 rfl (q := 3) rfl ?_
          refine i_cI (kc' := 0) (ks' := 0) 0 0 2 (fun q hq hM hS => crV C (as := [aI y3]) dX12_visitsOf_47.1 kX12 (shR_0 hX) ml_X12_135 cal_X12_ownSide cv_X12_ownSide (hRm ⟨Nat.le_of_ble_eq_true rfl, Nat.le_of_ble_eq_true rfl⟩) rfl (Nat.le_of_ble_eq_true rfl) (c_X12_ownSide (xl X) (xG X) hX hM ⟨hS.2.1, hS.1, trivial⟩ hq)) (Nat.le_of_ble_eq_true rfl) (Nat.le_of_ble_eq_true rfl) rfl rfl rfl (fun v24 M23 => ?_)
          refine i_iload_n C dX12_visitsOf_50 rfl (q := 1) rfl ?_
          refine i_icmp_ne (tgt := 68) C dX12_visitsOf_51 (by decide) ?_ ?_
          · exact (hj19  M23)
          · refine i_aload_n C dX12_visitsOf_54 rfl (q := 0) rfl ?_
            refine i_iload C dX12_visitsOf_55 (q := 4) rfl ?_
            refine i_cI (kc' := 0) (ks' := 0) 0 0 2 (fun q hq hM hS => crV C (as := [aI u4]) dX12_visitsOf_57.1 kX12 (shR_0 hX) ml_X12_135 cal_X12_ownSide cv_X12_ownSide (hRm ⟨Nat.le_of_ble_eq_true rfl, Nat.le_of_ble_eq_true rfl⟩) rfl (Nat.le_of_ble_eq_true rfl) (c_X12_ownSide (xl X) (xG X) hX hM ⟨hS.2.1, hS.1, trivial⟩ hq)) (Nat.le_of_ble_eq_true rfl) (Nat.le_of_ble_eq_true rfl) rfl rfl rfl (fun v26 M25 => ?_)
            refine i_iload_n C dX12_visitsOf_60 rfl (q := 1) rfl ?_
            refine i_icmp_eq (tgt := 68) C dX12_visitsOf_61 (by decide) ?_ ?_
            · exact (hj19  M25)
            · refine i_iconst C dX12_visitsOf_64 kI_1 ?_
              refine i_goto (tgt := 69) C dX12_visitsOf_65 (by decide) ?_
              exact (hj6 1 M25)
set_option maxRecDepth 100000 in
set_option maxHeartbeats 4000000 in
theorem w_X12_visitsOf_4 {X : Xc} (C : Cx X RX12 cX12_visitsOf (some .int)) (hX : xK X = kR) (hN : xn X = 6) (hR : xR X = rmX12_visitsOf) {res : Int × Mem} (hq : Rq X (some (aI res.1)) res.2) (y1 : Int) : ∀ (n : Nat) (u2 : Int) (u3 : Int) (M : Mem), Im X 0 0 4 [(0, aR 0), (1, aI y1), (2, aI u2), (3, aI u3)] [] M res (lpX12_visitsOf_4 y1 n u2 u3 M) := by
  have hl2 : 2 < xn X := by rw [hN]; decide
  have hl3 : 3 < xn X := by rw [hN]; decide
  have hl4 : 4 < xn X := by rw [hN]; decide
  have hl5 : 5 < xn X := by rw [hN]; decide
  have hRm : ∀ {rm : Room} {ny : Nat}, RmOk rmX12_visitsOf rm ny → RmOk (xR X) rm ny := fun h => by rw [hR]; exact h
  intro n
  induction n with
  | zero => intro _ _ _; exact i_none
  | succ n ih =>
    intro u2 u3 M
    unfold lpX12_visitsOf_4
    refine i_iload_n C dX12_visitsOf_4 rfl (q := 3) rfl ?_
    refine i_aload_n C dX12_visitsOf_5 rfl (q := 0) rfl ?_
    refine i_getR C (k := 0) kX12 dX12_visitsOf_6 (shR_0 hX) rfl (by decide) fl_X12_7 ?_
    refine i_iconst C dX12_visitsOf_9 kI_2 ?_
    refine i_ald C dX12_visitsOf_10 (shR_1 hX) (fun v1 => ?_)
    refine i_icmp_ge (tgt := 118) C dX12_visitsOf_11 (by decide) ?_ ?_
    · refine i_iload_n C dX12_visitsOf_118 rfl (q := 2) rfl ?_
      exact i_iret C hq dX12_visitsOf_119
    · refine i_iconst C dX12_visitsOf_14 kI_0 ?_
      refine i_istore C dX12_visitsOf_15 hl4 (L' := [(0, aR 0), (1, aI y1), (2, aI u2), (3, aI u3), (4, aI 0)]) rfl ?_
      refine (w_X12_visitsOf_17 C hX hN hR hq y1 u3 (fun v27 M28 => ?_) FU u2 0 M)
      refine i_iincN (L' := fun v29 => [(0, aR 0), (1, aI y1), (2, aI v27), (3, aI v29)]) C dX12_visitsOf_112 (q := 3) rfl hl3 (fun _ => rfl) (fun v29 => ?_)
      refine i_goto (tgt := 4) C dX12_visitsOf_115 (by decide) ?_
      exact (ih v27 v29 M28)
set_option maxRecDepth 100000 in
set_option maxHeartbeats 4000000 in
theorem c_X12_visitsOf (l : Launch) (G : Gx) {K : Kx} (hK : K = kR) {x1 : Int} {M : Mem} {res : Int × Mem} (hM : OkM M) (ha : okS [aR 0, aI x1]) (hF : rM_visitsOf x1 M = some res) : Ct l G K yX12_visitsOf (wsM yX12_visitsOf cX12_visitsOf 6 (some .int)) rmX12_visitsOf [aR 0, aI x1] M (some (aI res.1)) res.2 := by
  refine ct_of RX12 (by decide +kernel) rfl (hK ▸ kR_ok) hM ha (Nat.le_of_ble_eq_true rfl) hF ?_
  intro X C hl hG hX0 hN hR hq
  have hX : xK X = kR := hX0.trans hK
  show Im X 0 0 0 [(0, aR 0), (1, aI x1)] [] M res (rM_visitsOf x1 M)
  unfold rM_visitsOf
  have hl2 : 2 < xn X := by rw [hN]; decide
  have hl3 : 3 < xn X := by rw [hN]; decide
  have hl4 : 4 < xn X := by rw [hN]; decide
  have hl5 : 5 < xn X := by rw [hN]; decide
  have hRm : ∀ {rm : Room} {ny : Nat}, RmOk rmX12_visitsOf rm ny → RmOk (xR X) rm ny := fun h => by rw [hR]; exact h
  refine i_iconst C dX12_visitsOf_0 kI_0 ?_
  refine i_istore_n C dX12_visitsOf_1 rfl hl2 (L' := [(0, aR 0), (1, aI x1), (2, aI 0)]) rfl ?_
  refine i_iconst C dX12_visitsOf_2 kI_0 ?_
  refine i_istore_n C dX12_visitsOf_3 rfl hl3 (L' := [(0, aR 0), (1, aI x1), (2, aI 0), (3, aI 0)]) rfl ?_
  exact (w_X12_visitsOf_4 C hX hN hR hq x1 FU 0 0 M)
set_option maxRecDepth 100000 in
set_option maxHeartbeats 4000000 in
theorem c_X12_visits (l : Launch) (G : Gx) {K : Kx} (hK : K = kR) {x1 : Int} {M : Mem} {res : Int × Mem} (hM : OkM M) (ha : okS [aR 0, aI x1]) (hF : rM_visits x1 M = some res) : Ct l G K yX12_visits (wsM yX12_visits cX12_visits 2 (some .int)) rmX12_visits [aR 0, aI x1] M (some (aI res.1)) res.2 := by
  refine ct_of RX12 (by decide +kernel) rfl (hK ▸ kR_ok) hM ha (Nat.le_of_ble_eq_true rfl) hF ?_
  intro X C hl hG hX0 hN hR hq
  have hX : xK X = kR := hX0.trans hK
  show Im X 0 0 0 [(0, aR 0), (1, aI x1)] [] M res (rM_visits x1 M)
  unfold rM_visits
  have hRm : ∀ {rm : Room} {ny : Nat}, RmOk rmX12_visits rm ny → RmOk (xR X) rm ny := fun h => by rw [hR]; exact h
  refine i_iload_n C dX12_visits_0 rfl (q := 1) rfl ?_
  refine i_cI (kc' := 0) (ks' := 0) 0 0 1 (fun q hq hM hS => crS C (as := [aI x1]) dX12_visits_1.1 ml_X12_99 cal_X12_isSide st_X12_isSide (hRm ⟨Nat.le_of_ble_eq_true rfl, Nat.le_of_ble_eq_true rfl⟩) rfl (Nat.le_of_ble_eq_true rfl) (c_X12_isSide (xl X) (xG X) hX hM ⟨hS.1, trivial⟩ hq)) (Nat.le_of_ble_eq_true rfl) (Nat.le_of_ble_eq_true rfl) rfl rfl rfl (fun v2 M1 => ?_)
  refine i_if_ne (tgt := 10) C dX12_visits_4 (by decide) ?_ ?_
  · refine i_aload_n C dX12_visits_10 rfl (q := 0) rfl ?_
    refine i_cV (kc' := 0) (ks' := 0) 0 0 1 (fun q hq hM hS => crV C (as := []) dX12_visits_11.1 kX12 (shR_0 hX) ml_X12_167 cal_X12_findKin cv_X12_findKin (hRm ⟨Nat.le_of_ble_eq_true rfl, Nat.le_of_ble_eq_true rfl⟩) rfl (Nat.le_of_ble_eq_true rfl) (c_X12_findKin (xl X) (xG X) hX hM ⟨hS.1, trivial⟩ hq)) (Nat.le_of_ble_eq_true rfl) (Nat.le_of_ble_eq_true rfl) rfl rfl rfl (fun M3 => ?_)
    refine i_aload_n C dX12_visits_14 rfl (q := 0) rfl ?_
    refine i_iload_n C dX12_visits_15 rfl (q := 1) rfl ?_
    refine i_cI (kc' := 0) (ks' := 0) 0 0 2 (fun q hq hM hS => crV C (as := [aI x1]) dX12_visits_16.1 kX12 (shR_0 hX) ml_X12_335 cal_X12_visitsOf cv_X12_visitsOf (hRm ⟨Nat.le_of_ble_eq_true rfl, Nat.le_of_ble_eq_true rfl⟩) rfl (Nat.le_of_ble_eq_true rfl) (c_X12_visitsOf (xl X) (xG X) hX hM ⟨hS.2.1, hS.1, trivial⟩ hq)) (Nat.le_of_ble_eq_true rfl) (Nat.le_of_ble_eq_true rfl) rfl rfl rfl (fun v5 M4 => ?_)
    exact i_iret C hq dX12_visits_19
  · refine i_ldc C dX12_visits_7 kc_X12_102 kI_m1000000001 ?_
    exact i_iret C hq dX12_visits_9
set_option maxRecDepth 100000 in
set_option maxHeartbeats 4000000 in
theorem c_X12_changed (l : Launch) (G : Gx) {K : Kx} (hK : K = kR) {x1 : Int} {M : Mem} {res : Int × Mem} (hM : OkM M) (ha : okS [aR 0, aI x1]) (hF : rM_changed x1 M = some res) : Ct l G K yX12_changed (wsM yX12_changed cX12_changed 4 (some .int)) rmX12_changed [aR 0, aI x1] M (some (aI res.1)) res.2 := by
  refine ct_of RX12 (by decide +kernel) rfl (hK ▸ kR_ok) hM ha (Nat.le_of_ble_eq_true rfl) hF ?_
  intro X C hl hG hX0 hN hR hq
  have hX : xK X = kR := hX0.trans hK
  show Im X 0 0 0 [(0, aR 0), (1, aI x1)] [] M res (rM_changed x1 M)
  unfold rM_changed
  have hl2 : 2 < xn X := by rw [hN]; decide
  have hl3 : 3 < xn X := by rw [hN]; decide
  have hRm : ∀ {rm : Room} {ny : Nat}, RmOk rmX12_changed rm ny → RmOk (xR X) rm ny := fun h => by rw [hR]; exact h
  refine i_aload_n C dX12_changed_0 rfl (q := 0) rfl ?_
  refine i_iload_n C dX12_changed_1 rfl (q := 1) rfl ?_
  refine i_cI (kc' := 0) (ks' := 0) 0 0 2 (fun q hq hM hS => crV C (as := [aI x1]) dX12_changed_2.1 kX12 (shR_0 hX) ml_X12_316 cal_X12_isText cv_X12_isText (hRm ⟨Nat.le_of_ble_eq_true rfl, Nat.le_of_ble_eq_true rfl⟩) rfl (Nat.le_of_ble_eq_true rfl) (c_X12_isText (xl X) (xG X) hX hM ⟨hS.2.1, hS.1, trivial⟩ hq)) (Nat.le_of_ble_eq_true rfl) (Nat.le_of_ble_eq_true rfl) rfl rfl rfl (fun v2 M1 => ?_)
  refine i_if_ne (tgt := 11) C dX12_changed_5 (by decide) ?_ ?_
  · refine i_aload_n C dX12_changed_11 rfl (q := 0) rfl ?_
    refine i_getR C (k := 0) kX12 dX12_changed_12 (shR_0 hX) rfl (by decide) fl_X12_7 ?_
    refine i_aload_n C dX12_changed_15 rfl (q := 0) rfl ?_
    refine i_iload_n C dX12_changed_16 rfl (q := 1) rfl ?_
    refine i_cI (kc' := 0) (ks' := 0) 0 0 2 (fun q hq hM hS => crV C (as := [aI x1]) dX12_changed_17.1 kX12 (shR_0 hX) ml_X12_305 cal_X12_textAt cv_X12_textAt (hRm ⟨Nat.le_of_ble_eq_true rfl, Nat.le_of_ble_eq_true rfl⟩) rfl (Nat.le_of_ble_eq_true rfl) (c_X12_textAt (xl X) (xG X) hX hM ⟨hS.2.1, hS.1, trivial⟩ hq)) (Nat.le_of_ble_eq_true rfl) (Nat.le_of_ble_eq_true rfl) rfl rfl rfl (fun v4 M3 => ?_)
    refine i_iconst C dX12_changed_20 kI_0 ?_
    refine i_iadd C dX12_changed_21 ?_
    refine i_ald C dX12_changed_22 (shR_1 hX) (fun v5 => ?_)
    refine i_if_eq (tgt := 29) C dX12_changed_23 (by decide) ?_ ?_
    · refine i_aload_n C dX12_changed_29 rfl (q := 0) rfl ?_
      refine i_cV (kc' := 0) (ks' := 0) 0 0 1 (fun q hq hM hS => crV C (as := []) dX12_changed_30.1 kX12 (shR_0 hX) ml_X12_167 cal_X12_findKin cv_X12_findKin (hRm ⟨Nat.le_of_ble_eq_true rfl, Nat.le_of_ble_eq_true rfl⟩) rfl (Nat.le_of_ble_eq_true rfl) (c_X12_findKin (xl X) (xG X) hX hM ⟨hS.1, trivial⟩ hq)) (Nat.le_of_ble_eq_true rfl) (Nat.le_of_ble_eq_true rfl) rfl rfl rfl (fun M6 => ?_)
      refine i_aload_n C dX12_changed_33 rfl (q := 0) rfl ?_
      refine i_iconst C dX12_changed_34 kI_0 ?_
      refine i_cI (kc' := 0) (ks' := 0) 0 0 2 (fun q hq hM hS => crV C (as := [aI 0]) dX12_changed_35.1 kX12 (shR_0 hX) ml_X12_335 cal_X12_visitsOf cv_X12_visitsOf (hRm ⟨Nat.le_of_ble_eq_true rfl, Nat.le_of_ble_eq_true rfl⟩) rfl (Nat.le_of_ble_eq_true rfl) (c_X12_visitsOf (xl X) (xG X) hX hM ⟨hS.2.1, hS.1, trivial⟩ hq)) (Nat.le_of_ble_eq_true rfl) (Nat.le_of_ble_eq_true rfl) rfl rfl rfl (fun v8 M7 => ?_)
      refine i_aload_n C dX12_changed_38 rfl (q := 0) rfl ?_
      refine i_iconst C dX12_changed_39 kI_1 ?_
      refine i_cI (kc' := 0) (ks' := 0) 0 0 2 (fun q hq hM hS => crV C (as := [aI 1]) dX12_changed_40.1 kX12 (shR_0 hX) ml_X12_335 cal_X12_visitsOf cv_X12_visitsOf (hRm ⟨Nat.le_of_ble_eq_true rfl, Nat.le_of_ble_eq_true rfl⟩) rfl (Nat.le_of_ble_eq_true rfl) (c_X12_visitsOf (xl X) (xG X) hX hM ⟨hS.2.1, hS.1, trivial⟩ hq)) (Nat.le_of_ble_eq_true rfl) (Nat.le_of_ble_eq_true rfl) rfl rfl rfl (fun v10 M9 => ?_)
      refine i_iadd C dX12_changed_43 ?_
      refine i_nm (fun v11 => ?_)
      refine i_istore_n C dX12_changed_44 rfl hl2 (L' := [(0, aR 0), (1, aI x1), (2, aI v11)]) rfl ?_
      refine i_aload_n C dX12_changed_45 rfl (q := 0) rfl ?_
      refine i_iload_n C dX12_changed_46 rfl (q := 1) rfl ?_
      refine i_putI C (k := 20) kX12 dX12_changed_47 (shR_0 hX) rfl (by decide) fl_X12_34 rfl rfl rfl rfl (fun M12 => ?_)
      refine i_aload_n C dX12_changed_50 rfl (q := 0) rfl ?_
      refine i_iconst C dX12_changed_51 kI_0 ?_
      refine i_cI (kc' := 0) (ks' := 0) 0 0 2 (fun q hq hM hS => crV C (as := [aI 0]) dX12_changed_52.1 kX12 (shR_0 hX) ml_X12_335 cal_X12_visitsOf cv_X12_visitsOf (hRm ⟨Nat.le_of_ble_eq_true rfl, Nat.le_of_ble_eq_true rfl⟩) rfl (Nat.le_of_ble_eq_true rfl) (c_X12_visitsOf (xl X) (xG X) hX hM ⟨hS.2.1, hS.1, trivial⟩ hq)) (Nat.le_of_ble_eq_true rfl) (Nat.le_of_ble_eq_true rfl) rfl rfl rfl (fun v14 M13 => ?_)
      refine i_aload_n C dX12_changed_55 rfl (q := 0) rfl ?_
      refine i_iconst C dX12_changed_56 kI_1 ?_
      refine i_cI (kc' := 0) (ks' := 0) 0 0 2 (fun q hq hM hS => crV C (as := [aI 1]) dX12_changed_57.1 kX12 (shR_0 hX) ml_X12_335 cal_X12_visitsOf cv_X12_visitsOf (hRm ⟨Nat.le_of_ble_eq_true rfl, Nat.le_of_ble_eq_true rfl⟩) rfl (Nat.le_of_ble_eq_true rfl) (c_X12_visitsOf (xl X) (xG X) hX hM ⟨hS.2.1, hS.1, trivial⟩ hq)) (Nat.le_of_ble_eq_true rfl) (Nat.le_of_ble_eq_true rfl) rfl rfl rfl (fun v16 M15 => ?_)
      refine i_iadd C dX12_changed_60 ?_
      refine i_nm (fun v17 => ?_)
      refine i_istore_n C dX12_changed_61 rfl hl3 (L' := [(0, aR 0), (1, aI x1), (2, aI v11), (3, aI v17)]) rfl ?_
      refine i_aload_n C dX12_changed_62 rfl (q := 0) rfl ?_
      refine i_iconst C dX12_changed_63 kI_m1 ?_
      refine i_putI C (k := 20) kX12 dX12_changed_64 (shR_0 hX) rfl (by decide) fl_X12_34 rfl rfl rfl rfl (fun M18 => ?_)
      refine i_iload_n C dX12_changed_67 rfl (q := 3) rfl ?_
      refine i_iload_n C dX12_changed_68 rfl (q := 2) rfl ?_
      refine i_isub C dX12_changed_69 ?_
      exact i_iret C hq dX12_changed_70
    · refine i_ldc C dX12_changed_26 kc_X12_161 kI_m1000000012 ?_
      exact i_iret C hq dX12_changed_28
  · refine i_ldc C dX12_changed_8 kc_X12_102 kI_m1000000001 ?_
    exact i_iret C hq dX12_changed_10
set_option maxRecDepth 100000 in
set_option maxHeartbeats 4000000 in
theorem c_X12_house (l : Launch) (G : Gx) {K : Kx} (hK : K = kR) {x1 : Int} {x2 : Int} {x3 : Int} {x4 : Int} {M : Mem} {res : Int × Mem} (hM : OkM M) (ha : okS [aR 0, aI x1, aI x2, aI x3, aI x4]) (hF : rM_house x1 x2 x3 x4 M = some res) : Ct l G K yX12_house (wsM yX12_house cX12_house 7 (some .int)) rmX12_house [aR 0, aI x1, aI x2, aI x3, aI x4] M (some (aI res.1)) res.2 := by
  refine ct_of RX12 (by decide +kernel) rfl (hK ▸ kR_ok) hM ha (Nat.le_of_ble_eq_true rfl) hF ?_
  intro X C hl hG hX0 hN hR hq
  have hX : xK X = kR := hX0.trans hK
  show Im X 0 0 0 [(0, aR 0), (1, aI x1), (2, aI x2), (3, aI x3), (4, aI x4)] [] M res (rM_house x1 x2 x3 x4 M)
  unfold rM_house
  have hl5 : 5 < xn X := by rw [hN]; decide
  have hl6 : 6 < xn X := by rw [hN]; decide
  have hRm : ∀ {rm : Room} {ny : Nat}, RmOk rmX12_house rm ny → RmOk (xR X) rm ny := fun h => by rw [hR]; exact h
  refine i_iload_n C dX12_house_0 rfl (q := 1) rfl ?_
  refine i_cI (kc' := 0) (ks' := 0) 0 0 1 (fun q hq hM hS => crS C (as := [aI x1]) dX12_house_1.1 ml_X12_99 cal_X12_isSide st_X12_isSide (hRm ⟨Nat.le_of_ble_eq_true rfl, Nat.le_of_ble_eq_true rfl⟩) rfl (Nat.le_of_ble_eq_true rfl) (c_X12_isSide (xl X) (xG X) hX hM ⟨hS.1, trivial⟩ hq)) (Nat.le_of_ble_eq_true rfl) (Nat.le_of_ble_eq_true rfl) rfl rfl rfl (fun v2 M1 => ?_)
  refine i_if_eq (tgt := 44) C dX12_house_4 (by decide) ?_ ?_
  · refine i_ldc C dX12_house_44 kc_X12_102 kI_m1000000001 ?_
    exact i_iret C hq dX12_house_46
  · refine i_iload_n C dX12_house_7 rfl (q := 2) rfl ?_
    refine i_i2l C dX12_house_8 ?_
    refine i_lconst C dX12_house_9 kL_0 ?_
    refine i_ldc2 C dX12_house_10 k2_X12_115 kJ_99 ?_
    refine i_cI (kc' := 0) (ks' := 0) 0 0 3 (fun q hq hM hS => crS C (as := [aL x2, aL 0, aL 99]) dX12_house_13.1 ml_X12_78 cal_X12_isIn st_X12_isIn (hRm ⟨Nat.le_of_ble_eq_true rfl, Nat.le_of_ble_eq_true rfl⟩) rfl (Nat.le_of_ble_eq_true rfl) (c_X12_isIn (xl X) (xG X) hX hM ⟨hS.2.2.1, hS.2.1, hS.1, trivial⟩ hq)) (Nat.le_of_ble_eq_true rfl) (Nat.le_of_ble_eq_true rfl) rfl rfl rfl (fun v4 M3 => ?_)
    refine i_if_eq (tgt := 44) C dX12_house_16 (by decide) ?_ ?_
    · refine i_ldc C dX12_house_44 kc_X12_102 kI_m1000000001 ?_
      exact i_iret C hq dX12_house_46
    · refine i_iload_n C dX12_house_19 rfl (q := 3) rfl ?_
      refine i_i2l C dX12_house_20 ?_
      refine i_lconst C dX12_house_21 kL_0 ?_
      refine i_ldc2 C dX12_house_22 k2_X12_115 kJ_99 ?_
      refine i_cI (kc' := 0) (ks' := 0) 0 0 3 (fun q hq hM hS => crS C (as := [aL x3, aL 0, aL 99]) dX12_house_25.1 ml_X12_78 cal_X12_isIn st_X12_isIn (hRm ⟨Nat.le_of_ble_eq_true rfl, Nat.le_of_ble_eq_true rfl⟩) rfl (Nat.le_of_ble_eq_true rfl) (c_X12_isIn (xl X) (xG X) hX hM ⟨hS.2.2.1, hS.2.1, hS.1, trivial⟩ hq)) (Nat.le_of_ble_eq_true rfl) (Nat.le_of_ble_eq_true rfl) rfl rfl rfl (fun v6 M5 => ?_)
      refine i_if_eq (tgt := 44) C dX12_house_28 (by decide) ?_ ?_
      · refine i_ldc C dX12_house_44 kc_X12_102 kI_m1000000001 ?_
        exact i_iret C hq dX12_house_46
      · refine i_iload C dX12_house_31 (q := 4) rfl ?_
        refine i_i2l C dX12_house_33 ?_
        refine i_lconst C dX12_house_34 kL_0 ?_
        refine i_ldc2 C dX12_house_35 k2_X12_115 kJ_99 ?_
        refine i_cI (kc' := 0) (ks' := 0) 0 0 3 (fun q hq hM hS => crS C (as := [aL x4, aL 0, aL 99]) dX12_house_38.1 ml_X12_78 cal_X12_isIn st_X12_isIn (hRm ⟨Nat.le_of_ble_eq_true rfl, Nat.le_of_ble_eq_true rfl⟩) rfl (Nat.le_of_ble_eq_true rfl) (c_X12_isIn (xl X) (xG X) hX hM ⟨hS.2.2.1, hS.2.1, hS.1, trivial⟩ hq)) (Nat.le_of_ble_eq_true rfl) (Nat.le_of_ble_eq_true rfl) rfl rfl rfl (fun v8 M7 => ?_)
        refine i_if_ne (tgt := 47) C dX12_house_41 (by decide) ?_ ?_
        · refine i_aload_n C dX12_house_47 rfl (q := 0) rfl ?_
          refine i_iload_n C dX12_house_48 rfl (q := 1) rfl ?_
          refine i_iconst C dX12_house_49 kI_3 ?_
          refine i_cI (kc' := 0) (ks' := 0) 0 0 3 (fun q hq hM hS => crV C (as := [aI x1, aI 3]) dX12_house_50.1 kX12 (shR_0 hX) ml_X12_321 cal_X12_countsFor cv_X12_countsFor (hRm ⟨Nat.le_of_ble_eq_true rfl, Nat.le_of_ble_eq_true rfl⟩) rfl (Nat.le_of_ble_eq_true rfl) (c_X12_countsFor (xl X) (xG X) hX hM ⟨hS.2.2.1, hS.2.1, hS.1, trivial⟩ hq)) (Nat.le_of_ble_eq_true rfl) (Nat.le_of_ble_eq_true rfl) rfl rfl rfl (fun v10 M9 => ?_)
          refine i_istore C dX12_house_53 hl5 (L' := [(0, aR 0), (1, aI x1), (2, aI x2), (3, aI x3), (4, aI x4), (5, aI v10)]) rfl ?_
          refine i_aload_n C dX12_house_55 rfl (q := 0) rfl ?_
          refine i_getR C (k := 21) kX12 dX12_house_56 (shR_0 hX) rfl (by decide) fl_X12_38 ?_
          refine i_bipush C dX12_house_59 kB_100 ?_
          refine i_iload_n C dX12_house_61 rfl (q := 2) rfl ?_
          refine i_bipush C dX12_house_62 kB_10 ?_
          refine i_idiv C dX12_house_64 (by decide) ?_
          refine i_iload_n C dX12_house_65 rfl (q := 2) rfl ?_
          refine i_bipush C dX12_house_66 kB_10 ?_
          refine i_irem C dX12_house_68 (by decide) ?_
          refine i_isub C dX12_house_69 ?_
          refine i_ast C dX12_house_70 (shR_9 hX) (fun M11 => ?_)
          refine i_aload_n C dX12_house_71 rfl (q := 0) rfl ?_
          refine i_getR C (k := 21) kX12 dX12_house_72 (shR_0 hX) rfl (by decide) fl_X12_38 ?_
          refine i_bipush C dX12_house_75 kB_102 ?_
          refine i_iload_n C dX12_house_77 rfl (q := 3) rfl ?_
          refine i_bipush C dX12_house_78 kB_10 ?_
          refine i_idiv C dX12_house_80 (by decide) ?_
          refine i_iload_n C dX12_house_81 rfl (q := 3) rfl ?_
          refine i_bipush C dX12_house_82 kB_10 ?_
          refine i_irem C dX12_house_84 (by decide) ?_
          refine i_isub C dX12_house_85 ?_
          refine i_ast C dX12_house_86 (shR_9 hX) (fun M12 => ?_)
          refine i_aload_n C dX12_house_87 rfl (q := 0) rfl ?_
          refine i_getR C (k := 21) kX12 dX12_house_88 (shR_0 hX) rfl (by decide) fl_X12_38 ?_
          refine i_bipush C dX12_house_91 kB_112 ?_
          refine i_iload C dX12_house_93 (q := 4) rfl ?_
          refine i_bipush C dX12_house_95 kB_10 ?_
          refine i_idiv C dX12_house_97 (by decide) ?_
          refine i_iload C dX12_house_98 (q := 4) rfl ?_
          refine i_bipush C dX12_house_100 kB_10 ?_
          refine i_irem C dX12_house_102 (by decide) ?_
          refine i_isub C dX12_house_103 ?_
          refine i_ast C dX12_house_104 (shR_9 hX) (fun M13 => ?_)
          refine i_iload C dX12_house_105 (q := 5) rfl ?_
          refine i_jn (fun j => ∀ (p14 : Int) (M16 : Mem), Im X 0 0 120 [(1, aI x1)] [aI p14] M16 res (j p14 M16)) ?_ (fun j15 hj15 => ?_)
          · intro p14 M16
            refine i_istore C dX12_house_120 hl6 (L' := [(1, aI x1), (6, aI p14)]) rfl ?_
            refine i_iload C dX12_house_122 (q := 1) rfl ?_
            refine i_if_le (tgt := 131) C dX12_house_124 (by decide) ?_ ?_
            · refine i_iload C dX12_house_131 (q := 1) rfl ?_
              refine i_if_ge (tgt := 140) C dX12_house_133 (by decide) ?_ ?_
              · refine i_iload_n C dX12_house_140 rfl (q := 0) rfl ?_
                exact i_iret C hq dX12_house_141
              · refine i_iconst C dX12_house_136 kI_1 ?_
                refine i_goto (tgt := 141) C dX12_house_137 (by decide) ?_
                exact i_iret C hq dX12_house_141
            · refine i_iconst C dX12_house_127 kI_0 ?_
              refine i_goto (tgt := 141) C dX12_house_128 (by decide) ?_
              exact i_iret C hq dX12_house_141
          refine i_if_ge (tgt := 114) C dX12_house_107 (by decide) ?_ ?_
          · refine i_aload_n C dX12_house_114 rfl (q := 0) rfl ?_
            refine i_iload C dX12_house_115 (q := 5) rfl ?_
            refine i_cI (kc' := 0) (ks' := 0) 0 0 2 (fun q hq hM hS => crV C (as := [aI v10]) dX12_house_117.1 kX12 (shR_0 hX) ml_X12_328 cal_X12_worked cv_X12_worked (hRm ⟨Nat.le_of_ble_eq_true rfl, Nat.le_of_ble_eq_true rfl⟩) rfl (Nat.le_of_ble_eq_true rfl) (c_X12_worked (xl X) (xG X) hX hM ⟨hS.2.1, hS.1, trivial⟩ hq)) (Nat.le_of_ble_eq_true rfl) (Nat.le_of_ble_eq_true rfl) rfl rfl rfl (fun v18 M17 => ?_)
            exact i_sub [1] rfl (hj15 v18 M17)
          · refine i_iconst C dX12_house_110 kI_0 ?_
            refine i_goto (tgt := 120) C dX12_house_111 (by decide) ?_
            exact i_sub [1] rfl (hj15 0 M13)
        · refine i_ldc C dX12_house_44 kc_X12_102 kI_m1000000001 ?_
          exact i_iret C hq dX12_house_46
set_option maxRecDepth 100000 in
set_option maxHeartbeats 4000000 in
theorem w_X12_findWay_2 {X : Xc} (C : Cx X RX12 cX12_findWay (some .boolean)) (hX : xK X = kR) (hN : xn X = 4) (hR : xR X = rmX12_findWay) {res : Int × Mem} (hq : Rq X (some (aI res.1)) res.2) {k21 : Mem → Option (Int × Mem)} (hk21 : ∀ (M : Mem), Im X 0 0 21 [(0, aR 0)] [] M res (k21 M)) : ∀ (n : Nat) (u1 : Int) (M : Mem), Im X 0 0 2 [(0, aR 0), (1, aI u1)] [] M res (lpX12_findWay_2 k21 n u1 M) := by
  have hl1 : 1 < xn X := by rw [hN]; decide
  intro n
  induction n with
  | zero => intro _ _; exact i_none
  | succ n ih =>
    intro u1 M
    unfold lpX12_findWay_2
    refine i_iload_n C dX12_findWay_2 rfl (q := 1) rfl ?_
    refine i_bipush C dX12_findWay_3 kB_18 ?_
    refine i_icmp_ge (tgt := 21) C dX12_findWay_5 (by decide) ?_ ?_
    · exact i_sub [0] rfl (hk21  M)
    · refine i_aload_n C dX12_findWay_8 rfl (q := 0) rfl ?_
      refine i_getR C (k := 24) kX12 dX12_findWay_9 (shR_0 hX) rfl (by decide) fl_X12_47 ?_
      refine i_iload_n C dX12_findWay_12 rfl (q := 1) rfl ?_
      refine i_iconst C dX12_findWay_13 kI_m1 ?_
      refine i_ast C dX12_findWay_14 (shR_12 hX) (fun M1 => ?_)
      refine i_iincN (L' := fun v2 => [(0, aR 0), (1, aI v2)]) C dX12_findWay_15 (q := 1) rfl hl1 (fun _ => rfl) (fun v2 => ?_)
      refine i_goto (tgt := 2) C dX12_findWay_18 (by decide) ?_
      exact (ih v2 M1)
set_option maxRecDepth 100000 in
set_option maxHeartbeats 4000000 in
theorem w_X12_findWay_49 {X : Xc} (C : Cx X RX12 cX12_findWay (some .boolean)) (hX : xK X = kR) (hN : xn X = 4) (hR : xR X = rmX12_findWay) {res : Int × Mem} (hq : Rq X (some (aI res.1)) res.2) (y2 : Int) {k111 : Int → Mem → Option (Int × Mem)} (hk111 : ∀ (q1 : Int) (M : Mem), Im X 0 0 111 [(0, aR 0), (1, aI q1), (2, aI y2)] [] M res (k111 q1 M)) : ∀ (n : Nat) (u1 : Int) (u3 : Int) (M : Mem), Im X 0 0 49 [(0, aR 0), (1, aI u1), (2, aI y2), (3, aI u3)] [] M res (lpX12_findWay_49 y2 k111 n u1 u3 M) := by
  have hl1 : 1 < xn X := by rw [hN]; decide
  have hl2 : 2 < xn X := by rw [hN]; decide
  have hl3 : 3 < xn X := by rw [hN]; decide
  intro n
  induction n with
  | zero => intro _ _ _; exact i_none
  | succ n ih =>
    intro u1 u3 M
    unfold lpX12_findWay_49
    refine i_iload_n C dX12_findWay_49 rfl (q := 3) rfl ?_
    refine i_bipush C dX12_findWay_50 kB_18 ?_
    refine i_icmp_ge (tgt := 111) C dX12_findWay_52 (by decide) ?_ ?_
    · exact i_sub [0, 1, 2] rfl (hk111 u1 M)
    · refine i_aload_n C dX12_findWay_55 rfl (q := 0) rfl ?_
      refine i_getR C (k := 24) kX12 dX12_findWay_56 (shR_0 hX) rfl (by decide) fl_X12_47 ?_
      refine i_iload_n C dX12_findWay_59 rfl (q := 3) rfl ?_
      refine i_ald C dX12_findWay_60 (shR_12 hX) (fun v6 => ?_)
      refine i_jn (fun j => ∀ (p7 : Int) (M9 : Mem), Im X 0 0 105 [(0, aR 0), (1, aI p7), (2, aI y2), (3, aI u3)] [] M9 res (j p7 M9)) ?_ (fun j8 hj8 => ?_)
      · intro p7 M9
        refine i_iincN (L' := fun v10 => [(0, aR 0), (1, aI p7), (2, aI y2), (3, aI v10)]) C dX12_findWay_105 (q := 3) rfl hl3 (fun _ => rfl) (fun v10 => ?_)
        refine i_goto (tgt := 49) C dX12_findWay_108 (by decide) ?_
        exact (ih p7 v10 M9)
      refine i_if_ge (tgt := 105) C dX12_findWay_61 (by decide) ?_ ?_
      · exact (hj8 u1 M)
      · refine i_aload_n C dX12_findWay_64 rfl (q := 0) rfl ?_
        refine i_getR C (k := 23) kX12 dX12_findWay_65 (shR_0 hX) rfl (by decide) fl_X12_44 ?_
        refine i_bipush C dX12_findWay_68 kB_18 ?_
        refine i_aload_n C dX12_findWay_70 rfl (q := 0) rfl ?_
        refine i_getR C (k := 25) kX12 dX12_findWay_71 (shR_0 hX) rfl (by decide) fl_X12_50 ?_
        refine i_iload_n C dX12_findWay_74 rfl (q := 2) rfl ?_
        refine i_ald C dX12_findWay_75 (shR_13 hX) (fun v11 => ?_)
        refine i_imul C dX12_findWay_76 ?_
        refine i_iload_n C dX12_findWay_77 rfl (q := 3) rfl ?_
        refine i_iadd C dX12_findWay_78 ?_
        refine i_ald C dX12_findWay_79 (shR_11 hX) (fun v12 => ?_)
        refine i_if_le (tgt := 105) C dX12_findWay_80 (by decide) ?_ ?_
        · exact (hj8 u1 M)
        · refine i_aload_n C dX12_findWay_83 rfl (q := 0) rfl ?_
          refine i_getR C (k := 24) kX12 dX12_findWay_84 (shR_0 hX) rfl (by decide) fl_X12_47 ?_
          refine i_iload_n C dX12_findWay_87 rfl (q := 3) rfl ?_
          refine i_aload_n C dX12_findWay_88 rfl (q := 0) rfl ?_
          refine i_getR C (k := 25) kX12 dX12_findWay_89 (shR_0 hX) rfl (by decide) fl_X12_50 ?_
          refine i_iload_n C dX12_findWay_92 rfl (q := 2) rfl ?_
          refine i_ald C dX12_findWay_93 (shR_13 hX) (fun v13 => ?_)
          refine i_ast C dX12_findWay_94 (shR_12 hX) (fun M14 => ?_)
          refine i_aload_n C dX12_findWay_95 rfl (q := 0) rfl ?_
          refine i_getR C (k := 25) kX12 dX12_findWay_96 (shR_0 hX) rfl (by decide) fl_X12_50 ?_
          refine i_iload_n C dX12_findWay_99 rfl (q := 1) rfl ?_
          refine i_iload_n C dX12_findWay_100 rfl (q := 3) rfl ?_
          refine i_ast C dX12_findWay_101 (shR_13 hX) (fun M15 => ?_)
          refine i_iincN (L' := fun v16 => [(0, aR 0), (1, aI v16), (2, aI y2), (3, aI u3)]) C dX12_findWay_102 (q := 1) rfl hl1 (fun _ => rfl) (fun v16 => ?_)
          exact (hj8 v16 M15)
set_option maxRecDepth 100000 in
set_option maxHeartbeats 4000000 in
theorem w_X12_findWay_42 {X : Xc} (C : Cx X RX12 cX12_findWay (some .boolean)) (hX : xK X = kR) (hN : xn X = 4) (hR : xR X = rmX12_findWay) {res : Int × Mem} (hq : Rq X (some (aI res.1)) res.2) {k117 : Mem → Option (Int × Mem)} (hk117 : ∀ (M : Mem), Im X 0 0 117 [(0, aR 0)] [] M res (k117 M)) : ∀ (n : Nat) (u1 : Int) (u2 : Int) (M : Mem), Im X 0 0 42 [(0, aR 0), (1, aI u1), (2, aI u2)] [] M res (lpX12_findWay_42 k117 n u1 u2 M) := by
  have hl1 : 1 < xn X := by rw [hN]; decide
  have hl2 : 2 < xn X := by rw [hN]; decide
  have hl3 : 3 < xn X := by rw [hN]; decide
  intro n
  induction n with
  | zero => intro _ _ _; exact i_none
  | succ n ih =>
    intro u1 u2 M
    unfold lpX12_findWay_42
    refine i_iload_n C dX12_findWay_42 rfl (q := 2) rfl ?_
    refine i_iload_n C dX12_findWay_43 rfl (q := 1) rfl ?_
    refine i_icmp_ge (tgt := 117) C dX12_findWay_44 (by decide) ?_ ?_
    · exact i_sub [0] rfl (hk117  M)
    · refine i_iconst C dX12_findWay_47 kI_0 ?_
      refine i_istore_n C dX12_findWay_48 rfl hl3 (L' := [(0, aR 0), (1, aI u1), (2, aI u2), (3, aI 0)]) rfl ?_
      refine (w_X12_findWay_49 C hX hN hR hq u2 (fun v17 M18 => ?_) FU u1 0 M)
      refine i_iincN (L' := fun v19 => [(0, aR 0), (1, aI v17), (2, aI v19)]) C dX12_findWay_111 (q := 2) rfl hl2 (fun _ => rfl) (fun v19 => ?_)
      refine i_goto (tgt := 42) C dX12_findWay_114 (by decide) ?_
      exact (ih v17 v19 M18)
set_option maxRecDepth 100000 in
set_option maxHeartbeats 4000000 in
theorem c_X12_findWay (l : Launch) (G : Gx) {K : Kx} (hK : K = kR) {M : Mem} {res : Int × Mem} (hM : OkM M) (ha : okS [aR 0]) (hF : rM_findWay M = some res) : Ct l G K yX12_findWay (wsM yX12_findWay cX12_findWay 4 (some .boolean)) rmX12_findWay [aR 0] M (some (aI res.1)) res.2 := by
  refine ct_of RX12 (by decide +kernel) rfl (hK ▸ kR_ok) hM ha (Nat.le_of_ble_eq_true rfl) hF ?_
  intro X C hl hG hX0 hN hR hq
  have hX : xK X = kR := hX0.trans hK
  show Im X 0 0 0 [(0, aR 0)] [] M res (rM_findWay  M)
  unfold rM_findWay
  have hl1 : 1 < xn X := by rw [hN]; decide
  have hl2 : 2 < xn X := by rw [hN]; decide
  have hl3 : 3 < xn X := by rw [hN]; decide
  refine i_iconst C dX12_findWay_0 kI_0 ?_
  refine i_istore_n C dX12_findWay_1 rfl hl1 (L' := [(0, aR 0), (1, aI 0)]) rfl ?_
  refine (w_X12_findWay_2 C hX hN hR hq (fun M3 => ?_) FU 0 M)
  refine i_aload_n C dX12_findWay_21 rfl (q := 0) rfl ?_
  refine i_getR C (k := 24) kX12 dX12_findWay_22 (shR_0 hX) rfl (by decide) fl_X12_47 ?_
  refine i_bipush C dX12_findWay_25 kB_16 ?_
  refine i_bipush C dX12_findWay_27 kB_16 ?_
  refine i_ast C dX12_findWay_29 (shR_12 hX) (fun M4 => ?_)
  refine i_aload_n C dX12_findWay_30 rfl (q := 0) rfl ?_
  refine i_getR C (k := 25) kX12 dX12_findWay_31 (shR_0 hX) rfl (by decide) fl_X12_50 ?_
  refine i_iconst C dX12_findWay_34 kI_0 ?_
  refine i_bipush C dX12_findWay_35 kB_16 ?_
  refine i_ast C dX12_findWay_37 (shR_13 hX) (fun M5 => ?_)
  refine i_iconst C dX12_findWay_38 kI_1 ?_
  refine i_istore_n C dX12_findWay_39 rfl hl1 (L' := [(0, aR 0), (1, aI 1)]) rfl ?_
  refine i_iconst C dX12_findWay_40 kI_0 ?_
  refine i_istore_n C dX12_findWay_41 rfl hl2 (L' := [(0, aR 0), (1, aI 1), (2, aI 0)]) rfl ?_
  refine (w_X12_findWay_42 C hX hN hR hq (fun M20 => ?_) FU 1 0 M5)
  refine i_aload_n C dX12_findWay_117 rfl (q := 0) rfl ?_
  refine i_getR C (k := 24) kX12 dX12_findWay_118 (shR_0 hX) rfl (by decide) fl_X12_47 ?_
  refine i_bipush C dX12_findWay_121 kB_17 ?_
  refine i_ald C dX12_findWay_123 (shR_12 hX) (fun v21 => ?_)
  refine i_if_lt (tgt := 131) C dX12_findWay_124 (by decide) ?_ ?_
  · refine i_iconst C dX12_findWay_131 kI_0 ?_
    exact i_zret C hq dX12_findWay_132 (Or.inl rfl)
  · refine i_iconst C dX12_findWay_127 kI_1 ?_
    refine i_goto (tgt := 132) C dX12_findWay_128 (by decide) ?_
    exact i_zret C hq dX12_findWay_132 (Or.inr rfl)
set_option maxRecDepth 100000 in
set_option maxHeartbeats 4000000 in
theorem w_X12_flowOf_2 {X : Xc} (C : Cx X RX12 cX12_flowOf (some .int)) (hX : xK X = kR) (hN : xn X = 6) (hR : xR X = rmX12_flowOf) {res : Int × Mem} (hq : Rq X (some (aI res.1)) res.2) (y1 : Int) (y2 : Int) {k22 : Mem → Option (Int × Mem)} (hk22 : ∀ (M : Mem), Im X 0 0 22 [(0, aR 0), (1, aI y1), (2, aI y2)] [] M res (k22 M)) : ∀ (n : Nat) (u3 : Int) (M : Mem), Im X 0 0 2 [(0, aR 0), (1, aI y1), (2, aI y2), (3, aI u3)] [] M res (lpX12_flowOf_2 y1 y2 k22 n u3 M) := by
  have hl3 : 3 < xn X := by rw [hN]; decide
  intro n
  induction n with
  | zero => intro _ _; exact i_none
  | succ n ih =>
    intro u3 M
    unfold lpX12_flowOf_2
    refine i_iload_n C dX12_flowOf_2 rfl (q := 3) rfl ?_
    refine i_sipush C dX12_flowOf_3 kS_324 ?_
    refine i_icmp_ge (tgt := 22) C dX12_flowOf_6 (by decide) ?_ ?_
    · exact i_sub [0, 1, 2] rfl (hk22  M)
    · refine i_aload_n C dX12_flowOf_9 rfl (q := 0) rfl ?_
      refine i_getR C (k := 23) kX12 dX12_flowOf_10 (shR_0 hX) rfl (by decide) fl_X12_44 ?_
      refine i_iload_n C dX12_flowOf_13 rfl (q := 3) rfl ?_
      refine i_iconst C dX12_flowOf_14 kI_0 ?_
      refine i_ast C dX12_flowOf_15 (shR_11 hX) (fun M1 => ?_)
      refine i_iincN (L' := fun v2 => [(0, aR 0), (1, aI y1), (2, aI y2), (3, aI v2)]) C dX12_flowOf_16 (q := 3) rfl hl3 (fun _ => rfl) (fun v2 => ?_)
      refine i_goto (tgt := 2) C dX12_flowOf_19 (by decide) ?_
      exact (ih v2 M1)
set_option maxRecDepth 100000 in
set_option maxHeartbeats 4000000 in
theorem w_X12_flowOf_24 {X : Xc} (C : Cx X RX12 cX12_flowOf (some .int)) (hX : xK X = kR) (hN : xn X = 6) (hR : xR X = rmX12_flowOf) {res : Int × Mem} (hq : Rq X (some (aI res.1)) res.2) (y1 : Int) (y2 : Int) {k103 : Mem → Option (Int × Mem)} (hk103 : ∀ (M : Mem), Im X 0 0 103 [(0, aR 0), (2, aI y2)] [] M res (k103 M)) : ∀ (n : Nat) (u3 : Int) (M : Mem), Im X 0 0 24 [(0, aR 0), (1, aI y1), (2, aI y2), (3, aI u3)] [] M res (lpX12_flowOf_24 y1 y2 k103 n u3 M) := by
  have hl3 : 3 < xn X := by rw [hN]; decide
  have hRm : ∀ {rm : Room} {ny : Nat}, RmOk rmX12_flowOf rm ny → RmOk (xR X) rm ny := fun h => by rw [hR]; exact h
  intro n
  induction n with
  | zero => intro _ _; exact i_none
  | succ n ih =>
    intro u3 M
    unfold lpX12_flowOf_24
    refine i_iload_n C dX12_flowOf_24 rfl (q := 3) rfl ?_
    refine i_aload_n C dX12_flowOf_25 rfl (q := 0) rfl ?_
    refine i_getR C (k := 0) kX12 dX12_flowOf_26 (shR_0 hX) rfl (by decide) fl_X12_7 ?_
    refine i_iconst C dX12_flowOf_29 kI_1 ?_
    refine i_ald C dX12_flowOf_30 (shR_1 hX) (fun v4 => ?_)
    refine i_icmp_ge (tgt := 103) C dX12_flowOf_31 (by decide) ?_ ?_
    · exact i_sub [0, 2] rfl (hk103  M)
    · refine i_aload_n C dX12_flowOf_34 rfl (q := 0) rfl ?_
      refine i_getR C (k := 23) kX12 dX12_flowOf_35 (shR_0 hX) rfl (by decide) fl_X12_44 ?_
      refine i_sipush C dX12_flowOf_38 kS_288 ?_
      refine i_iload_n C dX12_flowOf_41 rfl (q := 3) rfl ?_
      refine i_iadd C dX12_flowOf_42 ?_
      refine i_aload_n C dX12_flowOf_43 rfl (q := 0) rfl ?_
      refine i_getR C (k := 0) kX12 dX12_flowOf_44 (shR_0 hX) rfl (by decide) fl_X12_7 ?_
      refine i_aload_n C dX12_flowOf_47 rfl (q := 0) rfl ?_
      refine i_iload_n C dX12_flowOf_48 rfl (q := 3) rfl ?_
      refine i_cI (kc' := 0) (ks' := 0) 0 0 2 (fun q hq hM hS => crV C (as := [aI u3]) dX12_flowOf_49.1 kX12 (shR_0 hX) ml_X12_90 cal_X12_cellAt cv_X12_cellAt (hRm ⟨Nat.le_of_ble_eq_true rfl, Nat.le_of_ble_eq_true rfl⟩) rfl (Nat.le_of_ble_eq_true rfl) (c_X12_cellAt (xl X) (xG X) hX hM ⟨hS.2.1, hS.1, trivial⟩ hq)) (Nat.le_of_ble_eq_true rfl) (Nat.le_of_ble_eq_true rfl) rfl rfl rfl (fun v6 M5 => ?_)
      refine i_iconst C dX12_flowOf_52 kI_2 ?_
      refine i_iadd C dX12_flowOf_53 ?_
      refine i_ald C dX12_flowOf_54 (shR_1 hX) (fun v7 => ?_)
      refine i_ast C dX12_flowOf_55 (shR_11 hX) (fun M8 => ?_)
      refine i_aload_n C dX12_flowOf_56 rfl (q := 0) rfl ?_
      refine i_getR C (k := 23) kX12 dX12_flowOf_57 (shR_0 hX) rfl (by decide) fl_X12_44 ?_
      refine i_bipush C dX12_flowOf_60 kB_18 ?_
      refine i_iload_n C dX12_flowOf_62 rfl (q := 3) rfl ?_
      refine i_imul C dX12_flowOf_63 ?_
      refine i_bipush C dX12_flowOf_64 kB_17 ?_
      refine i_iadd C dX12_flowOf_66 ?_
      refine i_iload_n C dX12_flowOf_67 rfl (q := 1) rfl ?_
      refine i_aload_n C dX12_flowOf_68 rfl (q := 0) rfl ?_
      refine i_iload_n C dX12_flowOf_69 rfl (q := 3) rfl ?_
      refine i_cI (kc' := 0) (ks' := 0) 0 0 2 (fun q hq hM hS => crV C (as := [aI u3]) dX12_flowOf_70.1 kX12 (shR_0 hX) ml_X12_96 cal_X12_sideOf cv_X12_sideOf (hRm ⟨Nat.le_of_ble_eq_true rfl, Nat.le_of_ble_eq_true rfl⟩) rfl (Nat.le_of_ble_eq_true rfl) (c_X12_sideOf (xl X) (xG X) hX hM ⟨hS.2.1, hS.1, trivial⟩ hq)) (Nat.le_of_ble_eq_true rfl) (Nat.le_of_ble_eq_true rfl) rfl rfl rfl (fun v10 M9 => ?_)
      refine i_ishr C dX12_flowOf_73 ?_
      refine i_iconst C dX12_flowOf_74 kI_1 ?_
      refine i_iand C dX12_flowOf_75 ?_
      refine i_iconst C dX12_flowOf_76 kI_1 ?_
      refine i_jn (fun j => ∀ (p11 : Int) (M13 : Mem), Im X 0 0 96 [(0, aR 0), (1, aI y1), (2, aI y2), (3, aI u3)] [aI p11, aI (w32 ((w32 (18 * u3)) + 17)), aR 11] M13 res (j p11 M13)) ?_ (fun j12 hj12 => ?_)
      · intro p11 M13
        refine i_ast C dX12_flowOf_96 (shR_11 hX) (fun M14 => ?_)
        refine i_iincN (L' := fun v15 => [(0, aR 0), (1, aI y1), (2, aI y2), (3, aI v15)]) C dX12_flowOf_97 (q := 3) rfl hl3 (fun _ => rfl) (fun v15 => ?_)
        refine i_goto (tgt := 24) C dX12_flowOf_100 (by decide) ?_
        exact (ih v15 M14)
      refine i_icmp_ne (tgt := 95) C dX12_flowOf_77 (by decide) ?_ ?_
      · refine i_iconst C dX12_flowOf_95 kI_0 ?_
        exact (hj12 0 M9)
      · refine i_aload_n C dX12_flowOf_80 rfl (q := 0) rfl ?_
        refine i_getR C (k := 0) kX12 dX12_flowOf_81 (shR_0 hX) rfl (by decide) fl_X12_7 ?_
        refine i_aload_n C dX12_flowOf_84 rfl (q := 0) rfl ?_
        refine i_iload_n C dX12_flowOf_85 rfl (q := 3) rfl ?_
        refine i_cI (kc' := 0) (ks' := 0) 0 0 2 (fun q hq hM hS => crV C (as := [aI u3]) dX12_flowOf_86.1 kX12 (shR_0 hX) ml_X12_90 cal_X12_cellAt cv_X12_cellAt (hRm ⟨Nat.le_of_ble_eq_true rfl, Nat.le_of_ble_eq_true rfl⟩) rfl (Nat.le_of_ble_eq_true rfl) (c_X12_cellAt (xl X) (xG X) hX hM ⟨hS.2.1, hS.1, trivial⟩ hq)) (Nat.le_of_ble_eq_true rfl) (Nat.le_of_ble_eq_true rfl) rfl rfl rfl (fun v17 M16 => ?_)
        refine i_iconst C dX12_flowOf_89 kI_1 ?_
        refine i_iadd C dX12_flowOf_90 ?_
        refine i_ald C dX12_flowOf_91 (shR_1 hX) (fun v18 => ?_)
        refine i_goto (tgt := 96) C dX12_flowOf_92 (by decide) ?_
        exact (hj12 v18 M16)
set_option maxRecDepth 100000 in
set_option maxHeartbeats 4000000 in
theorem w_X12_flowOf_105 {X : Xc} (C : Cx X RX12 cX12_flowOf (some .int)) (hX : xK X = kR) (hN : xn X = 6) (hR : xR X = rmX12_flowOf) {res : Int × Mem} (hq : Rq X (some (aI res.1)) res.2) (y2 : Int) {k222 : Mem → Option (Int × Mem)} (hk222 : ∀ (M : Mem), Im X 0 0 222 [(0, aR 0)] [] M res (k222 M)) : ∀ (n : Nat) (u3 : Int) (M : Mem), Im X 0 0 105 [(0, aR 0), (2, aI y2), (3, aI u3)] [] M res (lpX12_flowOf_105 y2 k222 n u3 M) := by
  have hl3 : 3 < xn X := by rw [hN]; decide
  have hl4 : 4 < xn X := by rw [hN]; decide
  have hRm : ∀ {rm : Room} {ny : Nat}, RmOk rmX12_flowOf rm ny → RmOk (xR X) rm ny := fun h => by rw [hR]; exact h
  intro n
  induction n with
  | zero => intro _ _; exact i_none
  | succ n ih =>
    intro u3 M
    unfold lpX12_flowOf_105
    refine i_iload_n C dX12_flowOf_105 rfl (q := 2) rfl ?_
    refine i_aload_n C dX12_flowOf_106 rfl (q := 0) rfl ?_
    refine i_getR C (k := 0) kX12 dX12_flowOf_107 (shR_0 hX) rfl (by decide) fl_X12_7 ?_
    refine i_iconst C dX12_flowOf_110 kI_3 ?_
    refine i_ald C dX12_flowOf_111 (shR_1 hX) (fun v20 => ?_)
    refine i_icmp_ge (tgt := 222) C dX12_flowOf_112 (by decide) ?_ ?_
    · exact i_sub [0] rfl (hk222  M)
    · refine i_aload_n C dX12_flowOf_115 rfl (q := 0) rfl ?_
      refine i_iload_n C dX12_flowOf_116 rfl (q := 2) rfl ?_
      refine i_cI (kc' := 0) (ks' := 0) 0 0 2 (fun q hq hM hS => crV C (as := [aI u3]) dX12_flowOf_117.1 kX12 (shR_0 hX) ml_X12_86 cal_X12_tieAt cv_X12_tieAt (hRm ⟨Nat.le_of_ble_eq_true rfl, Nat.le_of_ble_eq_true rfl⟩) rfl (Nat.le_of_ble_eq_true rfl) (c_X12_tieAt (xl X) (xG X) hX hM ⟨hS.2.1, hS.1, trivial⟩ hq)) (Nat.le_of_ble_eq_true rfl) (Nat.le_of_ble_eq_true rfl) rfl rfl rfl (fun v22 M21 => ?_)
      refine i_istore C dX12_flowOf_120 hl4 (L' := [(0, aR 0), (2, aI y2), (3, aI u3), (4, aI v22)]) rfl ?_
      refine i_aload_n C dX12_flowOf_122 rfl (q := 0) rfl ?_
      refine i_getR C (k := 0) kX12 dX12_flowOf_123 (shR_0 hX) rfl (by decide) fl_X12_7 ?_
      refine i_iload C dX12_flowOf_126 (q := 3) rfl ?_
      refine i_ald C dX12_flowOf_128 (shR_1 hX) (fun v23 => ?_)
      refine i_iconst C dX12_flowOf_129 kI_3 ?_
      refine i_jn (fun j => ∀  (M25 : Mem), Im X 0 0 216 [(0, aR 0), (2, aI y2), (3, aI u3)] [] M25 res (j  M25)) ?_ (fun j24 hj24 => ?_)
      · intro  M25
        refine i_iincN (L' := fun v26 => [(0, aR 0), (2, aI y2), (3, aI v26)]) C dX12_flowOf_216 (q := 2) rfl hl3 (fun _ => rfl) (fun v26 => ?_)
        refine i_goto (tgt := 105) C dX12_flowOf_219 (by decide) ?_
        exact (ih v26 M25)
      refine i_icmp_ne (tgt := 216) C dX12_flowOf_130 (by decide) ?_ ?_
      · exact i_sub [0, 1, 2] rfl (hj24  M21)
      · refine i_iload_n C dX12_flowOf_133 rfl (q := 2) rfl ?_
        refine i_iload_n C dX12_flowOf_134 rfl (q := 1) rfl ?_
        refine i_icmp_eq (tgt := 216) C dX12_flowOf_135 (by decide) ?_ ?_
        · exact i_sub [0, 1, 2] rfl (hj24  M21)
        · refine i_aload_n C dX12_flowOf_138 rfl (q := 0) rfl ?_
          refine i_getR C (k := 23) kX12 dX12_flowOf_139 (shR_0 hX) rfl (by decide) fl_X12_44 ?_
          refine i_bipush C dX12_flowOf_142 kB_18 ?_
          refine i_aload_n C dX12_flowOf_144 rfl (q := 0) rfl ?_
          refine i_getR C (k := 0) kX12 dX12_flowOf_145 (shR_0 hX) rfl (by decide) fl_X12_7 ?_
          refine i_iload C dX12_flowOf_148 (q := 3) rfl ?_
          refine i_iconst C dX12_flowOf_150 kI_1 ?_
          refine i_iadd C dX12_flowOf_151 ?_
          refine i_ald C dX12_flowOf_152 (shR_1 hX) (fun v27 => ?_)
          refine i_imul C dX12_flowOf_153 ?_
          refine i_aload_n C dX12_flowOf_154 rfl (q := 0) rfl ?_
          refine i_getR C (k := 0) kX12 dX12_flowOf_155 (shR_0 hX) rfl (by decide) fl_X12_7 ?_
          refine i_iload C dX12_flowOf_158 (q := 3) rfl ?_
          refine i_iconst C dX12_flowOf_160 kI_2 ?_
          refine i_iadd C dX12_flowOf_161 ?_
          refine i_ald C dX12_flowOf_162 (shR_1 hX) (fun v28 => ?_)
          refine i_iadd C dX12_flowOf_163 ?_
          refine i_dup2 C dX12_flowOf_164 rfl rfl ?_
          refine i_ald C dX12_flowOf_165 (shR_11 hX) (fun v29 => ?_)
          refine i_aload_n C dX12_flowOf_166 rfl (q := 0) rfl ?_
          refine i_getR C (k := 0) kX12 dX12_flowOf_167 (shR_0 hX) rfl (by decide) fl_X12_7 ?_
          refine i_iload C dX12_flowOf_170 (q := 3) rfl ?_
          refine i_iconst C dX12_flowOf_172 kI_3 ?_
          refine i_iadd C dX12_flowOf_173 ?_
          refine i_ald C dX12_flowOf_174 (shR_1 hX) (fun v30 => ?_)
          refine i_iadd C dX12_flowOf_175 ?_
          refine i_ast C dX12_flowOf_176 (shR_11 hX) (fun M31 => ?_)
          refine i_aload_n C dX12_flowOf_177 rfl (q := 0) rfl ?_
          refine i_getR C (k := 23) kX12 dX12_flowOf_178 (shR_0 hX) rfl (by decide) fl_X12_44 ?_
          refine i_bipush C dX12_flowOf_181 kB_18 ?_
          refine i_aload_n C dX12_flowOf_183 rfl (q := 0) rfl ?_
          refine i_getR C (k := 0) kX12 dX12_flowOf_184 (shR_0 hX) rfl (by decide) fl_X12_7 ?_
          refine i_iload C dX12_flowOf_187 (q := 3) rfl ?_
          refine i_iconst C dX12_flowOf_189 kI_2 ?_
          refine i_iadd C dX12_flowOf_190 ?_
          refine i_ald C dX12_flowOf_191 (shR_1 hX) (fun v32 => ?_)
          refine i_imul C dX12_flowOf_192 ?_
          refine i_aload_n C dX12_flowOf_193 rfl (q := 0) rfl ?_
          refine i_getR C (k := 0) kX12 dX12_flowOf_194 (shR_0 hX) rfl (by decide) fl_X12_7 ?_
          refine i_iload C dX12_flowOf_197 (q := 3) rfl ?_
          refine i_iconst C dX12_flowOf_199 kI_1 ?_
          refine i_iadd C dX12_flowOf_200 ?_
          refine i_ald C dX12_flowOf_201 (shR_1 hX) (fun v33 => ?_)
          refine i_iadd C dX12_flowOf_202 ?_
          refine i_dup2 C dX12_flowOf_203 rfl rfl ?_
          refine i_ald C dX12_flowOf_204 (shR_11 hX) (fun v34 => ?_)
          refine i_aload_n C dX12_flowOf_205 rfl (q := 0) rfl ?_
          refine i_getR C (k := 0) kX12 dX12_flowOf_206 (shR_0 hX) rfl (by decide) fl_X12_7 ?_
          refine i_iload C dX12_flowOf_209 (q := 3) rfl ?_
          refine i_iconst C dX12_flowOf_211 kI_3 ?_
          refine i_iadd C dX12_flowOf_212 ?_
          refine i_ald C dX12_flowOf_213 (shR_1 hX) (fun v35 => ?_)
          refine i_iadd C dX12_flowOf_214 ?_
          refine i_ast C dX12_flowOf_215 (shR_11 hX) (fun M36 => ?_)
          exact i_sub [0, 1, 2] rfl (hj24  M36)
set_option maxRecDepth 100000 in
set_option maxHeartbeats 4000000 in
theorem w_X12_flowOf_240 {X : Xc} (C : Cx X RX12 cX12_flowOf (some .int)) (hX : xK X = kR) (hN : xn X = 6) (hR : xR X = rmX12_flowOf) {res : Int × Mem} (hq : Rq X (some (aI res.1)) res.2) (y3 : Int) {k284 : Int → Mem → Option (Int × Mem)} (hk284 : ∀ (q4 : Int) (M : Mem), Im X 0 0 284 [(0, aR 0), (3, aI y3), (4, aI q4)] [] M res (k284 q4 M)) : ∀ (n : Nat) (u4 : Int) (u5 : Int) (M : Mem), Im X 0 0 240 [(0, aR 0), (3, aI y3), (4, aI u4), (5, aI u5)] [] M res (lpX12_flowOf_240 y3 k284 n u4 u5 M) := by
  have hl3 : 3 < xn X := by rw [hN]; decide
  have hl4 : 4 < xn X := by rw [hN]; decide
  have hl5 : 5 < xn X := by rw [hN]; decide
  have hRm : ∀ {rm : Room} {ny : Nat}, RmOk rmX12_flowOf rm ny → RmOk (xR X) rm ny := fun h => by rw [hR]; exact h
  intro n
  induction n with
  | zero => intro _ _ _; exact i_none
  | succ n ih =>
    intro u4 u5 M
    unfold lpX12_flowOf_240
    refine i_iload C dX12_flowOf_240 (q := 3) rfl ?_
    refine i_bipush C dX12_flowOf_242 kB_16 ?_
    refine i_icmp_eq (tgt := 284) C dX12_flowOf_244 (by decide) ?_ ?_
    · exact i_sub [0, 1, 2] rfl (hk284 u4 M)
    · refine i_iload C dX12_flowOf_247 (q := 2) rfl ?_
      refine i_aload_n C dX12_flowOf_249 rfl (q := 0) rfl ?_
      refine i_getR C (k := 23) kX12 dX12_flowOf_250 (shR_0 hX) rfl (by decide) fl_X12_44 ?_
      refine i_bipush C dX12_flowOf_253 kB_18 ?_
      refine i_aload_n C dX12_flowOf_255 rfl (q := 0) rfl ?_
      refine i_getR C (k := 24) kX12 dX12_flowOf_256 (shR_0 hX) rfl (by decide) fl_X12_47 ?_
      refine i_iload C dX12_flowOf_259 (q := 3) rfl ?_
      refine i_ald C dX12_flowOf_261 (shR_12 hX) (fun v40 => ?_)
      refine i_imul C dX12_flowOf_262 ?_
      refine i_iload C dX12_flowOf_263 (q := 3) rfl ?_
      refine i_iadd C dX12_flowOf_265 ?_
      refine i_ald C dX12_flowOf_266 (shR_11 hX) (fun v41 => ?_)
      refine i_cI (kc' := 0) (ks' := 0) 0 0 2 (fun q hq hM hS => crS C (as := [aI u4, aI v41]) dX12_flowOf_267.1 ml_X12_164 cal_X12_least st_X12_least (hRm ⟨Nat.le_of_ble_eq_true rfl, Nat.le_of_ble_eq_true rfl⟩) rfl (Nat.le_of_ble_eq_true rfl) (c_X12_least (xl X) (xG X) hX hM ⟨hS.2.1, hS.1, trivial⟩ hq)) (Nat.le_of_ble_eq_true rfl) (Nat.le_of_ble_eq_true rfl) rfl rfl rfl (fun v43 M42 => ?_)
      refine i_istore C dX12_flowOf_270 hl4 (L' := [(0, aR 0), (3, aI y3), (4, aI v43), (5, aI u5)]) rfl ?_
      refine i_aload_n C dX12_flowOf_272 rfl (q := 0) rfl ?_
      refine i_getR C (k := 24) kX12 dX12_flowOf_273 (shR_0 hX) rfl (by decide) fl_X12_47 ?_
      refine i_iload C dX12_flowOf_276 (q := 3) rfl ?_
      refine i_ald C dX12_flowOf_278 (shR_12 hX) (fun v44 => ?_)
      refine i_istore C dX12_flowOf_279 hl5 (L' := [(0, aR 0), (3, aI y3), (4, aI v43), (5, aI v44)]) rfl ?_
      refine i_goto (tgt := 240) C dX12_flowOf_281 (by decide) ?_
      exact (ih v43 v44 M42)
set_option maxRecDepth 100000 in
set_option maxHeartbeats 4000000 in
theorem w_X12_flowOf_288 {X : Xc} (C : Cx X RX12 cX12_flowOf (some .int)) (hX : xK X = kR) (hN : xn X = 6) (hR : xR X = rmX12_flowOf) {res : Int × Mem} (hq : Rq X (some (aI res.1)) res.2) (y3 : Int) (y4 : Int) {k353 : Mem → Option (Int × Mem)} (hk353 : ∀ (M : Mem), Im X 0 0 353 [(0, aR 0), (3, aI y3), (4, aI y4)] [] M res (k353 M)) : ∀ (n : Nat) (u5 : Int) (M : Mem), Im X 0 0 288 [(0, aR 0), (3, aI y3), (4, aI y4), (5, aI u5)] [] M res (lpX12_flowOf_288 y3 y4 k353 n u5 M) := by
  have hl3 : 3 < xn X := by rw [hN]; decide
  have hl4 : 4 < xn X := by rw [hN]; decide
  have hl5 : 5 < xn X := by rw [hN]; decide
  have hRm : ∀ {rm : Room} {ny : Nat}, RmOk rmX12_flowOf rm ny → RmOk (xR X) rm ny := fun h => by rw [hR]; exact h
  intro n
  induction n with
  | zero => intro _ _; exact i_none
  | succ n ih =>
    intro u5 M
    unfold lpX12_flowOf_288
    refine i_iload C dX12_flowOf_288 (q := 3) rfl ?_
    refine i_bipush C dX12_flowOf_290 kB_16 ?_
    refine i_icmp_eq (tgt := 353) C dX12_flowOf_292 (by decide) ?_ ?_
    · exact i_sub [0, 1, 2] rfl (hk353  M)
    · refine i_aload_n C dX12_flowOf_295 rfl (q := 0) rfl ?_
      refine i_getR C (k := 23) kX12 dX12_flowOf_296 (shR_0 hX) rfl (by decide) fl_X12_44 ?_
      refine i_bipush C dX12_flowOf_299 kB_18 ?_
      refine i_aload_n C dX12_flowOf_301 rfl (q := 0) rfl ?_
      refine i_getR C (k := 24) kX12 dX12_flowOf_302 (shR_0 hX) rfl (by decide) fl_X12_47 ?_
      refine i_iload C dX12_flowOf_305 (q := 3) rfl ?_
      refine i_ald C dX12_flowOf_307 (shR_12 hX) (fun v47 => ?_)
      refine i_imul C dX12_flowOf_308 ?_
      refine i_iload C dX12_flowOf_309 (q := 3) rfl ?_
      refine i_iadd C dX12_flowOf_311 ?_
      refine i_dup2 C dX12_flowOf_312 rfl rfl ?_
      refine i_ald C dX12_flowOf_313 (shR_11 hX) (fun v48 => ?_)
      refine i_iload C dX12_flowOf_314 (q := 2) rfl ?_
      refine i_isub C dX12_flowOf_316 ?_
      refine i_ast C dX12_flowOf_317 (shR_11 hX) (fun M49 => ?_)
      refine i_aload_n C dX12_flowOf_318 rfl (q := 0) rfl ?_
      refine i_getR C (k := 23) kX12 dX12_flowOf_319 (shR_0 hX) rfl (by decide) fl_X12_44 ?_
      refine i_bipush C dX12_flowOf_322 kB_18 ?_
      refine i_iload C dX12_flowOf_324 (q := 3) rfl ?_
      refine i_imul C dX12_flowOf_326 ?_
      refine i_aload_n C dX12_flowOf_327 rfl (q := 0) rfl ?_
      refine i_getR C (k := 24) kX12 dX12_flowOf_328 (shR_0 hX) rfl (by decide) fl_X12_47 ?_
      refine i_iload C dX12_flowOf_331 (q := 3) rfl ?_
      refine i_ald C dX12_flowOf_333 (shR_12 hX) (fun v50 => ?_)
      refine i_iadd C dX12_flowOf_334 ?_
      refine i_dup2 C dX12_flowOf_335 rfl rfl ?_
      refine i_ald C dX12_flowOf_336 (shR_11 hX) (fun v51 => ?_)
      refine i_iload C dX12_flowOf_337 (q := 2) rfl ?_
      refine i_iadd C dX12_flowOf_339 ?_
      refine i_ast C dX12_flowOf_340 (shR_11 hX) (fun M52 => ?_)
      refine i_aload_n C dX12_flowOf_341 rfl (q := 0) rfl ?_
      refine i_getR C (k := 24) kX12 dX12_flowOf_342 (shR_0 hX) rfl (by decide) fl_X12_47 ?_
      refine i_iload C dX12_flowOf_345 (q := 3) rfl ?_
      refine i_ald C dX12_flowOf_347 (shR_12 hX) (fun v53 => ?_)
      refine i_istore C dX12_flowOf_348 hl5 (L' := [(0, aR 0), (3, aI y3), (4, aI y4), (5, aI v53)]) rfl ?_
      refine i_goto (tgt := 288) C dX12_flowOf_350 (by decide) ?_
      exact (ih v53 M52)
set_option maxRecDepth 100000 in
set_option maxHeartbeats 4000000 in
theorem w_X12_flowOf_224 {X : Xc} (C : Cx X RX12 cX12_flowOf (some .int)) (hX : xK X = kR) (hN : xn X = 6) (hR : xR X = rmX12_flowOf) {res : Int × Mem} (hq : Rq X (some (aI res.1)) res.2) : ∀ (n : Nat) (u3 : Int) (M : Mem), Im X 0 0 224 [(0, aR 0), (3, aI u3)] [] M res (lpX12_flowOf_224 n u3 M) := by
  have hl3 : 3 < xn X := by rw [hN]; decide
  have hl4 : 4 < xn X := by rw [hN]; decide
  have hl5 : 5 < xn X := by rw [hN]; decide
  have hRm : ∀ {rm : Room} {ny : Nat}, RmOk rmX12_flowOf rm ny → RmOk (xR X) rm ny := fun h => by rw [hR]; exact h
  intro n
  induction n with
  | zero => intro _ _; exact i_none
  | succ n ih =>
    intro u3 M
    unfold lpX12_flowOf_224
    refine i_aload_n C dX12_flowOf_224 rfl (q := 0) rfl ?_
    refine i_cI (kc' := 0) (ks' := 0) 0 0 1 (fun q hq hM hS => crV C (as := []) dX12_flowOf_225.1 kX12 (shR_0 hX) ml_X12_338 cal_X12_findWay cv_X12_findWay (hRm ⟨Nat.le_of_ble_eq_true rfl, Nat.le_of_ble_eq_true rfl⟩) rfl (Nat.le_of_ble_eq_true rfl) (c_X12_findWay (xl X) (xG X) hX hM ⟨hS.1, trivial⟩ hq)) (Nat.le_of_ble_eq_true rfl) (Nat.le_of_ble_eq_true rfl) rfl rfl rfl (fun v39 M38 => ?_)
    refine i_if_eq (tgt := 361) C dX12_flowOf_228 (by decide) ?_ ?_
    · refine i_iload_n C dX12_flowOf_361 rfl (q := 1) rfl ?_
      exact i_iret C hq dX12_flowOf_362
    · refine i_ldc_w C dX12_flowOf_231 kc_X12_341 kI_1000000 ?_
      refine i_istore C dX12_flowOf_234 hl4 (L' := [(0, aR 0), (3, aI u3), (4, aI 1000000)]) rfl ?_
      refine i_bipush C dX12_flowOf_236 kB_17 ?_
      refine i_istore C dX12_flowOf_238 hl5 (L' := [(0, aR 0), (3, aI u3), (4, aI 1000000), (5, aI 17)]) rfl ?_
      refine (w_X12_flowOf_240 C hX hN hR hq u3 (fun v45 M46 => ?_) FU 1000000 17 M38)
      refine i_bipush C dX12_flowOf_284 kB_17 ?_
      refine i_istore C dX12_flowOf_286 hl5 (L' := [(0, aR 0), (3, aI u3), (4, aI v45), (5, aI 17)]) rfl ?_
      refine (w_X12_flowOf_288 C hX hN hR hq u3 v45 (fun M54 => ?_) FU 17 M46)
      refine i_iload_n C dX12_flowOf_353 rfl (q := 1) rfl ?_
      refine i_iload C dX12_flowOf_354 (q := 2) rfl ?_
      refine i_iadd C dX12_flowOf_356 ?_
      refine i_nm (fun v55 => ?_)
      refine i_istore_n C dX12_flowOf_357 rfl hl3 (L' := [(0, aR 0), (3, aI v55), (4, aI v45)]) rfl ?_
      refine i_goto (tgt := 224) C dX12_flowOf_358 (by decide) ?_
      exact i_sub [0, 1] rfl (ih v55 M54)
set_option maxRecDepth 100000 in
set_option maxHeartbeats 4000000 in
theorem c_X12_flowOf (l : Launch) (G : Gx) {K : Kx} (hK : K = kR) {x1 : Int} {x2 : Int} {M : Mem} {res : Int × Mem} (hM : OkM M) (ha : okS [aR 0, aI x1, aI x2]) (hF : rM_flowOf x1 x2 M = some res) : Ct l G K yX12_flowOf (wsM yX12_flowOf cX12_flowOf 6 (some .int)) rmX12_flowOf [aR 0, aI x1, aI x2] M (some (aI res.1)) res.2 := by
  refine ct_of RX12 (by decide +kernel) rfl (hK ▸ kR_ok) hM ha (Nat.le_of_ble_eq_true rfl) hF ?_
  intro X C hl hG hX0 hN hR hq
  have hX : xK X = kR := hX0.trans hK
  show Im X 0 0 0 [(0, aR 0), (1, aI x1), (2, aI x2)] [] M res (rM_flowOf x1 x2 M)
  unfold rM_flowOf
  have hl3 : 3 < xn X := by rw [hN]; decide
  have hl4 : 4 < xn X := by rw [hN]; decide
  have hl5 : 5 < xn X := by rw [hN]; decide
  have hRm : ∀ {rm : Room} {ny : Nat}, RmOk rmX12_flowOf rm ny → RmOk (xR X) rm ny := fun h => by rw [hR]; exact h
  refine i_iconst C dX12_flowOf_0 kI_0 ?_
  refine i_istore_n C dX12_flowOf_1 rfl hl3 (L' := [(0, aR 0), (1, aI x1), (2, aI x2), (3, aI 0)]) rfl ?_
  refine (w_X12_flowOf_2 C hX hN hR hq x1 x2 (fun M3 => ?_) FU 0 M)
  refine i_iconst C dX12_flowOf_22 kI_0 ?_
  refine i_istore_n C dX12_flowOf_23 rfl hl3 (L' := [(0, aR 0), (1, aI x1), (2, aI x2), (3, aI 0)]) rfl ?_
  refine (w_X12_flowOf_24 C hX hN hR hq x1 x2 (fun M19 => ?_) FU 0 M3)
  refine i_iconst C dX12_flowOf_103 kI_0 ?_
  refine i_istore_n C dX12_flowOf_104 rfl hl3 (L' := [(0, aR 0), (2, aI x2), (3, aI 0)]) rfl ?_
  refine (w_X12_flowOf_105 C hX hN hR hq x2 (fun M37 => ?_) FU 0 M19)
  refine i_iconst C dX12_flowOf_222 kI_0 ?_
  refine i_istore_n C dX12_flowOf_223 rfl hl3 (L' := [(0, aR 0), (3, aI 0)]) rfl ?_
  exact (w_X12_flowOf_224 C hX hN hR hq FU 0 M37)
set_option maxRecDepth 100000 in
set_option maxHeartbeats 4000000 in
theorem c_X12_flow (l : Launch) (G : Gx) {K : Kx} (hK : K = kR) {x1 : Int} {M : Mem} {res : Int × Mem} (hM : OkM M) (ha : okS [aR 0, aI x1]) (hF : rM_flow x1 M = some res) : Ct l G K yX12_flow (wsM yX12_flow cX12_flow 2 (some .int)) rmX12_flow [aR 0, aI x1] M (some (aI res.1)) res.2 := by
  refine ct_of RX12 (by decide +kernel) rfl (hK ▸ kR_ok) hM ha (Nat.le_of_ble_eq_true rfl) hF ?_
  intro X C hl hG hX0 hN hR hq
  have hX : xK X = kR := hX0.trans hK
  show Im X 0 0 0 [(0, aR 0), (1, aI x1)] [] M res (rM_flow x1 M)
  unfold rM_flow
  have hRm : ∀ {rm : Room} {ny : Nat}, RmOk rmX12_flow rm ny → RmOk (xR X) rm ny := fun h => by rw [hR]; exact h
  refine i_iload_n C dX12_flow_0 rfl (q := 1) rfl ?_
  refine i_i2l C dX12_flow_1 ?_
  refine i_lconst C dX12_flow_2 kL_1 ?_
  refine i_ldc2 C dX12_flow_3 k2_X12_117 kJ_3 ?_
  refine i_cI (kc' := 0) (ks' := 0) 0 0 3 (fun q hq hM hS => crS C (as := [aL x1, aL 1, aL 3]) dX12_flow_6.1 ml_X12_78 cal_X12_isIn st_X12_isIn (hRm ⟨Nat.le_of_ble_eq_true rfl, Nat.le_of_ble_eq_true rfl⟩) rfl (Nat.le_of_ble_eq_true rfl) (c_X12_isIn (xl X) (xG X) hX hM ⟨hS.2.2.1, hS.2.1, hS.1, trivial⟩ hq)) (Nat.le_of_ble_eq_true rfl) (Nat.le_of_ble_eq_true rfl) rfl rfl rfl (fun v2 M1 => ?_)
  refine i_if_eq (tgt := 21) C dX12_flow_9 (by decide) ?_ ?_
  · refine i_ldc C dX12_flow_21 kc_X12_102 kI_m1000000001 ?_
    exact i_iret C hq dX12_flow_23
  · refine i_aload_n C dX12_flow_12 rfl (q := 0) rfl ?_
    refine i_iload_n C dX12_flow_13 rfl (q := 1) rfl ?_
    refine i_iconst C dX12_flow_14 kI_m1 ?_
    refine i_cI (kc' := 0) (ks' := 0) 0 0 3 (fun q hq hM hS => crV C (as := [aI x1, aI (-1)]) dX12_flow_15.1 kX12 (shR_0 hX) ml_X12_342 cal_X12_flowOf cv_X12_flowOf (hRm ⟨Nat.le_of_ble_eq_true rfl, Nat.le_of_ble_eq_true rfl⟩) rfl (Nat.le_of_ble_eq_true rfl) (c_X12_flowOf (xl X) (xG X) hX hM ⟨hS.2.2.1, hS.2.1, hS.1, trivial⟩ hq)) (Nat.le_of_ble_eq_true rfl) (Nat.le_of_ble_eq_true rfl) rfl rfl rfl (fun v4 M3 => ?_)
    refine i_goto (tgt := 23) C dX12_flow_18 (by decide) ?_
    exact i_iret C hq dX12_flow_23
set_option maxRecDepth 100000 in
set_option maxHeartbeats 4000000 in
theorem w_X12_lackOf_5 {X : Xc} (C : Cx X RX12 cX12_lackOf (some .int)) (hX : xK X = kR) (hN : xn X = 5) (hR : xR X = rmX12_lackOf) {res : Int × Mem} (hq : Rq X (some (aI res.1)) res.2) (y1 : Int) (y2 : Int) {k52 : Int → Mem → Option (Int × Mem)} (hk52 : ∀ (q3 : Int) (M : Mem), Im X 0 0 52 [(0, aR 0), (1, aI y1), (2, aI y2), (3, aI q3)] [] M res (k52 q3 M)) : ∀ (n : Nat) (u3 : Int) (u4 : Int) (M : Mem), Im X 0 0 5 [(0, aR 0), (1, aI y1), (2, aI y2), (3, aI u3), (4, aI u4)] [] M res (lpX12_lackOf_5 y1 y2 k52 n u3 u4 M) := by
  have hl3 : 3 < xn X := by rw [hN]; decide
  have hl4 : 4 < xn X := by rw [hN]; decide
  have hRm : ∀ {rm : Room} {ny : Nat}, RmOk rmX12_lackOf rm ny → RmOk (xR X) rm ny := fun h => by rw [hR]; exact h
  intro n
  induction n with
  | zero => intro _ _ _; exact i_none
  | succ n ih =>
    intro u3 u4 M
    unfold lpX12_lackOf_5
    refine i_iload C dX12_lackOf_5 (q := 4) rfl ?_
    refine i_aload_n C dX12_lackOf_7 rfl (q := 0) rfl ?_
    refine i_getR C (k := 0) kX12 dX12_lackOf_8 (shR_0 hX) rfl (by decide) fl_X12_7 ?_
    refine i_iconst C dX12_lackOf_11 kI_1 ?_
    refine i_ald C dX12_lackOf_12 (shR_1 hX) (fun v1 => ?_)
    refine i_icmp_ge (tgt := 52) C dX12_lackOf_13 (by decide) ?_ ?_
    · exact i_sub [0, 1, 2, 3] rfl (hk52 u3 M)
    · refine i_iload_n C dX12_lackOf_16 rfl (q := 3) rfl ?_
      refine i_aload_n C dX12_lackOf_17 rfl (q := 0) rfl ?_
      refine i_iload C dX12_lackOf_18 (q := 4) rfl ?_
      refine i_cI (kc' := 0) (ks' := 0) 0 0 2 (fun q hq hM hS => crV C (as := [aI u4]) dX12_lackOf_20.1 kX12 (shR_0 hX) ml_X12_96 cal_X12_sideOf cv_X12_sideOf (hRm ⟨Nat.le_of_ble_eq_true rfl, Nat.le_of_ble_eq_true rfl⟩) rfl (Nat.le_of_ble_eq_true rfl) (c_X12_sideOf (xl X) (xG X) hX hM ⟨hS.2.1, hS.1, trivial⟩ hq)) (Nat.le_of_ble_eq_true rfl) (Nat.le_of_ble_eq_true rfl) rfl rfl rfl (fun v3 M2 => ?_)
      refine i_iload_n C dX12_lackOf_23 rfl (q := 1) rfl ?_
      refine i_jn (fun j => ∀ (p4 : Int) (M6 : Mem), Im X 0 0 44 [(0, aR 0), (1, aI y1), (2, aI y2), (4, aI u4)] [aI p4, aI u3] M6 res (j p4 M6)) ?_ (fun j5 hj5 => ?_)
      · intro p4 M6
        refine i_iadd C dX12_lackOf_44 ?_
        refine i_nm (fun v7 => ?_)
        refine i_istore_n C dX12_lackOf_45 rfl hl3 (L' := [(0, aR 0), (1, aI y1), (2, aI y2), (3, aI v7), (4, aI u4)]) rfl ?_
        refine i_iincN (L' := fun v8 => [(0, aR 0), (1, aI y1), (2, aI y2), (3, aI v7), (4, aI v8)]) C dX12_lackOf_46 (q := 4) rfl hl4 (fun _ => rfl) (fun v8 => ?_)
        refine i_goto (tgt := 5) C dX12_lackOf_49 (by decide) ?_
        exact (ih v7 v8 M6)
      refine i_icmp_ne (tgt := 43) C dX12_lackOf_24 (by decide) ?_ ?_
      · refine i_iconst C dX12_lackOf_43 kI_0 ?_
        exact i_sub [0, 1, 2, 4] rfl (hj5 0 M2)
      · refine i_aload_n C dX12_lackOf_27 rfl (q := 0) rfl ?_
        refine i_getR C (k := 0) kX12 dX12_lackOf_28 (shR_0 hX) rfl (by decide) fl_X12_7 ?_
        refine i_aload_n C dX12_lackOf_31 rfl (q := 0) rfl ?_
        refine i_iload C dX12_lackOf_32 (q := 4) rfl ?_
        refine i_cI (kc' := 0) (ks' := 0) 0 0 2 (fun q hq hM hS => crV C (as := [aI u4]) dX12_lackOf_34.1 kX12 (shR_0 hX) ml_X12_90 cal_X12_cellAt cv_X12_cellAt (hRm ⟨Nat.le_of_ble_eq_true rfl, Nat.le_of_ble_eq_true rfl⟩) rfl (Nat.le_of_ble_eq_true rfl) (c_X12_cellAt (xl X) (xG X) hX hM ⟨hS.2.1, hS.1, trivial⟩ hq)) (Nat.le_of_ble_eq_true rfl) (Nat.le_of_ble_eq_true rfl) rfl rfl rfl (fun v10 M9 => ?_)
        refine i_iconst C dX12_lackOf_37 kI_1 ?_
        refine i_iadd C dX12_lackOf_38 ?_
        refine i_ald C dX12_lackOf_39 (shR_1 hX) (fun v11 => ?_)
        refine i_goto (tgt := 44) C dX12_lackOf_40 (by decide) ?_
        exact i_sub [0, 1, 2, 4] rfl (hj5 v11 M9)
set_option maxRecDepth 100000 in
set_option maxHeartbeats 4000000 in
theorem c_X12_lackOf (l : Launch) (G : Gx) {K : Kx} (hK : K = kR) {x1 : Int} {x2 : Int} {M : Mem} {res : Int × Mem} (hM : OkM M) (ha : okS [aR 0, aI x1, aI x2]) (hF : rM_lackOf x1 x2 M = some res) : Ct l G K yX12_lackOf (wsM yX12_lackOf cX12_lackOf 5 (some .int)) rmX12_lackOf [aR 0, aI x1, aI x2] M (some (aI res.1)) res.2 := by
  refine ct_of RX12 (by decide +kernel) rfl (hK ▸ kR_ok) hM ha (Nat.le_of_ble_eq_true rfl) hF ?_
  intro X C hl hG hX0 hN hR hq
  have hX : xK X = kR := hX0.trans hK
  show Im X 0 0 0 [(0, aR 0), (1, aI x1), (2, aI x2)] [] M res (rM_lackOf x1 x2 M)
  unfold rM_lackOf
  have hl3 : 3 < xn X := by rw [hN]; decide
  have hl4 : 4 < xn X := by rw [hN]; decide
  have hRm : ∀ {rm : Room} {ny : Nat}, RmOk rmX12_lackOf rm ny → RmOk (xR X) rm ny := fun h => by rw [hR]; exact h
  refine i_iconst C dX12_lackOf_0 kI_0 ?_
  refine i_istore_n C dX12_lackOf_1 rfl hl3 (L' := [(0, aR 0), (1, aI x1), (2, aI x2), (3, aI 0)]) rfl ?_
  refine i_iconst C dX12_lackOf_2 kI_0 ?_
  refine i_istore C dX12_lackOf_3 hl4 (L' := [(0, aR 0), (1, aI x1), (2, aI x2), (3, aI 0), (4, aI 0)]) rfl ?_
  refine (w_X12_lackOf_5 C hX hN hR hq x1 x2 (fun v12 M13 => ?_) FU 0 0 M)
  refine i_iload_n C dX12_lackOf_52 rfl (q := 3) rfl ?_
  refine i_aload_n C dX12_lackOf_53 rfl (q := 0) rfl ?_
  refine i_iconst C dX12_lackOf_54 kI_1 ?_
  refine i_iload_n C dX12_lackOf_55 rfl (q := 1) rfl ?_
  refine i_ishl C dX12_lackOf_56 ?_
  refine i_iload_n C dX12_lackOf_57 rfl (q := 2) rfl ?_
  refine i_cI (kc' := 0) (ks' := 0) 0 0 3 (fun q hq hM hS => crV C (as := [aI (bShl 1 x1), aI x2]) dX12_lackOf_58.1 kX12 (shR_0 hX) ml_X12_342 cal_X12_flowOf cv_X12_flowOf (hRm ⟨Nat.le_of_ble_eq_true rfl, Nat.le_of_ble_eq_true rfl⟩) rfl (Nat.le_of_ble_eq_true rfl) (c_X12_flowOf (xl X) (xG X) hX hM ⟨hS.2.2.1, hS.2.1, hS.1, trivial⟩ hq)) (Nat.le_of_ble_eq_true rfl) (Nat.le_of_ble_eq_true rfl) rfl rfl rfl (fun v15 M14 => ?_)
  refine i_isub C dX12_lackOf_61 ?_
  exact i_iret C hq dX12_lackOf_62
set_option maxRecDepth 100000 in
set_option maxHeartbeats 4000000 in
theorem c_X12_lack (l : Launch) (G : Gx) {K : Kx} (hK : K = kR) {x1 : Int} {M : Mem} {res : Int × Mem} (hM : OkM M) (ha : okS [aR 0, aI x1]) (hF : rM_lack x1 M = some res) : Ct l G K yX12_lack (wsM yX12_lack cX12_lack 2 (some .int)) rmX12_lack [aR 0, aI x1] M (some (aI res.1)) res.2 := by
  refine ct_of RX12 (by decide +kernel) rfl (hK ▸ kR_ok) hM ha (Nat.le_of_ble_eq_true rfl) hF ?_
  intro X C hl hG hX0 hN hR hq
  have hX : xK X = kR := hX0.trans hK
  show Im X 0 0 0 [(0, aR 0), (1, aI x1)] [] M res (rM_lack x1 M)
  unfold rM_lack
  have hRm : ∀ {rm : Room} {ny : Nat}, RmOk rmX12_lack rm ny → RmOk (xR X) rm ny := fun h => by rw [hR]; exact h
  refine i_iload_n C dX12_lack_0 rfl (q := 1) rfl ?_
  refine i_cI (kc' := 0) (ks' := 0) 0 0 1 (fun q hq hM hS => crS C (as := [aI x1]) dX12_lack_1.1 ml_X12_99 cal_X12_isSide st_X12_isSide (hRm ⟨Nat.le_of_ble_eq_true rfl, Nat.le_of_ble_eq_true rfl⟩) rfl (Nat.le_of_ble_eq_true rfl) (c_X12_isSide (xl X) (xG X) hX hM ⟨hS.1, trivial⟩ hq)) (Nat.le_of_ble_eq_true rfl) (Nat.le_of_ble_eq_true rfl) rfl rfl rfl (fun v2 M1 => ?_)
  refine i_if_eq (tgt := 16) C dX12_lack_4 (by decide) ?_ ?_
  · refine i_ldc C dX12_lack_16 kc_X12_102 kI_m1000000001 ?_
    exact i_iret C hq dX12_lack_18
  · refine i_aload_n C dX12_lack_7 rfl (q := 0) rfl ?_
    refine i_iload_n C dX12_lack_8 rfl (q := 1) rfl ?_
    refine i_iconst C dX12_lack_9 kI_m1 ?_
    refine i_cI (kc' := 0) (ks' := 0) 0 0 3 (fun q hq hM hS => crV C (as := [aI x1, aI (-1)]) dX12_lack_10.1 kX12 (shR_0 hX) ml_X12_345 cal_X12_lackOf cv_X12_lackOf (hRm ⟨Nat.le_of_ble_eq_true rfl, Nat.le_of_ble_eq_true rfl⟩) rfl (Nat.le_of_ble_eq_true rfl) (c_X12_lackOf (xl X) (xG X) hX hM ⟨hS.2.2.1, hS.2.1, hS.1, trivial⟩ hq)) (Nat.le_of_ble_eq_true rfl) (Nat.le_of_ble_eq_true rfl) rfl rfl rfl (fun v4 M3 => ?_)
    refine i_goto (tgt := 18) C dX12_lack_13 (by decide) ?_
    exact i_iret C hq dX12_lack_18
set_option maxRecDepth 100000 in
set_option maxHeartbeats 4000000 in
theorem c_X12_need (l : Launch) (G : Gx) {K : Kx} (hK : K = kR) {x1 : Int} {x2 : Int} {M : Mem} {res : Int × Mem} (hM : OkM M) (ha : okS [aR 0, aI x1, aI x2]) (hF : rM_need x1 x2 M = some res) : Ct l G K yX12_need (wsM yX12_need cX12_need 3 (some .int)) rmX12_need [aR 0, aI x1, aI x2] M (some (aI res.1)) res.2 := by
  refine ct_of RX12 (by decide +kernel) rfl (hK ▸ kR_ok) hM ha (Nat.le_of_ble_eq_true rfl) hF ?_
  intro X C hl hG hX0 hN hR hq
  have hX : xK X = kR := hX0.trans hK
  show Im X 0 0 0 [(0, aR 0), (1, aI x1), (2, aI x2)] [] M res (rM_need x1 x2 M)
  unfold rM_need
  have hRm : ∀ {rm : Room} {ny : Nat}, RmOk rmX12_need rm ny → RmOk (xR X) rm ny := fun h => by rw [hR]; exact h
  refine i_aload_n C dX12_need_0 rfl (q := 0) rfl ?_
  refine i_iload_n C dX12_need_1 rfl (q := 1) rfl ?_
  refine i_cI (kc' := 0) (ks' := 0) 0 0 2 (fun q hq hM hS => crV C (as := [aI x1]) dX12_need_2.1 kX12 (shR_0 hX) ml_X12_82 cal_X12_isTie cv_X12_isTie (hRm ⟨Nat.le_of_ble_eq_true rfl, Nat.le_of_ble_eq_true rfl⟩) rfl (Nat.le_of_ble_eq_true rfl) (c_X12_isTie (xl X) (xG X) hX hM ⟨hS.2.1, hS.1, trivial⟩ hq)) (Nat.le_of_ble_eq_true rfl) (Nat.le_of_ble_eq_true rfl) rfl rfl rfl (fun v2 M1 => ?_)
  refine i_if_eq (tgt := 15) C dX12_need_5 (by decide) ?_ ?_
  · refine i_ldc C dX12_need_15 kc_X12_102 kI_m1000000001 ?_
    exact i_iret C hq dX12_need_17
  · refine i_iload_n C dX12_need_8 rfl (q := 2) rfl ?_
    refine i_cI (kc' := 0) (ks' := 0) 0 0 1 (fun q hq hM hS => crS C (as := [aI x2]) dX12_need_9.1 ml_X12_99 cal_X12_isSide st_X12_isSide (hRm ⟨Nat.le_of_ble_eq_true rfl, Nat.le_of_ble_eq_true rfl⟩) rfl (Nat.le_of_ble_eq_true rfl) (c_X12_isSide (xl X) (xG X) hX hM ⟨hS.1, trivial⟩ hq)) (Nat.le_of_ble_eq_true rfl) (Nat.le_of_ble_eq_true rfl) rfl rfl rfl (fun v4 M3 => ?_)
    refine i_if_ne (tgt := 18) C dX12_need_12 (by decide) ?_ ?_
    · refine i_aload_n C dX12_need_18 rfl (q := 0) rfl ?_
      refine i_getR C (k := 0) kX12 dX12_need_19 (shR_0 hX) rfl (by decide) fl_X12_7 ?_
      refine i_aload_n C dX12_need_22 rfl (q := 0) rfl ?_
      refine i_iload_n C dX12_need_23 rfl (q := 1) rfl ?_
      refine i_cI (kc' := 0) (ks' := 0) 0 0 2 (fun q hq hM hS => crV C (as := [aI x1]) dX12_need_24.1 kX12 (shR_0 hX) ml_X12_86 cal_X12_tieAt cv_X12_tieAt (hRm ⟨Nat.le_of_ble_eq_true rfl, Nat.le_of_ble_eq_true rfl⟩) rfl (Nat.le_of_ble_eq_true rfl) (c_X12_tieAt (xl X) (xG X) hX hM ⟨hS.2.1, hS.1, trivial⟩ hq)) (Nat.le_of_ble_eq_true rfl) (Nat.le_of_ble_eq_true rfl) rfl rfl rfl (fun v6 M5 => ?_)
      refine i_ald C dX12_need_27 (shR_1 hX) (fun v7 => ?_)
      refine i_iconst C dX12_need_28 kI_3 ?_
      refine i_icmp_ne (tgt := 48) C dX12_need_29 (by decide) ?_ ?_
      · refine i_ldc C dX12_need_48 kc_X12_161 kI_m1000000012 ?_
        exact i_iret C hq dX12_need_50
      · refine i_aload_n C dX12_need_32 rfl (q := 0) rfl ?_
        refine i_iload_n C dX12_need_33 rfl (q := 2) rfl ?_
        refine i_iload_n C dX12_need_34 rfl (q := 1) rfl ?_
        refine i_cI (kc' := 0) (ks' := 0) 0 0 3 (fun q hq hM hS => crV C (as := [aI x2, aI x1]) dX12_need_35.1 kX12 (shR_0 hX) ml_X12_345 cal_X12_lackOf cv_X12_lackOf (hRm ⟨Nat.le_of_ble_eq_true rfl, Nat.le_of_ble_eq_true rfl⟩) rfl (Nat.le_of_ble_eq_true rfl) (c_X12_lackOf (xl X) (xG X) hX hM ⟨hS.2.2.1, hS.2.1, hS.1, trivial⟩ hq)) (Nat.le_of_ble_eq_true rfl) (Nat.le_of_ble_eq_true rfl) rfl rfl rfl (fun v9 M8 => ?_)
        refine i_aload_n C dX12_need_38 rfl (q := 0) rfl ?_
        refine i_iload_n C dX12_need_39 rfl (q := 2) rfl ?_
        refine i_iconst C dX12_need_40 kI_m1 ?_
        refine i_cI (kc' := 0) (ks' := 0) 0 0 3 (fun q hq hM hS => crV C (as := [aI x2, aI (-1)]) dX12_need_41.1 kX12 (shR_0 hX) ml_X12_345 cal_X12_lackOf cv_X12_lackOf (hRm ⟨Nat.le_of_ble_eq_true rfl, Nat.le_of_ble_eq_true rfl⟩) rfl (Nat.le_of_ble_eq_true rfl) (c_X12_lackOf (xl X) (xG X) hX hM ⟨hS.2.2.1, hS.2.1, hS.1, trivial⟩ hq)) (Nat.le_of_ble_eq_true rfl) (Nat.le_of_ble_eq_true rfl) rfl rfl rfl (fun v11 M10 => ?_)
        refine i_isub C dX12_need_44 ?_
        refine i_goto (tgt := 50) C dX12_need_45 (by decide) ?_
        exact i_iret C hq dX12_need_50
    · refine i_ldc C dX12_need_15 kc_X12_102 kI_m1000000001 ?_
      exact i_iret C hq dX12_need_17
set_option maxRecDepth 100000 in
set_option maxHeartbeats 4000000 in
theorem c_X12_stop (l : Launch) (G : Gx) {K : Kx} (hK : K = kR) {x1 : Int} {x2 : Int} {x3 : Int} {M : Mem} {res : Int × Mem} (hM : OkM M) (ha : okS [aR 0, aI x1, aI x2, aI x3]) (hF : rM_stop x1 x2 x3 M = some res) : Ct l G K yX12_stop (wsM yX12_stop cX12_stop 5 (some .int)) rmX12_stop [aR 0, aI x1, aI x2, aI x3] M (some (aI res.1)) res.2 := by
  refine ct_of RX12 (by decide +kernel) rfl (hK ▸ kR_ok) hM ha (Nat.le_of_ble_eq_true rfl) hF ?_
  intro X C hl hG hX0 hN hR hq
  have hX : xK X = kR := hX0.trans hK
  show Im X 0 0 0 [(0, aR 0), (1, aI x1), (2, aI x2), (3, aI x3)] [] M res (rM_stop x1 x2 x3 M)
  unfold rM_stop
  have hl4 : 4 < xn X := by rw [hN]; decide
  have hRm : ∀ {rm : Room} {ny : Nat}, RmOk rmX12_stop rm ny → RmOk (xR X) rm ny := fun h => by rw [hR]; exact h
  refine i_aload_n C dX12_stop_0 rfl (q := 0) rfl ?_
  refine i_iload_n C dX12_stop_1 rfl (q := 1) rfl ?_
  refine i_cI (kc' := 0) (ks' := 0) 0 0 2 (fun q hq hM hS => crV C (as := [aI x1]) dX12_stop_2.1 kX12 (shR_0 hX) ml_X12_82 cal_X12_isTie cv_X12_isTie (hRm ⟨Nat.le_of_ble_eq_true rfl, Nat.le_of_ble_eq_true rfl⟩) rfl (Nat.le_of_ble_eq_true rfl) (c_X12_isTie (xl X) (xG X) hX hM ⟨hS.2.1, hS.1, trivial⟩ hq)) (Nat.le_of_ble_eq_true rfl) (Nat.le_of_ble_eq_true rfl) rfl rfl rfl (fun v2 M1 => ?_)
  refine i_if_eq (tgt := 28) C dX12_stop_5 (by decide) ?_ ?_
  · refine i_ldc C dX12_stop_28 kc_X12_102 kI_m1000000001 ?_
    exact i_iret C hq dX12_stop_30
  · refine i_aload_n C dX12_stop_8 rfl (q := 0) rfl ?_
    refine i_iload_n C dX12_stop_9 rfl (q := 2) rfl ?_
    refine i_cI (kc' := 0) (ks' := 0) 0 0 2 (fun q hq hM hS => crV C (as := [aI x2]) dX12_stop_10.1 kX12 (shR_0 hX) ml_X12_104 cal_X12_isCell cv_X12_isCell (hRm ⟨Nat.le_of_ble_eq_true rfl, Nat.le_of_ble_eq_true rfl⟩) rfl (Nat.le_of_ble_eq_true rfl) (c_X12_isCell (xl X) (xG X) hX hM ⟨hS.2.1, hS.1, trivial⟩ hq)) (Nat.le_of_ble_eq_true rfl) (Nat.le_of_ble_eq_true rfl) rfl rfl rfl (fun v4 M3 => ?_)
    refine i_if_eq (tgt := 28) C dX12_stop_13 (by decide) ?_ ?_
    · refine i_ldc C dX12_stop_28 kc_X12_102 kI_m1000000001 ?_
      exact i_iret C hq dX12_stop_30
    · refine i_iload_n C dX12_stop_16 rfl (q := 3) rfl ?_
      refine i_i2l C dX12_stop_17 ?_
      refine i_lconst C dX12_stop_18 kL_0 ?_
      refine i_ldc2 C dX12_stop_19 k2_X12_348 kJ_59 ?_
      refine i_cI (kc' := 0) (ks' := 0) 0 0 3 (fun q hq hM hS => crS C (as := [aL x3, aL 0, aL 59]) dX12_stop_22.1 ml_X12_78 cal_X12_isIn st_X12_isIn (hRm ⟨Nat.le_of_ble_eq_true rfl, Nat.le_of_ble_eq_true rfl⟩) rfl (Nat.le_of_ble_eq_true rfl) (c_X12_isIn (xl X) (xG X) hX hM ⟨hS.2.2.1, hS.2.1, hS.1, trivial⟩ hq)) (Nat.le_of_ble_eq_true rfl) (Nat.le_of_ble_eq_true rfl) rfl rfl rfl (fun v6 M5 => ?_)
      refine i_if_ne (tgt := 31) C dX12_stop_25 (by decide) ?_ ?_
      · refine i_aload_n C dX12_stop_31 rfl (q := 0) rfl ?_
        refine i_getR C (k := 0) kX12 dX12_stop_32 (shR_0 hX) rfl (by decide) fl_X12_7 ?_
        refine i_aload_n C dX12_stop_35 rfl (q := 0) rfl ?_
        refine i_iload_n C dX12_stop_36 rfl (q := 1) rfl ?_
        refine i_cI (kc' := 0) (ks' := 0) 0 0 2 (fun q hq hM hS => crV C (as := [aI x1]) dX12_stop_37.1 kX12 (shR_0 hX) ml_X12_86 cal_X12_tieAt cv_X12_tieAt (hRm ⟨Nat.le_of_ble_eq_true rfl, Nat.le_of_ble_eq_true rfl⟩) rfl (Nat.le_of_ble_eq_true rfl) (c_X12_tieAt (xl X) (xG X) hX hM ⟨hS.2.1, hS.1, trivial⟩ hq)) (Nat.le_of_ble_eq_true rfl) (Nat.le_of_ble_eq_true rfl) rfl rfl rfl (fun v8 M7 => ?_)
        refine i_ald C dX12_stop_40 (shR_1 hX) (fun v9 => ?_)
        refine i_iconst C dX12_stop_41 kI_2 ?_
        refine i_icmp_eq (tgt := 48) C dX12_stop_42 (by decide) ?_ ?_
        · refine i_sipush C dX12_stop_48 kS_630 ?_
          refine i_bipush C dX12_stop_51 kB_17 ?_
          refine i_iload_n C dX12_stop_53 rfl (q := 1) rfl ?_
          refine i_imul C dX12_stop_54 ?_
          refine i_iadd C dX12_stop_55 ?_
          refine i_nm (fun v10 => ?_)
          refine i_istore C dX12_stop_56 hl4 (L' := [(0, aR 0), (1, aI x1), (2, aI x2), (3, aI x3), (4, aI v10)]) rfl ?_
          refine i_aload_n C dX12_stop_58 rfl (q := 0) rfl ?_
          refine i_getR C (k := 0) kX12 dX12_stop_59 (shR_0 hX) rfl (by decide) fl_X12_7 ?_
          refine i_iload C dX12_stop_62 (q := 4) rfl ?_
          refine i_ald C dX12_stop_64 (shR_1 hX) (fun v11 => ?_)
          refine i_bipush C dX12_stop_65 kB_8 ?_
          refine i_icmp_ne (tgt := 73) C dX12_stop_67 (by decide) ?_ ?_
          · refine i_aload_n C dX12_stop_73 rfl (q := 0) rfl ?_
            refine i_getR C (k := 0) kX12 dX12_stop_74 (shR_0 hX) rfl (by decide) fl_X12_7 ?_
            refine i_iload C dX12_stop_77 (q := 4) rfl ?_
            refine i_iconst C dX12_stop_79 kI_1 ?_
            refine i_iadd C dX12_stop_80 ?_
            refine i_iconst C dX12_stop_81 kI_2 ?_
            refine i_aload_n C dX12_stop_82 rfl (q := 0) rfl ?_
            refine i_getR C (k := 0) kX12 dX12_stop_83 (shR_0 hX) rfl (by decide) fl_X12_7 ?_
            refine i_iload C dX12_stop_86 (q := 4) rfl ?_
            refine i_ald C dX12_stop_88 (shR_1 hX) (fun v12 => ?_)
            refine i_imul C dX12_stop_89 ?_
            refine i_iadd C dX12_stop_90 ?_
            refine i_iload_n C dX12_stop_91 rfl (q := 2) rfl ?_
            refine i_ast C dX12_stop_92 (shR_1 hX) (fun M13 => ?_)
            refine i_aload_n C dX12_stop_93 rfl (q := 0) rfl ?_
            refine i_getR C (k := 0) kX12 dX12_stop_94 (shR_0 hX) rfl (by decide) fl_X12_7 ?_
            refine i_iload C dX12_stop_97 (q := 4) rfl ?_
            refine i_iconst C dX12_stop_99 kI_2 ?_
            refine i_iadd C dX12_stop_100 ?_
            refine i_iconst C dX12_stop_101 kI_2 ?_
            refine i_aload_n C dX12_stop_102 rfl (q := 0) rfl ?_
            refine i_getR C (k := 0) kX12 dX12_stop_103 (shR_0 hX) rfl (by decide) fl_X12_7 ?_
            refine i_iload C dX12_stop_106 (q := 4) rfl ?_
            refine i_ald C dX12_stop_108 (shR_1 hX) (fun v14 => ?_)
            refine i_imul C dX12_stop_109 ?_
            refine i_iadd C dX12_stop_110 ?_
            refine i_iload_n C dX12_stop_111 rfl (q := 3) rfl ?_
            refine i_ast C dX12_stop_112 (shR_1 hX) (fun M15 => ?_)
            refine i_aload_n C dX12_stop_113 rfl (q := 0) rfl ?_
            refine i_getR C (k := 0) kX12 dX12_stop_114 (shR_0 hX) rfl (by decide) fl_X12_7 ?_
            refine i_iload C dX12_stop_117 (q := 4) rfl ?_
            refine i_dup2 C dX12_stop_119 rfl rfl ?_
            refine i_ald C dX12_stop_120 (shR_1 hX) (fun v16 => ?_)
            refine i_iconst C dX12_stop_121 kI_1 ?_
            refine i_iadd C dX12_stop_122 ?_
            refine i_ast C dX12_stop_123 (shR_1 hX) (fun M17 => ?_)
            refine i_aload_n C dX12_stop_124 rfl (q := 0) rfl ?_
            refine i_getR C (k := 0) kX12 dX12_stop_125 (shR_0 hX) rfl (by decide) fl_X12_7 ?_
            refine i_iload C dX12_stop_128 (q := 4) rfl ?_
            refine i_ald C dX12_stop_130 (shR_1 hX) (fun v18 => ?_)
            exact i_iret C hq dX12_stop_131
          · refine i_ldc C dX12_stop_70 kc_X12_103 kI_m1000000003 ?_
            exact i_iret C hq dX12_stop_72
        · refine i_ldc C dX12_stop_45 kc_X12_161 kI_m1000000012 ?_
          exact i_iret C hq dX12_stop_47
      · refine i_ldc C dX12_stop_28 kc_X12_102 kI_m1000000001 ?_
        exact i_iret C hq dX12_stop_30
set_option maxRecDepth 100000 in
set_option maxHeartbeats 4000000 in
theorem c_X12_halts (l : Launch) (G : Gx) {K : Kx} (hK : K = kR) {x1 : Int} {x2 : Int} {x3 : Int} {M : Mem} {res : Int × Mem} (hM : OkM M) (ha : okS [aR 0, aI x1, aI x2, aI x3]) (hF : rM_halts x1 x2 x3 M = some res) : Ct l G K yX12_halts (wsM yX12_halts cX12_halts 5 (some .boolean)) rmX12_halts [aR 0, aI x1, aI x2, aI x3] M (some (aI res.1)) res.2 := by
  refine ct_of RX12 (by decide +kernel) rfl (hK ▸ kR_ok) hM ha (Nat.le_of_ble_eq_true rfl) hF ?_
  intro X C hl hG hX0 hN hR hq
  have hX : xK X = kR := hX0.trans hK
  show Im X 0 0 0 [(0, aR 0), (1, aI x1), (2, aI x2), (3, aI x3)] [] M res (rM_halts x1 x2 x3 M)
  unfold rM_halts
  have hl4 : 4 < xn X := by rw [hN]; decide
  have hRm : ∀ {rm : Room} {ny : Nat}, RmOk rmX12_halts rm ny → RmOk (xR X) rm ny := fun h => by rw [hR]; exact h
  refine i_aload_n C dX12_halts_0 rfl (q := 0) rfl ?_
  refine i_aload_n C dX12_halts_1 rfl (q := 0) rfl ?_
  refine i_iload_n C dX12_halts_2 rfl (q := 1) rfl ?_
  refine i_cI (kc' := 0) (ks' := 0) 0 0 2 (fun q hq hM hS => crV C (as := [aI x1]) dX12_halts_3.1 kX12 (shR_0 hX) ml_X12_96 cal_X12_sideOf cv_X12_sideOf (hRm ⟨Nat.le_of_ble_eq_true rfl, Nat.le_of_ble_eq_true rfl⟩) rfl (Nat.le_of_ble_eq_true rfl) (c_X12_sideOf (xl X) (xG X) hX hM ⟨hS.2.1, hS.1, trivial⟩ hq)) (Nat.le_of_ble_eq_true rfl) (Nat.le_of_ble_eq_true rfl) rfl rfl rfl (fun v2 M1 => ?_)
  refine i_iconst C dX12_halts_6 kI_2 ?_
  refine i_cI (kc' := 0) (ks' := 0) 0 0 3 (fun q hq hM hS => crV C (as := [aI v2, aI 2]) dX12_halts_7.1 kX12 (shR_0 hX) ml_X12_321 cal_X12_countsFor cv_X12_countsFor (hRm ⟨Nat.le_of_ble_eq_true rfl, Nat.le_of_ble_eq_true rfl⟩) rfl (Nat.le_of_ble_eq_true rfl) (c_X12_countsFor (xl X) (xG X) hX hM ⟨hS.2.2.1, hS.2.1, hS.1, trivial⟩ hq)) (Nat.le_of_ble_eq_true rfl) (Nat.le_of_ble_eq_true rfl) rfl rfl rfl (fun v4 M3 => ?_)
  refine i_istore C dX12_halts_10 hl4 (L' := [(0, aR 0), (1, aI x1), (2, aI x2), (3, aI x3), (4, aI v4)]) rfl ?_
  refine i_aload_n C dX12_halts_12 rfl (q := 0) rfl ?_
  refine i_getR C (k := 21) kX12 dX12_halts_13 (shR_0 hX) rfl (by decide) fl_X12_38 ?_
  refine i_bipush C dX12_halts_16 kB_105 ?_
  refine i_iload_n C dX12_halts_18 rfl (q := 2) rfl ?_
  refine i_ast C dX12_halts_19 (shR_9 hX) (fun M5 => ?_)
  refine i_aload_n C dX12_halts_20 rfl (q := 0) rfl ?_
  refine i_getR C (k := 21) kX12 dX12_halts_21 (shR_0 hX) rfl (by decide) fl_X12_38 ?_
  refine i_bipush C dX12_halts_24 kB_115 ?_
  refine i_aload_n C dX12_halts_26 rfl (q := 0) rfl ?_
  refine i_iload_n C dX12_halts_27 rfl (q := 1) rfl ?_
  refine i_cI (kc' := 0) (ks' := 0) 0 0 2 (fun q hq hM hS => crV C (as := [aI x1]) dX12_halts_28.1 kX12 (shR_0 hX) ml_X12_96 cal_X12_sideOf cv_X12_sideOf (hRm ⟨Nat.le_of_ble_eq_true rfl, Nat.le_of_ble_eq_true rfl⟩) rfl (Nat.le_of_ble_eq_true rfl) (c_X12_sideOf (xl X) (xG X) hX hM ⟨hS.2.1, hS.1, trivial⟩ hq)) (Nat.le_of_ble_eq_true rfl) (Nat.le_of_ble_eq_true rfl) rfl rfl rfl (fun v7 M6 => ?_)
  refine i_ast C dX12_halts_31 (shR_9 hX) (fun M8 => ?_)
  refine i_aload_n C dX12_halts_32 rfl (q := 0) rfl ?_
  refine i_getR C (k := 21) kX12 dX12_halts_33 (shR_0 hX) rfl (by decide) fl_X12_38 ?_
  refine i_bipush C dX12_halts_36 kB_104 ?_
  refine i_aload_n C dX12_halts_38 rfl (q := 0) rfl ?_
  refine i_getR C (k := 0) kX12 dX12_halts_39 (shR_0 hX) rfl (by decide) fl_X12_7 ?_
  refine i_iconst C dX12_halts_42 kI_0 ?_
  refine i_ald C dX12_halts_43 (shR_1 hX) (fun v9 => ?_)
  refine i_bipush C dX12_halts_44 kB_60 ?_
  refine i_imul C dX12_halts_46 ?_
  refine i_iload_n C dX12_halts_47 rfl (q := 3) rfl ?_
  refine i_iadd C dX12_halts_48 ?_
  refine i_bipush C dX12_halts_49 kB_60 ?_
  refine i_idiv C dX12_halts_51 (by decide) ?_
  refine i_bipush C dX12_halts_52 kB_24 ?_
  refine i_irem C dX12_halts_54 (by decide) ?_
  refine i_ast C dX12_halts_55 (shR_9 hX) (fun M10 => ?_)
  refine i_iload C dX12_halts_56 (q := 4) rfl ?_
  refine i_if_lt (tgt := 70) C dX12_halts_58 (by decide) ?_ ?_
  · refine i_iconst C dX12_halts_70 kI_1 ?_
    refine i_goto (tgt := 75) C dX12_halts_71 (by decide) ?_
    exact i_zret C hq dX12_halts_75 (Or.inr rfl)
  · refine i_aload_n C dX12_halts_61 rfl (q := 0) rfl ?_
    refine i_iload C dX12_halts_62 (q := 4) rfl ?_
    refine i_cI (kc' := 0) (ks' := 0) 0 0 2 (fun q hq hM hS => crV C (as := [aI v4]) dX12_halts_64.1 kX12 (shR_0 hX) ml_X12_328 cal_X12_worked cv_X12_worked (hRm ⟨Nat.le_of_ble_eq_true rfl, Nat.le_of_ble_eq_true rfl⟩) rfl (Nat.le_of_ble_eq_true rfl) (c_X12_worked (xl X) (xG X) hX hM ⟨hS.2.1, hS.1, trivial⟩ hq)) (Nat.le_of_ble_eq_true rfl) (Nat.le_of_ble_eq_true rfl) rfl rfl rfl (fun v12 M11 => ?_)
    refine i_if_eq (tgt := 74) C dX12_halts_67 (by decide) ?_ ?_
    · refine i_iconst C dX12_halts_74 kI_0 ?_
      exact i_zret C hq dX12_halts_75 (Or.inl rfl)
    · refine i_iconst C dX12_halts_70 kI_1 ?_
      refine i_goto (tgt := 75) C dX12_halts_71 (by decide) ?_
      exact i_zret C hq dX12_halts_75 (Or.inr rfl)
set_option maxRecDepth 100000 in
set_option maxHeartbeats 4000000 in
theorem w_X12_train_92 {X : Xc} (C : Cx X RX12 cX12_train (some .int)) (hX : xK X = kR) (hN : xn X = 9) (hR : xR X = rmX12_train) {res : Int × Mem} (hq : Rq X (some (aI res.1)) res.2) (y2 : Int) (y3 : Int) (y4 : Int) (y5 : Int) {k179 : Int → Int → Mem → Option (Int × Mem)} (hk179 : ∀ (q6 : Int) (q7 : Int) (M : Mem), Im X 0 0 179 [(4, aI y4), (6, aI q6), (7, aI q7)] [] M res (k179 q6 q7 M)) : ∀ (n : Nat) (u6 : Int) (u7 : Int) (u8 : Int) (M : Mem), Im X 0 0 92 [(0, aR 0), (2, aI y2), (3, aI y3), (4, aI y4), (5, aI y5), (6, aI u6), (7, aI u7), (8, aI u8)] [] M res (lpX12_train_92 y2 y3 y4 y5 k179 n u6 u7 u8 M) := by
  have hl5 : 5 < xn X := by rw [hN]; decide
  have hl6 : 6 < xn X := by rw [hN]; decide
  have hl7 : 7 < xn X := by rw [hN]; decide
  have hl8 : 8 < xn X := by rw [hN]; decide
  have hRm : ∀ {rm : Room} {ny : Nat}, RmOk rmX12_train rm ny → RmOk (xR X) rm ny := fun h => by rw [hR]; exact h
  intro n
  induction n with
  | zero => intro _ _ _ _; exact i_none
  | succ n ih =>
    intro u6 u7 u8 M
    unfold lpX12_train_92
    refine i_iload C dX12_train_92 (q := 7) rfl ?_
    refine i_iload_n C dX12_train_94 rfl (q := 2) rfl ?_
    refine i_icmp_gt (tgt := 179) C dX12_train_95 (by decide) ?_ ?_
    · exact i_sub [3, 5, 6] rfl (hk179 u6 u7 M)
    · refine i_iload C dX12_train_98 (q := 5) rfl ?_
      refine i_iload C dX12_train_100 (q := 7) rfl ?_
      refine i_iconst C dX12_train_102 kI_1 ?_
      refine i_jn (fun j => ∀ (p14 : Int) (M16 : Mem), Im X 0 0 116 [(0, aR 0), (2, aI y2), (3, aI y3), (4, aI y4), (5, aI y5), (8, aI u8)] [aI p14, aI u6] M16 res (j p14 M16)) ?_ (fun j15 hj15 => ?_)
      · intro p14 M16
        refine i_iadd C dX12_train_116 ?_
        refine i_nm (fun v17 => ?_)
        refine i_istore C dX12_train_117 hl6 (L' := [(0, aR 0), (2, aI y2), (3, aI y3), (4, aI y4), (5, aI y5), (6, aI v17), (8, aI u8)]) rfl ?_
        refine i_iload C dX12_train_119 (q := 5) rfl ?_
        refine i_iload C dX12_train_121 (q := 6) rfl ?_
        refine i_jn (fun j => ∀ (p18 : Int) (M20 : Mem), Im X 0 0 144 [(0, aR 0), (2, aI y2), (3, aI y3), (4, aI y4), (5, aI y5), (8, aI u8)] [aI p18, aI v17] M20 res (j p18 M20)) ?_ (fun j19 hj19 => ?_)
        · intro p18 M20
          refine i_iadd C dX12_train_144 ?_
          refine i_nm (fun v21 => ?_)
          refine i_istore C dX12_train_145 hl6 (L' := [(0, aR 0), (2, aI y2), (3, aI y3), (4, aI y4), (5, aI y5), (6, aI v21), (8, aI u8)]) rfl ?_
          refine i_aload_n C dX12_train_147 rfl (q := 0) rfl ?_
          refine i_aload_n C dX12_train_148 rfl (q := 0) rfl ?_
          refine i_getR C (k := 0) kX12 dX12_train_149 (shR_0 hX) rfl (by decide) fl_X12_7 ?_
          refine i_iload C dX12_train_152 (q := 4) rfl ?_
          refine i_iconst C dX12_train_154 kI_1 ?_
          refine i_iadd C dX12_train_155 ?_
          refine i_iconst C dX12_train_156 kI_2 ?_
          refine i_iload C dX12_train_157 (q := 6) rfl ?_
          refine i_imul C dX12_train_159 ?_
          refine i_iadd C dX12_train_160 ?_
          refine i_ald C dX12_train_161 (shR_1 hX) (fun v22 => ?_)
          refine i_iload C dX12_train_162 (q := 6) rfl ?_
          refine i_iload_n C dX12_train_164 rfl (q := 1) rfl ?_
          refine i_iload C dX12_train_165 (q := 5) rfl ?_
          refine i_iadd C dX12_train_167 ?_
          refine i_cI (kc' := 0) (ks' := 0) 0 0 4 (fun q hq hM hS => crV C (as := [aI v22, aI u8, aI (w32 (y2 + v21))]) dX12_train_168.1 kX12 (shR_0 hX) ml_X12_350 cal_X12_halts cv_X12_halts (hRm ⟨Nat.le_of_ble_eq_true rfl, Nat.le_of_ble_eq_true rfl⟩) rfl (Nat.le_of_ble_eq_true rfl) (c_X12_halts (xl X) (xG X) hX hM ⟨hS.2.2.2.1, hS.2.2.1, hS.2.1, hS.1, trivial⟩ hq)) (Nat.le_of_ble_eq_true rfl) (Nat.le_of_ble_eq_true rfl) rfl rfl rfl (fun v24 M23 => ?_)
          refine i_istore C dX12_train_171 hl7 (L' := [(0, aR 0), (2, aI y2), (3, aI y3), (4, aI y4), (5, aI y5), (6, aI v21), (7, aI v24), (8, aI u8)]) rfl ?_
          refine i_iincN (L' := fun v25 => [(0, aR 0), (2, aI y2), (3, aI y3), (4, aI y4), (5, aI y5), (6, aI v21), (7, aI v24), (8, aI v25)]) C dX12_train_173 (q := 7) rfl hl8 (fun _ => rfl) (fun v25 => ?_)
          refine i_goto (tgt := 92) C dX12_train_176 (by decide) ?_
          exact (ih v21 v24 v25 M23)
        refine i_if_le (tgt := 143) C dX12_train_123 (by decide) ?_ ?_
        · refine i_iconst C dX12_train_143 kI_0 ?_
          exact i_sub [0, 1, 2, 3, 4, 6] rfl (hj19 0 M16)
        · refine i_aload_n C dX12_train_126 rfl (q := 0) rfl ?_
          refine i_getR C (k := 0) kX12 dX12_train_127 (shR_0 hX) rfl (by decide) fl_X12_7 ?_
          refine i_iload C dX12_train_130 (q := 4) rfl ?_
          refine i_iconst C dX12_train_132 kI_2 ?_
          refine i_iadd C dX12_train_133 ?_
          refine i_iconst C dX12_train_134 kI_2 ?_
          refine i_iload C dX12_train_135 (q := 6) rfl ?_
          refine i_imul C dX12_train_137 ?_
          refine i_iadd C dX12_train_138 ?_
          refine i_ald C dX12_train_139 (shR_1 hX) (fun v26 => ?_)
          refine i_goto (tgt := 144) C dX12_train_140 (by decide) ?_
          exact i_sub [0, 1, 2, 3, 4, 6] rfl (hj19 v26 M16)
      refine i_jn (fun j => ∀  (M28 : Mem), Im X 0 0 115 [(0, aR 0), (2, aI y2), (3, aI y3), (4, aI y4), (5, aI y5), (8, aI u8)] [aI u6] M28 res (j  M28)) ?_ (fun j27 hj27 => ?_)
      · intro  M28
        refine i_iconst C dX12_train_115 kI_0 ?_
        exact (hj15 0 M28)
      refine i_icmp_le (tgt := 115) C dX12_train_103 (by decide) ?_ ?_
      · exact i_sub [0, 1, 2, 3, 4, 7] rfl (hj27  M)
      · refine i_iload C dX12_train_106 (q := 6) rfl ?_
        refine i_if_eq (tgt := 115) C dX12_train_108 (by decide) ?_ ?_
        · exact i_sub [0, 1, 2, 3, 4, 7] rfl (hj27  M)
        · refine i_iconst C dX12_train_111 kI_2 ?_
          refine i_goto (tgt := 116) C dX12_train_112 (by decide) ?_
          exact i_sub [0, 1, 2, 3, 4, 7] rfl (hj15 2 M)
set_option maxRecDepth 100000 in
set_option maxHeartbeats 4000000 in
theorem c_X12_train (l : Launch) (G : Gx) {K : Kx} (hK : K = kR) {x1 : Int} {x2 : Int} {x3 : Int} {x4 : Int} {M : Mem} {res : Int × Mem} (hM : OkM M) (ha : okS [aR 0, aI x1, aI x2, aI x3, aI x4]) (hF : rM_train x1 x2 x3 x4 M = some res) : Ct l G K yX12_train (wsM yX12_train cX12_train 9 (some .int)) rmX12_train [aR 0, aI x1, aI x2, aI x3, aI x4] M (some (aI res.1)) res.2 := by
  refine ct_of RX12 (by decide +kernel) rfl (hK ▸ kR_ok) hM ha (Nat.le_of_ble_eq_true rfl) hF ?_
  intro X C hl hG hX0 hN hR hq
  have hX : xK X = kR := hX0.trans hK
  show Im X 0 0 0 [(0, aR 0), (1, aI x1), (2, aI x2), (3, aI x3), (4, aI x4)] [] M res (rM_train x1 x2 x3 x4 M)
  unfold rM_train
  have hl5 : 5 < xn X := by rw [hN]; decide
  have hl6 : 6 < xn X := by rw [hN]; decide
  have hl7 : 7 < xn X := by rw [hN]; decide
  have hl8 : 8 < xn X := by rw [hN]; decide
  have hRm : ∀ {rm : Room} {ny : Nat}, RmOk rmX12_train rm ny → RmOk (xR X) rm ny := fun h => by rw [hR]; exact h
  refine i_aload_n C dX12_train_0 rfl (q := 0) rfl ?_
  refine i_iload_n C dX12_train_1 rfl (q := 1) rfl ?_
  refine i_cI (kc' := 0) (ks' := 0) 0 0 2 (fun q hq hM hS => crV C (as := [aI x1]) dX12_train_2.1 kX12 (shR_0 hX) ml_X12_82 cal_X12_isTie cv_X12_isTie (hRm ⟨Nat.le_of_ble_eq_true rfl, Nat.le_of_ble_eq_true rfl⟩) rfl (Nat.le_of_ble_eq_true rfl) (c_X12_isTie (xl X) (xG X) hX hM ⟨hS.2.1, hS.1, trivial⟩ hq)) (Nat.le_of_ble_eq_true rfl) (Nat.le_of_ble_eq_true rfl) rfl rfl rfl (fun v2 M1 => ?_)
  refine i_if_eq (tgt := 31) C dX12_train_5 (by decide) ?_ ?_
  · refine i_ldc C dX12_train_31 kc_X12_102 kI_m1000000001 ?_
    exact i_iret C hq dX12_train_33
  · refine i_iload_n C dX12_train_8 rfl (q := 2) rfl ?_
    refine i_i2l C dX12_train_9 ?_
    refine i_lconst C dX12_train_10 kL_0 ?_
    refine i_ldc2 C dX12_train_11 k2_X12_348 kJ_59 ?_
    refine i_cI (kc' := 0) (ks' := 0) 0 0 3 (fun q hq hM hS => crS C (as := [aL x2, aL 0, aL 59]) dX12_train_14.1 ml_X12_78 cal_X12_isIn st_X12_isIn (hRm ⟨Nat.le_of_ble_eq_true rfl, Nat.le_of_ble_eq_true rfl⟩) rfl (Nat.le_of_ble_eq_true rfl) (c_X12_isIn (xl X) (xG X) hX hM ⟨hS.2.2.1, hS.2.1, hS.1, trivial⟩ hq)) (Nat.le_of_ble_eq_true rfl) (Nat.le_of_ble_eq_true rfl) rfl rfl rfl (fun v4 M3 => ?_)
    refine i_if_eq (tgt := 31) C dX12_train_17 (by decide) ?_ ?_
    · refine i_ldc C dX12_train_31 kc_X12_102 kI_m1000000001 ?_
      exact i_iret C hq dX12_train_33
    · refine i_iload C dX12_train_20 (q := 4) rfl ?_
      refine i_i2l C dX12_train_22 ?_
      refine i_lconst C dX12_train_23 kL_0 ?_
      refine i_lconst C dX12_train_24 kL_1 ?_
      refine i_cI (kc' := 0) (ks' := 0) 0 0 3 (fun q hq hM hS => crS C (as := [aL x4, aL 0, aL 1]) dX12_train_25.1 ml_X12_78 cal_X12_isIn st_X12_isIn (hRm ⟨Nat.le_of_ble_eq_true rfl, Nat.le_of_ble_eq_true rfl⟩) rfl (Nat.le_of_ble_eq_true rfl) (c_X12_isIn (xl X) (xG X) hX hM ⟨hS.2.2.1, hS.2.1, hS.1, trivial⟩ hq)) (Nat.le_of_ble_eq_true rfl) (Nat.le_of_ble_eq_true rfl) rfl rfl rfl (fun v6 M5 => ?_)
      refine i_if_ne (tgt := 34) C dX12_train_28 (by decide) ?_ ?_
      · refine i_aload_n C dX12_train_34 rfl (q := 0) rfl ?_
        refine i_getR C (k := 0) kX12 dX12_train_35 (shR_0 hX) rfl (by decide) fl_X12_7 ?_
        refine i_aload_n C dX12_train_38 rfl (q := 0) rfl ?_
        refine i_iload_n C dX12_train_39 rfl (q := 1) rfl ?_
        refine i_cI (kc' := 0) (ks' := 0) 0 0 2 (fun q hq hM hS => crV C (as := [aI x1]) dX12_train_40.1 kX12 (shR_0 hX) ml_X12_86 cal_X12_tieAt cv_X12_tieAt (hRm ⟨Nat.le_of_ble_eq_true rfl, Nat.le_of_ble_eq_true rfl⟩) rfl (Nat.le_of_ble_eq_true rfl) (c_X12_tieAt (xl X) (xG X) hX hM ⟨hS.2.1, hS.1, trivial⟩ hq)) (Nat.le_of_ble_eq_true rfl) (Nat.le_of_ble_eq_true rfl) rfl rfl rfl (fun v8 M7 => ?_)
        refine i_ald C dX12_train_43 (shR_1 hX) (fun v9 => ?_)
        refine i_iconst C dX12_train_44 kI_2 ?_
        refine i_icmp_eq (tgt := 51) C dX12_train_45 (by decide) ?_ ?_
        · refine i_sipush C dX12_train_51 kS_630 ?_
          refine i_bipush C dX12_train_54 kB_17 ?_
          refine i_iload_n C dX12_train_56 rfl (q := 1) rfl ?_
          refine i_imul C dX12_train_57 ?_
          refine i_iadd C dX12_train_58 ?_
          refine i_nm (fun v10 => ?_)
          refine i_istore C dX12_train_59 hl5 (L' := [(0, aR 0), (1, aI x1), (2, aI x2), (3, aI x3), (4, aI x4), (5, aI v10)]) rfl ?_
          refine i_iload_n C dX12_train_61 rfl (q := 3) rfl ?_
          refine i_i2l C dX12_train_62 ?_
          refine i_lconst C dX12_train_63 kL_0 ?_
          refine i_aload_n C dX12_train_64 rfl (q := 0) rfl ?_
          refine i_getR C (k := 0) kX12 dX12_train_65 (shR_0 hX) rfl (by decide) fl_X12_7 ?_
          refine i_iload C dX12_train_68 (q := 5) rfl ?_
          refine i_ald C dX12_train_70 (shR_1 hX) (fun v11 => ?_)
          refine i_iconst C dX12_train_71 kI_1 ?_
          refine i_isub C dX12_train_72 ?_
          refine i_i2l C dX12_train_73 ?_
          refine i_cI (kc' := 0) (ks' := 0) 0 0 3 (fun q hq hM hS => crS C (as := [aL x3, aL 0, aL (w32 (v11 - 1))]) dX12_train_74.1 ml_X12_78 cal_X12_isIn st_X12_isIn (hRm ⟨Nat.le_of_ble_eq_true rfl, Nat.le_of_ble_eq_true rfl⟩) rfl (Nat.le_of_ble_eq_true rfl) (c_X12_isIn (xl X) (xG X) hX hM ⟨hS.2.2.1, hS.2.1, hS.1, trivial⟩ hq)) (Nat.le_of_ble_eq_true rfl) (Nat.le_of_ble_eq_true rfl) rfl rfl rfl (fun v13 M12 => ?_)
          refine i_if_ne (tgt := 83) C dX12_train_77 (by decide) ?_ ?_
          · refine i_iconst C dX12_train_83 kI_0 ?_
            refine i_istore C dX12_train_84 hl6 (L' := [(0, aR 0), (1, aI x1), (2, aI x2), (3, aI x3), (4, aI x4), (5, aI v10), (6, aI 0)]) rfl ?_
            refine i_iconst C dX12_train_86 kI_0 ?_
            refine i_istore C dX12_train_87 hl7 (L' := [(0, aR 0), (1, aI x1), (2, aI x2), (3, aI x3), (4, aI x4), (5, aI v10), (6, aI 0), (7, aI 0)]) rfl ?_
            refine i_iconst C dX12_train_89 kI_0 ?_
            refine i_istore C dX12_train_90 hl8 (L' := [(0, aR 0), (1, aI x1), (2, aI x2), (3, aI x3), (4, aI x4), (5, aI v10), (6, aI 0), (7, aI 0), (8, aI 0)]) rfl ?_
            refine i_sub [0, 2, 3, 4, 5, 6, 7, 8] rfl (w_X12_train_92 C hX hN hR hq x2 x3 x4 v10 (fun v29 v30 M31 => ?_) FU 0 0 0 M12)
            refine i_iload C dX12_train_179 (q := 0) rfl ?_
            refine i_if_ne (tgt := 189) C dX12_train_181 (by decide) ?_ ?_
            · refine i_iload C dX12_train_189 (q := 2) rfl ?_
              refine i_if_eq (tgt := 198) C dX12_train_191 (by decide) ?_ ?_
              · refine i_iconst C dX12_train_198 kI_0 ?_
                exact i_iret C hq dX12_train_199
              · refine i_iconst C dX12_train_194 kI_1 ?_
                refine i_goto (tgt := 199) C dX12_train_195 (by decide) ?_
                exact i_iret C hq dX12_train_199
            · refine i_iload C dX12_train_184 (q := 1) rfl ?_
              refine i_goto (tgt := 199) C dX12_train_186 (by decide) ?_
              exact i_iret C hq dX12_train_199
          · refine i_ldc C dX12_train_80 kc_X12_77 kI_m1000000005 ?_
            exact i_iret C hq dX12_train_82
        · refine i_ldc C dX12_train_48 kc_X12_161 kI_m1000000012 ?_
          exact i_iret C hq dX12_train_50
      · refine i_ldc C dX12_train_31 kc_X12_102 kI_m1000000001 ?_
        exact i_iret C hq dX12_train_33
set_option maxRecDepth 100000 in
set_option maxHeartbeats 4000000 in
theorem c_X12_file (l : Launch) (G : Gx) {K : Kx} (hK : K = kR) {x1 : Int} {x2 : Int} {x3 : Int} {M : Mem} {res : Int × Mem} (hM : OkM M) (ha : okS [aR 0, aI x1, aI x2, aI x3]) (hF : rM_file x1 x2 x3 M = some res) : Ct l G K yX12_file (wsM yX12_file cX12_file 5 (some .int)) rmX12_file [aR 0, aI x1, aI x2, aI x3] M (some (aI res.1)) res.2 := by
  refine ct_of RX12 (by decide +kernel) rfl (hK ▸ kR_ok) hM ha (Nat.le_of_ble_eq_true rfl) hF ?_
  intro X C hl hG hX0 hN hR hq
  have hX : xK X = kR := hX0.trans hK
  show Im X 0 0 0 [(0, aR 0), (1, aI x1), (2, aI x2), (3, aI x3)] [] M res (rM_file x1 x2 x3 M)
  unfold rM_file
  have hl4 : 4 < xn X := by rw [hN]; decide
  have hRm : ∀ {rm : Room} {ny : Nat}, RmOk rmX12_file rm ny → RmOk (xR X) rm ny := fun h => by rw [hR]; exact h
  refine i_iload_n C dX12_file_0 rfl (q := 1) rfl ?_
  refine i_cI (kc' := 0) (ks' := 0) 0 0 1 (fun q hq hM hS => crS C (as := [aI x1]) dX12_file_1.1 ml_X12_99 cal_X12_isSide st_X12_isSide (hRm ⟨Nat.le_of_ble_eq_true rfl, Nat.le_of_ble_eq_true rfl⟩) rfl (Nat.le_of_ble_eq_true rfl) (c_X12_isSide (xl X) (xG X) hX hM ⟨hS.1, trivial⟩ hq)) (Nat.le_of_ble_eq_true rfl) (Nat.le_of_ble_eq_true rfl) rfl rfl rfl (fun v2 M1 => ?_)
  refine i_if_eq (tgt := 31) C dX12_file_4 (by decide) ?_ ?_
  · refine i_ldc C dX12_file_31 kc_X12_102 kI_m1000000001 ?_
    exact i_iret C hq dX12_file_33
  · refine i_iload_n C dX12_file_7 rfl (q := 2) rfl ?_
    refine i_i2l C dX12_file_8 ?_
    refine i_lconst C dX12_file_9 kL_0 ?_
    refine i_ldc2 C dX12_file_10 k2_X12_109 kJ_9999 ?_
    refine i_cI (kc' := 0) (ks' := 0) 0 0 3 (fun q hq hM hS => crS C (as := [aL x2, aL 0, aL 9999]) dX12_file_13.1 ml_X12_78 cal_X12_isIn st_X12_isIn (hRm ⟨Nat.le_of_ble_eq_true rfl, Nat.le_of_ble_eq_true rfl⟩) rfl (Nat.le_of_ble_eq_true rfl) (c_X12_isIn (xl X) (xG X) hX hM ⟨hS.2.2.1, hS.2.1, hS.1, trivial⟩ hq)) (Nat.le_of_ble_eq_true rfl) (Nat.le_of_ble_eq_true rfl) rfl rfl rfl (fun v4 M3 => ?_)
    refine i_if_eq (tgt := 31) C dX12_file_16 (by decide) ?_ ?_
    · refine i_ldc C dX12_file_31 kc_X12_102 kI_m1000000001 ?_
      exact i_iret C hq dX12_file_33
    · refine i_iload_n C dX12_file_19 rfl (q := 3) rfl ?_
      refine i_i2l C dX12_file_20 ?_
      refine i_lconst C dX12_file_21 kL_0 ?_
      refine i_ldc2 C dX12_file_22 k2_X12_115 kJ_99 ?_
      refine i_cI (kc' := 0) (ks' := 0) 0 0 3 (fun q hq hM hS => crS C (as := [aL x3, aL 0, aL 99]) dX12_file_25.1 ml_X12_78 cal_X12_isIn st_X12_isIn (hRm ⟨Nat.le_of_ble_eq_true rfl, Nat.le_of_ble_eq_true rfl⟩) rfl (Nat.le_of_ble_eq_true rfl) (c_X12_isIn (xl X) (xG X) hX hM ⟨hS.2.2.1, hS.2.1, hS.1, trivial⟩ hq)) (Nat.le_of_ble_eq_true rfl) (Nat.le_of_ble_eq_true rfl) rfl rfl rfl (fun v6 M5 => ?_)
      refine i_if_ne (tgt := 34) C dX12_file_28 (by decide) ?_ ?_
      · refine i_aload_n C dX12_file_34 rfl (q := 0) rfl ?_
        refine i_getR C (k := 0) kX12 dX12_file_35 (shR_0 hX) rfl (by decide) fl_X12_7 ?_
        refine i_bipush C dX12_file_38 kB_8 ?_
        refine i_iload_n C dX12_file_40 rfl (q := 1) rfl ?_
        refine i_iadd C dX12_file_41 ?_
        refine i_ald C dX12_file_42 (shR_1 hX) (fun v7 => ?_)
        refine i_istore C dX12_file_43 hl4 (L' := [(0, aR 0), (1, aI x1), (2, aI x2), (3, aI x3), (4, aI v7)]) rfl ?_
        refine i_iload C dX12_file_45 (q := 4) rfl ?_
        refine i_bipush C dX12_file_47 kB_10 ?_
        refine i_icmp_ne (tgt := 55) C dX12_file_49 (by decide) ?_ ?_
        · refine i_aload_n C dX12_file_55 rfl (q := 0) rfl ?_
          refine i_getR C (k := 0) kX12 dX12_file_56 (shR_0 hX) rfl (by decide) fl_X12_7 ?_
          refine i_sipush C dX12_file_59 kS_3860 ?_
          refine i_bipush C dX12_file_62 kB_20 ?_
          refine i_iload_n C dX12_file_64 rfl (q := 1) rfl ?_
          refine i_imul C dX12_file_65 ?_
          refine i_iadd C dX12_file_66 ?_
          refine i_iconst C dX12_file_67 kI_2 ?_
          refine i_iload C dX12_file_68 (q := 4) rfl ?_
          refine i_imul C dX12_file_70 ?_
          refine i_iadd C dX12_file_71 ?_
          refine i_iload_n C dX12_file_72 rfl (q := 2) rfl ?_
          refine i_ast C dX12_file_73 (shR_1 hX) (fun M8 => ?_)
          refine i_aload_n C dX12_file_74 rfl (q := 0) rfl ?_
          refine i_getR C (k := 0) kX12 dX12_file_75 (shR_0 hX) rfl (by decide) fl_X12_7 ?_
          refine i_sipush C dX12_file_78 kS_3860 ?_
          refine i_bipush C dX12_file_81 kB_20 ?_
          refine i_iload_n C dX12_file_83 rfl (q := 1) rfl ?_
          refine i_imul C dX12_file_84 ?_
          refine i_iadd C dX12_file_85 ?_
          refine i_iconst C dX12_file_86 kI_2 ?_
          refine i_iload C dX12_file_87 (q := 4) rfl ?_
          refine i_imul C dX12_file_89 ?_
          refine i_iadd C dX12_file_90 ?_
          refine i_iconst C dX12_file_91 kI_1 ?_
          refine i_iadd C dX12_file_92 ?_
          refine i_iload_n C dX12_file_93 rfl (q := 3) rfl ?_
          refine i_ast C dX12_file_94 (shR_1 hX) (fun M9 => ?_)
          refine i_aload_n C dX12_file_95 rfl (q := 0) rfl ?_
          refine i_getR C (k := 0) kX12 dX12_file_96 (shR_0 hX) rfl (by decide) fl_X12_7 ?_
          refine i_bipush C dX12_file_99 kB_8 ?_
          refine i_iload_n C dX12_file_101 rfl (q := 1) rfl ?_
          refine i_iadd C dX12_file_102 ?_
          refine i_dup2 C dX12_file_103 rfl rfl ?_
          refine i_ald C dX12_file_104 (shR_1 hX) (fun v10 => ?_)
          refine i_iconst C dX12_file_105 kI_1 ?_
          refine i_iadd C dX12_file_106 ?_
          refine i_ast C dX12_file_107 (shR_1 hX) (fun M11 => ?_)
          refine i_iload C dX12_file_108 (q := 4) rfl ?_
          exact i_iret C hq dX12_file_110
        · refine i_ldc C dX12_file_52 kc_X12_103 kI_m1000000003 ?_
          exact i_iret C hq dX12_file_54
      · refine i_ldc C dX12_file_31 kc_X12_102 kI_m1000000001 ?_
        exact i_iret C hq dX12_file_33
set_option maxRecDepth 100000 in
set_option maxHeartbeats 4000000 in
theorem c_X12_figure (l : Launch) (G : Gx) {K : Kx} (hK : K = kR) {x0 : Int} {x1 : Int} {M : Mem} {res : Int × Mem} (hM : OkM M) (ha : okS [aI x0, aI x1]) (hF : rM_figure x0 x1 M = some res) : Ct l G K yX12_figure (wsM yX12_figure cX12_figure 2 (some .int)) rmX12_figure [aI x0, aI x1] M (some (aI res.1)) res.2 := by
  refine ct_of RX12 (by decide +kernel) rfl (hK ▸ kR_ok) hM ha (Nat.le_of_ble_eq_true rfl) hF ?_
  intro X C hl hG hX0 hN hR hq
  have hX : xK X = kR := hX0.trans hK
  show Im X 0 0 0 [(0, aI x0), (1, aI x1)] [] M res (rM_figure x0 x1 M)
  unfold rM_figure
  refine i_iload_n C dX12_figure_0 rfl (q := 1) rfl ?_
  refine i_if_ne (tgt := 12) C dX12_figure_1 (by decide) ?_ ?_
  · refine i_iload_n C dX12_figure_12 rfl (q := 1) rfl ?_
    refine i_iconst C dX12_figure_13 kI_1 ?_
    refine i_icmp_ne (tgt := 27) C dX12_figure_14 (by decide) ?_ ?_
    · refine i_iload_n C dX12_figure_27 rfl (q := 1) rfl ?_
      refine i_iconst C dX12_figure_28 kI_2 ?_
      refine i_icmp_ne (tgt := 42) C dX12_figure_29 (by decide) ?_ ?_
      · refine i_iload_n C dX12_figure_42 rfl (q := 0) rfl ?_
        refine i_bipush C dX12_figure_43 kB_10 ?_
        refine i_irem C dX12_figure_45 (by decide) ?_
        exact i_iret C hq dX12_figure_46
      · refine i_iload_n C dX12_figure_32 rfl (q := 0) rfl ?_
        refine i_bipush C dX12_figure_33 kB_10 ?_
        refine i_idiv C dX12_figure_35 (by decide) ?_
        refine i_bipush C dX12_figure_36 kB_10 ?_
        refine i_irem C dX12_figure_38 (by decide) ?_
        refine i_goto (tgt := 46) C dX12_figure_39 (by decide) ?_
        exact i_iret C hq dX12_figure_46
    · refine i_iload_n C dX12_figure_17 rfl (q := 0) rfl ?_
      refine i_bipush C dX12_figure_18 kB_100 ?_
      refine i_idiv C dX12_figure_20 (by decide) ?_
      refine i_bipush C dX12_figure_21 kB_10 ?_
      refine i_irem C dX12_figure_23 (by decide) ?_
      refine i_goto (tgt := 46) C dX12_figure_24 (by decide) ?_
      exact i_iret C hq dX12_figure_46
  · refine i_iload_n C dX12_figure_4 rfl (q := 0) rfl ?_
    refine i_sipush C dX12_figure_5 kS_1000 ?_
    refine i_idiv C dX12_figure_8 (by decide) ?_
    refine i_goto (tgt := 46) C dX12_figure_9 (by decide) ?_
    exact i_iret C hq dX12_figure_46
set_option maxRecDepth 100000 in
set_option maxHeartbeats 4000000 in
theorem w_X12_isNear_7 {X : Xc} (C : Cx X RX12 cX12_isNear (some .boolean)) (hX : xK X = kR) (hN : xn X = 5) (hR : xR X = rmX12_isNear) {res : Int × Mem} (hq : Rq X (some (aI res.1)) res.2) (y0 : Int) (y1 : Int) {k40 : Int → Int → Mem → Option (Int × Mem)} (hk40 : ∀ (q2 : Int) (q3 : Int) (M : Mem), Im X 0 0 40 [(0, aI y0), (1, aI y1), (2, aI q2), (3, aI q3)] [] M res (k40 q2 q3 M)) : ∀ (n : Nat) (u2 : Int) (u3 : Int) (u4 : Int) (M : Mem), Im X 0 0 7 [(0, aI y0), (1, aI y1), (2, aI u2), (3, aI u3), (4, aI u4)] [] M res (lpX12_isNear_7 y0 y1 k40 n u2 u3 u4 M) := by
  have hl2 : 2 < xn X := by rw [hN]; decide
  have hl3 : 3 < xn X := by rw [hN]; decide
  have hl4 : 4 < xn X := by rw [hN]; decide
  have hRm : ∀ {rm : Room} {ny : Nat}, RmOk rmX12_isNear rm ny → RmOk (xR X) rm ny := fun h => by rw [hR]; exact h
  intro n
  induction n with
  | zero => intro _ _ _ _; exact i_none
  | succ n ih =>
    intro u2 u3 u4 M
    unfold lpX12_isNear_7
    refine i_iload C dX12_isNear_7 (q := 4) rfl ?_
    refine i_iconst C dX12_isNear_9 kI_4 ?_
    refine i_icmp_ge (tgt := 40) C dX12_isNear_10 (by decide) ?_ ?_
    · exact i_sub [0, 1, 2, 3] rfl (hk40 u2 u3 M)
    · refine i_iload_n C dX12_isNear_13 rfl (q := 0) rfl ?_
      refine i_iload C dX12_isNear_14 (q := 4) rfl ?_
      refine i_cI (kc' := 0) (ks' := 0) 0 0 2 (fun q hq hM hS => crS C (as := [aI y0, aI u4]) dX12_isNear_16.1 ml_X12_353 cal_X12_figure st_X12_figure (hRm ⟨Nat.le_of_ble_eq_true rfl, Nat.le_of_ble_eq_true rfl⟩) rfl (Nat.le_of_ble_eq_true rfl) (c_X12_figure (xl X) (xG X) hX hM ⟨hS.2.1, hS.1, trivial⟩ hq)) (Nat.le_of_ble_eq_true rfl) (Nat.le_of_ble_eq_true rfl) rfl rfl rfl (fun v2 M1 => ?_)
      refine i_iload_n C dX12_isNear_19 rfl (q := 1) rfl ?_
      refine i_iload C dX12_isNear_20 (q := 4) rfl ?_
      refine i_cI (kc' := 0) (ks' := 0) 0 0 2 (fun q hq hM hS => crS C (as := [aI y1, aI u4]) dX12_isNear_22.1 ml_X12_353 cal_X12_figure st_X12_figure (hRm ⟨Nat.le_of_ble_eq_true rfl, Nat.le_of_ble_eq_true rfl⟩) rfl (Nat.le_of_ble_eq_true rfl) (c_X12_figure (xl X) (xG X) hX hM ⟨hS.2.1, hS.1, trivial⟩ hq)) (Nat.le_of_ble_eq_true rfl) (Nat.le_of_ble_eq_true rfl) rfl rfl rfl (fun v4 M3 => ?_)
      refine i_jn (fun j => ∀ (p5 : Int) (p6 : Int) (M8 : Mem), Im X 0 0 34 [(0, aI y0), (1, aI y1), (2, aI p5), (3, aI p6), (4, aI u4)] [] M8 res (j p5 p6 M8)) ?_ (fun j7 hj7 => ?_)
      · intro p5 p6 M8
        refine i_iincN (L' := fun v9 => [(0, aI y0), (1, aI y1), (2, aI p5), (3, aI p6), (4, aI v9)]) C dX12_isNear_34 (q := 4) rfl hl4 (fun _ => rfl) (fun v9 => ?_)
        refine i_goto (tgt := 7) C dX12_isNear_37 (by decide) ?_
        exact (ih p5 p6 v9 M8)
      refine i_icmp_eq (tgt := 34) C dX12_isNear_25 (by decide) ?_ ?_
      · exact (hj7 u2 u3 M3)
      · refine i_iincN (L' := fun v10 => [(0, aI y0), (1, aI y1), (2, aI v10), (3, aI u3), (4, aI u4)]) C dX12_isNear_28 (q := 2) rfl hl2 (fun _ => rfl) (fun v10 => ?_)
        refine i_iload C dX12_isNear_31 (q := 4) rfl ?_
        refine i_istore_n C dX12_isNear_33 rfl hl3 (L' := [(0, aI y0), (1, aI y1), (2, aI v10), (3, aI u4), (4, aI u4)]) rfl ?_
        exact (hj7 v10 u4 M3)
set_option maxRecDepth 100000 in
set_option maxHeartbeats 4000000 in
theorem c_X12_isNear (l : Launch) (G : Gx) {K : Kx} (hK : K = kR) {x0 : Int} {x1 : Int} {M : Mem} {res : Int × Mem} (hM : OkM M) (ha : okS [aI x0, aI x1]) (hF : rM_isNear x0 x1 M = some res) : Ct l G K yX12_isNear (wsM yX12_isNear cX12_isNear 5 (some .boolean)) rmX12_isNear [aI x0, aI x1] M (some (aI res.1)) res.2 := by
  refine ct_of RX12 (by decide +kernel) rfl (hK ▸ kR_ok) hM ha (Nat.le_of_ble_eq_true rfl) hF ?_
  intro X C hl hG hX0 hN hR hq
  have hX : xK X = kR := hX0.trans hK
  show Im X 0 0 0 [(0, aI x0), (1, aI x1)] [] M res (rM_isNear x0 x1 M)
  unfold rM_isNear
  have hl2 : 2 < xn X := by rw [hN]; decide
  have hl3 : 3 < xn X := by rw [hN]; decide
  have hl4 : 4 < xn X := by rw [hN]; decide
  have hRm : ∀ {rm : Room} {ny : Nat}, RmOk rmX12_isNear rm ny → RmOk (xR X) rm ny := fun h => by rw [hR]; exact h
  refine i_iconst C dX12_isNear_0 kI_0 ?_
  refine i_istore_n C dX12_isNear_1 rfl hl2 (L' := [(0, aI x0), (1, aI x1), (2, aI 0)]) rfl ?_
  refine i_iconst C dX12_isNear_2 kI_0 ?_
  refine i_istore_n C dX12_isNear_3 rfl hl3 (L' := [(0, aI x0), (1, aI x1), (2, aI 0), (3, aI 0)]) rfl ?_
  refine i_iconst C dX12_isNear_4 kI_0 ?_
  refine i_istore C dX12_isNear_5 hl4 (L' := [(0, aI x0), (1, aI x1), (2, aI 0), (3, aI 0), (4, aI 0)]) rfl ?_
  refine (w_X12_isNear_7 C hX hN hR hq x0 x1 (fun v11 v12 M13 => ?_) FU 0 0 0 M)
  refine i_iload_n C dX12_isNear_40 rfl (q := 2) rfl ?_
  refine i_iconst C dX12_isNear_41 kI_2 ?_
  refine i_jn (fun j => ∀ (p14 : Int) (M16 : Mem), Im X 0 0 80 [(2, aI v11)] [aI p14] M16 res (j p14 M16)) ?_ (fun j15 hj15 => ?_)
  · intro p14 M16
    refine i_istore C dX12_isNear_80 hl4 (L' := [(2, aI v11), (4, aI p14)]) rfl ?_
    refine i_iload_n C dX12_isNear_82 rfl (q := 0) rfl ?_
    refine i_iconst C dX12_isNear_83 kI_1 ?_
    refine i_icmp_eq (tgt := 92) C dX12_isNear_84 (by decide) ?_ ?_
    · refine i_iconst C dX12_isNear_92 kI_1 ?_
      refine i_goto (tgt := 97) C dX12_isNear_93 (by decide) ?_
      exact i_zret C hq dX12_isNear_97 (Or.inr rfl)
    · refine i_iload C dX12_isNear_87 (q := 1) rfl ?_
      refine i_if_eq (tgt := 96) C dX12_isNear_89 (by decide) ?_ ?_
      · refine i_iconst C dX12_isNear_96 kI_0 ?_
        exact i_zret C hq dX12_isNear_97 (Or.inl rfl)
      · refine i_iconst C dX12_isNear_92 kI_1 ?_
        refine i_goto (tgt := 97) C dX12_isNear_93 (by decide) ?_
        exact i_zret C hq dX12_isNear_97 (Or.inr rfl)
  refine i_jn (fun j => ∀  (M18 : Mem), Im X 0 0 79 [(2, aI v11)] [] M18 res (j  M18)) ?_ (fun j17 hj17 => ?_)
  · intro  M18
    refine i_iconst C dX12_isNear_79 kI_0 ?_
    exact (hj15 0 M18)
  refine i_icmp_ne (tgt := 79) C dX12_isNear_42 (by decide) ?_ ?_
  · exact i_sub [2] rfl (hj17  M13)
  · refine i_iload_n C dX12_isNear_45 rfl (q := 0) rfl ?_
    refine i_iload_n C dX12_isNear_46 rfl (q := 3) rfl ?_
    refine i_cI (kc' := 0) (ks' := 0) 0 0 2 (fun q hq hM hS => crS C (as := [aI x0, aI v12]) dX12_isNear_47.1 ml_X12_353 cal_X12_figure st_X12_figure (hRm ⟨Nat.le_of_ble_eq_true rfl, Nat.le_of_ble_eq_true rfl⟩) rfl (Nat.le_of_ble_eq_true rfl) (c_X12_figure (xl X) (xG X) hX hM ⟨hS.2.1, hS.1, trivial⟩ hq)) (Nat.le_of_ble_eq_true rfl) (Nat.le_of_ble_eq_true rfl) rfl rfl rfl (fun v20 M19 => ?_)
    refine i_iload_n C dX12_isNear_50 rfl (q := 1) rfl ?_
    refine i_iload_n C dX12_isNear_51 rfl (q := 3) rfl ?_
    refine i_iconst C dX12_isNear_52 kI_1 ?_
    refine i_isub C dX12_isNear_53 ?_
    refine i_cI (kc' := 0) (ks' := 0) 0 0 2 (fun q hq hM hS => crS C (as := [aI x1, aI (w32 (v12 - 1))]) dX12_isNear_54.1 ml_X12_353 cal_X12_figure st_X12_figure (hRm ⟨Nat.le_of_ble_eq_true rfl, Nat.le_of_ble_eq_true rfl⟩) rfl (Nat.le_of_ble_eq_true rfl) (c_X12_figure (xl X) (xG X) hX hM ⟨hS.2.1, hS.1, trivial⟩ hq)) (Nat.le_of_ble_eq_true rfl) (Nat.le_of_ble_eq_true rfl) rfl rfl rfl (fun v22 M21 => ?_)
    refine i_icmp_ne (tgt := 79) C dX12_isNear_57 (by decide) ?_ ?_
    · exact i_sub [2] rfl (hj17  M21)
    · refine i_iload_n C dX12_isNear_60 rfl (q := 0) rfl ?_
      refine i_iload_n C dX12_isNear_61 rfl (q := 3) rfl ?_
      refine i_iconst C dX12_isNear_62 kI_1 ?_
      refine i_isub C dX12_isNear_63 ?_
      refine i_cI (kc' := 0) (ks' := 0) 0 0 2 (fun q hq hM hS => crS C (as := [aI x0, aI (w32 (v12 - 1))]) dX12_isNear_64.1 ml_X12_353 cal_X12_figure st_X12_figure (hRm ⟨Nat.le_of_ble_eq_true rfl, Nat.le_of_ble_eq_true rfl⟩) rfl (Nat.le_of_ble_eq_true rfl) (c_X12_figure (xl X) (xG X) hX hM ⟨hS.2.1, hS.1, trivial⟩ hq)) (Nat.le_of_ble_eq_true rfl) (Nat.le_of_ble_eq_true rfl) rfl rfl rfl (fun v24 M23 => ?_)
      refine i_iload_n C dX12_isNear_67 rfl (q := 1) rfl ?_
      refine i_iload_n C dX12_isNear_68 rfl (q := 3) rfl ?_
      refine i_cI (kc' := 0) (ks' := 0) 0 0 2 (fun q hq hM hS => crS C (as := [aI x1, aI v12]) dX12_isNear_69.1 ml_X12_353 cal_X12_figure st_X12_figure (hRm ⟨Nat.le_of_ble_eq_true rfl, Nat.le_of_ble_eq_true rfl⟩) rfl (Nat.le_of_ble_eq_true rfl) (c_X12_figure (xl X) (xG X) hX hM ⟨hS.2.1, hS.1, trivial⟩ hq)) (Nat.le_of_ble_eq_true rfl) (Nat.le_of_ble_eq_true rfl) rfl rfl rfl (fun v26 M25 => ?_)
      refine i_icmp_ne (tgt := 79) C dX12_isNear_72 (by decide) ?_ ?_
      · exact i_sub [2] rfl (hj17  M25)
      · refine i_iconst C dX12_isNear_75 kI_1 ?_
        refine i_goto (tgt := 80) C dX12_isNear_76 (by decide) ?_
        exact i_sub [2] rfl (hj15 1 M25)
set_option maxRecDepth 100000 in
set_option maxHeartbeats 4000000 in
theorem c_X12_alikeOf (l : Launch) (G : Gx) {K : Kx} (hK : K = kR) {x1 : Int} {x2 : Int} {M : Mem} {res : Int × Mem} (hM : OkM M) (ha : okS [aR 0, aI x1, aI x2]) (hF : rM_alikeOf x1 x2 M = some res) : Ct l G K yX12_alikeOf (wsM yX12_alikeOf cX12_alikeOf 5 (some .int)) rmX12_alikeOf [aR 0, aI x1, aI x2] M (some (aI res.1)) res.2 := by
  refine ct_of RX12 (by decide +kernel) rfl (hK ▸ kR_ok) hM ha (Nat.le_of_ble_eq_true rfl) hF ?_
  intro X C hl hG hX0 hN hR hq
  have hX : xK X = kR := hX0.trans hK
  show Im X 0 0 0 [(0, aR 0), (1, aI x1), (2, aI x2)] [] M res (rM_alikeOf x1 x2 M)
  unfold rM_alikeOf
  have hl3 : 3 < xn X := by rw [hN]; decide
  have hl4 : 4 < xn X := by rw [hN]; decide
  have hRm : ∀ {rm : Room} {ny : Nat}, RmOk rmX12_alikeOf rm ny → RmOk (xR X) rm ny := fun h => by rw [hR]; exact h
  refine i_sipush C dX12_alikeOf_0 kS_3860 ?_
  refine i_iconst C dX12_alikeOf_3 kI_2 ?_
  refine i_iload_n C dX12_alikeOf_4 rfl (q := 1) rfl ?_
  refine i_imul C dX12_alikeOf_5 ?_
  refine i_iadd C dX12_alikeOf_6 ?_
  refine i_nm (fun v1 => ?_)
  refine i_istore_n C dX12_alikeOf_7 rfl hl3 (L' := [(0, aR 0), (1, aI x1), (2, aI x2), (3, aI v1)]) rfl ?_
  refine i_sipush C dX12_alikeOf_8 kS_3880 ?_
  refine i_iconst C dX12_alikeOf_11 kI_2 ?_
  refine i_iload_n C dX12_alikeOf_12 rfl (q := 2) rfl ?_
  refine i_imul C dX12_alikeOf_13 ?_
  refine i_iadd C dX12_alikeOf_14 ?_
  refine i_nm (fun v2 => ?_)
  refine i_istore C dX12_alikeOf_15 hl4 (L' := [(0, aR 0), (1, aI x1), (2, aI x2), (3, aI v1), (4, aI v2)]) rfl ?_
  refine i_aload_n C dX12_alikeOf_17 rfl (q := 0) rfl ?_
  refine i_getR C (k := 0) kX12 dX12_alikeOf_18 (shR_0 hX) rfl (by decide) fl_X12_7 ?_
  refine i_iload_n C dX12_alikeOf_21 rfl (q := 3) rfl ?_
  refine i_iconst C dX12_alikeOf_22 kI_1 ?_
  refine i_iadd C dX12_alikeOf_23 ?_
  refine i_ald C dX12_alikeOf_24 (shR_1 hX) (fun v3 => ?_)
  refine i_aload_n C dX12_alikeOf_25 rfl (q := 0) rfl ?_
  refine i_getR C (k := 0) kX12 dX12_alikeOf_26 (shR_0 hX) rfl (by decide) fl_X12_7 ?_
  refine i_iload C dX12_alikeOf_29 (q := 4) rfl ?_
  refine i_iconst C dX12_alikeOf_31 kI_1 ?_
  refine i_iadd C dX12_alikeOf_32 ?_
  refine i_ald C dX12_alikeOf_33 (shR_1 hX) (fun v4 => ?_)
  refine i_isub C dX12_alikeOf_34 ?_
  refine i_cI (kc' := 0) (ks' := 0) 0 0 1 (fun q hq hM hS => crS C (as := [aI (w32 (v3 - v4))]) dX12_alikeOf_35.1 ml_X12_356 cal_X12_size st_X12_size (hRm ⟨Nat.le_of_ble_eq_true rfl, Nat.le_of_ble_eq_true rfl⟩) rfl (Nat.le_of_ble_eq_true rfl) (c_X12_size (xl X) (xG X) hX hM ⟨hS.1, trivial⟩ hq)) (Nat.le_of_ble_eq_true rfl) (Nat.le_of_ble_eq_true rfl) rfl rfl rfl (fun v6 M5 => ?_)
  refine i_iconst C dX12_alikeOf_38 kI_1 ?_
  refine i_icmp_le (tgt := 44) C dX12_alikeOf_39 (by decide) ?_ ?_
  · refine i_aload_n C dX12_alikeOf_44 rfl (q := 0) rfl ?_
    refine i_getR C (k := 0) kX12 dX12_alikeOf_45 (shR_0 hX) rfl (by decide) fl_X12_7 ?_
    refine i_iload_n C dX12_alikeOf_48 rfl (q := 3) rfl ?_
    refine i_ald C dX12_alikeOf_49 (shR_1 hX) (fun v7 => ?_)
    refine i_aload_n C dX12_alikeOf_50 rfl (q := 0) rfl ?_
    refine i_getR C (k := 0) kX12 dX12_alikeOf_51 (shR_0 hX) rfl (by decide) fl_X12_7 ?_
    refine i_iload C dX12_alikeOf_54 (q := 4) rfl ?_
    refine i_ald C dX12_alikeOf_56 (shR_1 hX) (fun v8 => ?_)
    refine i_icmp_ne (tgt := 64) C dX12_alikeOf_57 (by decide) ?_ ?_
    · refine i_aload_n C dX12_alikeOf_64 rfl (q := 0) rfl ?_
      refine i_getR C (k := 0) kX12 dX12_alikeOf_65 (shR_0 hX) rfl (by decide) fl_X12_7 ?_
      refine i_iload_n C dX12_alikeOf_68 rfl (q := 3) rfl ?_
      refine i_ald C dX12_alikeOf_69 (shR_1 hX) (fun v9 => ?_)
      refine i_aload_n C dX12_alikeOf_70 rfl (q := 0) rfl ?_
      refine i_getR C (k := 0) kX12 dX12_alikeOf_71 (shR_0 hX) rfl (by decide) fl_X12_7 ?_
      refine i_iload C dX12_alikeOf_74 (q := 4) rfl ?_
      refine i_ald C dX12_alikeOf_76 (shR_1 hX) (fun v10 => ?_)
      refine i_cI (kc' := 0) (ks' := 0) 0 0 2 (fun q hq hM hS => crS C (as := [aI v9, aI v10]) dX12_alikeOf_77.1 ml_X12_359 cal_X12_isNear st_X12_isNear (hRm ⟨Nat.le_of_ble_eq_true rfl, Nat.le_of_ble_eq_true rfl⟩) rfl (Nat.le_of_ble_eq_true rfl) (c_X12_isNear (xl X) (xG X) hX hM ⟨hS.2.1, hS.1, trivial⟩ hq)) (Nat.le_of_ble_eq_true rfl) (Nat.le_of_ble_eq_true rfl) rfl rfl rfl (fun v12 M11 => ?_)
      refine i_if_eq (tgt := 87) C dX12_alikeOf_80 (by decide) ?_ ?_
      · refine i_iconst C dX12_alikeOf_87 kI_0 ?_
        exact i_iret C hq dX12_alikeOf_88
      · refine i_iconst C dX12_alikeOf_83 kI_1 ?_
        refine i_goto (tgt := 88) C dX12_alikeOf_84 (by decide) ?_
        exact i_iret C hq dX12_alikeOf_88
    · refine i_iconst C dX12_alikeOf_60 kI_2 ?_
      refine i_goto (tgt := 88) C dX12_alikeOf_61 (by decide) ?_
      exact i_iret C hq dX12_alikeOf_88
  · refine i_iconst C dX12_alikeOf_42 kI_0 ?_
    exact i_iret C hq dX12_alikeOf_43
set_option maxRecDepth 100000 in
set_option maxHeartbeats 4000000 in
theorem c_X12_alike (l : Launch) (G : Gx) {K : Kx} (hK : K = kR) {x1 : Int} {x2 : Int} {M : Mem} {res : Int × Mem} (hM : OkM M) (ha : okS [aR 0, aI x1, aI x2]) (hF : rM_alike x1 x2 M = some res) : Ct l G K yX12_alike (wsM yX12_alike cX12_alike 3 (some .int)) rmX12_alike [aR 0, aI x1, aI x2] M (some (aI res.1)) res.2 := by
  refine ct_of RX12 (by decide +kernel) rfl (hK ▸ kR_ok) hM ha (Nat.le_of_ble_eq_true rfl) hF ?_
  intro X C hl hG hX0 hN hR hq
  have hX : xK X = kR := hX0.trans hK
  show Im X 0 0 0 [(0, aR 0), (1, aI x1), (2, aI x2)] [] M res (rM_alike x1 x2 M)
  unfold rM_alike
  have hRm : ∀ {rm : Room} {ny : Nat}, RmOk rmX12_alike rm ny → RmOk (xR X) rm ny := fun h => by rw [hR]; exact h
  refine i_iload_n C dX12_alike_0 rfl (q := 1) rfl ?_
  refine i_i2l C dX12_alike_1 ?_
  refine i_lconst C dX12_alike_2 kL_0 ?_
  refine i_aload_n C dX12_alike_3 rfl (q := 0) rfl ?_
  refine i_getR C (k := 0) kX12 dX12_alike_4 (shR_0 hX) rfl (by decide) fl_X12_7 ?_
  refine i_bipush C dX12_alike_7 kB_8 ?_
  refine i_ald C dX12_alike_9 (shR_1 hX) (fun v1 => ?_)
  refine i_iconst C dX12_alike_10 kI_1 ?_
  refine i_isub C dX12_alike_11 ?_
  refine i_i2l C dX12_alike_12 ?_
  refine i_cI (kc' := 0) (ks' := 0) 0 0 3 (fun q hq hM hS => crS C (as := [aL x1, aL 0, aL (w32 (v1 - 1))]) dX12_alike_13.1 ml_X12_78 cal_X12_isIn st_X12_isIn (hRm ⟨Nat.le_of_ble_eq_true rfl, Nat.le_of_ble_eq_true rfl⟩) rfl (Nat.le_of_ble_eq_true rfl) (c_X12_isIn (xl X) (xG X) hX hM ⟨hS.2.2.1, hS.2.1, hS.1, trivial⟩ hq)) (Nat.le_of_ble_eq_true rfl) (Nat.le_of_ble_eq_true rfl) rfl rfl rfl (fun v3 M2 => ?_)
  refine i_if_eq (tgt := 47) C dX12_alike_16 (by decide) ?_ ?_
  · refine i_ldc C dX12_alike_47 kc_X12_102 kI_m1000000001 ?_
    exact i_iret C hq dX12_alike_49
  · refine i_iload_n C dX12_alike_19 rfl (q := 2) rfl ?_
    refine i_i2l C dX12_alike_20 ?_
    refine i_lconst C dX12_alike_21 kL_0 ?_
    refine i_aload_n C dX12_alike_22 rfl (q := 0) rfl ?_
    refine i_getR C (k := 0) kX12 dX12_alike_23 (shR_0 hX) rfl (by decide) fl_X12_7 ?_
    refine i_bipush C dX12_alike_26 kB_9 ?_
    refine i_ald C dX12_alike_28 (shR_1 hX) (fun v4 => ?_)
    refine i_iconst C dX12_alike_29 kI_1 ?_
    refine i_isub C dX12_alike_30 ?_
    refine i_i2l C dX12_alike_31 ?_
    refine i_cI (kc' := 0) (ks' := 0) 0 0 3 (fun q hq hM hS => crS C (as := [aL x2, aL 0, aL (w32 (v4 - 1))]) dX12_alike_32.1 ml_X12_78 cal_X12_isIn st_X12_isIn (hRm ⟨Nat.le_of_ble_eq_true rfl, Nat.le_of_ble_eq_true rfl⟩) rfl (Nat.le_of_ble_eq_true rfl) (c_X12_isIn (xl X) (xG X) hX hM ⟨hS.2.2.1, hS.2.1, hS.1, trivial⟩ hq)) (Nat.le_of_ble_eq_true rfl) (Nat.le_of_ble_eq_true rfl) rfl rfl rfl (fun v6 M5 => ?_)
    refine i_if_eq (tgt := 47) C dX12_alike_35 (by decide) ?_ ?_
    · refine i_ldc C dX12_alike_47 kc_X12_102 kI_m1000000001 ?_
      exact i_iret C hq dX12_alike_49
    · refine i_aload_n C dX12_alike_38 rfl (q := 0) rfl ?_
      refine i_iload_n C dX12_alike_39 rfl (q := 1) rfl ?_
      refine i_iload_n C dX12_alike_40 rfl (q := 2) rfl ?_
      refine i_cI (kc' := 0) (ks' := 0) 0 0 3 (fun q hq hM hS => crV C (as := [aI x1, aI x2]) dX12_alike_41.1 kX12 (shR_0 hX) ml_X12_362 cal_X12_alikeOf cv_X12_alikeOf (hRm ⟨Nat.le_of_ble_eq_true rfl, Nat.le_of_ble_eq_true rfl⟩) rfl (Nat.le_of_ble_eq_true rfl) (c_X12_alikeOf (xl X) (xG X) hX hM ⟨hS.2.2.1, hS.2.1, hS.1, trivial⟩ hq)) (Nat.le_of_ble_eq_true rfl) (Nat.le_of_ble_eq_true rfl) rfl rfl rfl (fun v8 M7 => ?_)
      refine i_goto (tgt := 49) C dX12_alike_44 (by decide) ?_
      exact i_iret C hq dX12_alike_49
set_option maxRecDepth 100000 in
set_option maxHeartbeats 4000000 in
theorem c_X12_pairWorth (l : Launch) (G : Gx) {K : Kx} (hK : K = kR) {x1 : Int} {x2 : Int} {x3 : Int} {M : Mem} {res : Int × Mem} (hM : OkM M) (ha : okS [aR 0, aI x1, aI x2, aI x3]) (hF : rM_pairWorth x1 x2 x3 M = some res) : Ct l G K yX12_pairWorth (wsM yX12_pairWorth cX12_pairWorth 5 (some .int)) rmX12_pairWorth [aR 0, aI x1, aI x2, aI x3] M (some (aI res.1)) res.2 := by
  refine ct_of RX12 (by decide +kernel) rfl (hK ▸ kR_ok) hM ha (Nat.le_of_ble_eq_true rfl) hF ?_
  intro X C hl hG hX0 hN hR hq
  have hX : xK X = kR := hX0.trans hK
  show Im X 0 0 0 [(0, aR 0), (1, aI x1), (2, aI x2), (3, aI x3)] [] M res (rM_pairWorth x1 x2 x3 M)
  unfold rM_pairWorth
  have hl4 : 4 < xn X := by rw [hN]; decide
  have hRm : ∀ {rm : Room} {ny : Nat}, RmOk rmX12_pairWorth rm ny → RmOk (xR X) rm ny := fun h => by rw [hR]; exact h
  refine i_aload_n C dX12_pairWorth_0 rfl (q := 0) rfl ?_
  refine i_iload_n C dX12_pairWorth_1 rfl (q := 1) rfl ?_
  refine i_iload_n C dX12_pairWorth_2 rfl (q := 2) rfl ?_
  refine i_cI (kc' := 0) (ks' := 0) 0 0 3 (fun q hq hM hS => crV C (as := [aI x1, aI x2]) dX12_pairWorth_3.1 kX12 (shR_0 hX) ml_X12_362 cal_X12_alikeOf cv_X12_alikeOf (hRm ⟨Nat.le_of_ble_eq_true rfl, Nat.le_of_ble_eq_true rfl⟩) rfl (Nat.le_of_ble_eq_true rfl) (c_X12_alikeOf (xl X) (xG X) hX hM ⟨hS.2.2.1, hS.2.1, hS.1, trivial⟩ hq)) (Nat.le_of_ble_eq_true rfl) (Nat.le_of_ble_eq_true rfl) rfl rfl rfl (fun v2 M1 => ?_)
  refine i_istore C dX12_pairWorth_6 hl4 (L' := [(0, aR 0), (1, aI x1), (2, aI x2), (3, aI x3), (4, aI v2)]) rfl ?_
  refine i_iload C dX12_pairWorth_8 (q := 4) rfl ?_
  refine i_if_eq (tgt := 22) C dX12_pairWorth_10 (by decide) ?_ ?_
  · refine i_iconst C dX12_pairWorth_22 kI_m1 ?_
    exact i_iret C hq dX12_pairWorth_23
  · refine i_iload_n C dX12_pairWorth_13 rfl (q := 3) rfl ?_
    refine i_iload_n C dX12_pairWorth_14 rfl (q := 2) rfl ?_
    refine i_ishr C dX12_pairWorth_15 ?_
    refine i_iconst C dX12_pairWorth_16 kI_1 ?_
    refine i_iand C dX12_pairWorth_17 ?_
    refine i_iconst C dX12_pairWorth_18 kI_1 ?_
    refine i_icmp_ne (tgt := 24) C dX12_pairWorth_19 (by decide) ?_ ?_
    · refine i_iload C dX12_pairWorth_24 (q := 4) rfl ?_
      refine i_iconst C dX12_pairWorth_26 kI_2 ?_
      refine i_jn (fun j => ∀ (p3 : Int) (M5 : Mem), Im X 0 0 36 [(0, aR 0), (1, aI x1), (2, aI x2), (3, aI x3)] [aI p3] M5 res (j p3 M5)) ?_ (fun j4 hj4 => ?_)
      · intro p3 M5
        refine i_aload_n C dX12_pairWorth_36 rfl (q := 0) rfl ?_
        refine i_getR C (k := 26) kX12 dX12_pairWorth_37 (shR_0 hX) rfl (by decide) fl_X12_53 ?_
        refine i_sipush C dX12_pairWorth_40 kS_1024 ?_
        refine i_iload_n C dX12_pairWorth_43 rfl (q := 1) rfl ?_
        refine i_iconst C dX12_pairWorth_44 kI_1 ?_
        refine i_iadd C dX12_pairWorth_45 ?_
        refine i_imul C dX12_pairWorth_46 ?_
        refine i_iload_n C dX12_pairWorth_47 rfl (q := 3) rfl ?_
        refine i_iconst C dX12_pairWorth_48 kI_1 ?_
        refine i_iload_n C dX12_pairWorth_49 rfl (q := 2) rfl ?_
        refine i_ishl C dX12_pairWorth_50 ?_
        refine i_ior C dX12_pairWorth_51 ?_
        refine i_iadd C dX12_pairWorth_52 ?_
        refine i_ald C dX12_pairWorth_53 (shR_14 hX) (fun v6 => ?_)
        refine i_iadd C dX12_pairWorth_54 ?_
        exact i_iret C hq dX12_pairWorth_55
      refine i_icmp_ne (tgt := 35) C dX12_pairWorth_27 (by decide) ?_ ?_
      · refine i_iconst C dX12_pairWorth_35 kI_1 ?_
        exact i_sub [0, 1, 2, 3] rfl (hj4 1 M1)
      · refine i_bipush C dX12_pairWorth_30 kB_100 ?_
        refine i_goto (tgt := 36) C dX12_pairWorth_32 (by decide) ?_
        exact i_sub [0, 1, 2, 3] rfl (hj4 100 M1)
    · refine i_iconst C dX12_pairWorth_22 kI_m1 ?_
      exact i_iret C hq dX12_pairWorth_23
set_option maxRecDepth 100000 in
set_option maxHeartbeats 4000000 in
theorem w_X12_findPairs_18 {X : Xc} (C : Cx X RX12 cX12_findPairs (some .int)) (hX : xK X = kR) (hN : xn X = 8) (hR : xR X = rmX12_findPairs) {res : Int × Mem} (hq : Rq X (some (aI res.1)) res.2) (y1 : Int) (y2 : Int) {k44 : Mem → Option (Int × Mem)} (hk44 : ∀ (M : Mem), Im X 0 0 44 [(0, aR 0), (1, aI y1), (2, aI y2)] [] M res (k44 M)) : ∀ (n : Nat) (u3 : Int) (M : Mem), Im X 0 0 18 [(0, aR 0), (1, aI y1), (2, aI y2), (3, aI u3)] [] M res (lpX12_findPairs_18 y1 y2 k44 n u3 M) := by
  have hl1 : 1 < xn X := by rw [hN]; decide
  have hl2 : 2 < xn X := by rw [hN]; decide
  have hl3 : 3 < xn X := by rw [hN]; decide
  intro n
  induction n with
  | zero => intro _ _; exact i_none
  | succ n ih =>
    intro u3 M
    unfold lpX12_findPairs_18
    refine i_iload_n C dX12_findPairs_18 rfl (q := 3) rfl ?_
    refine i_iconst C dX12_findPairs_19 kI_1 ?_
    refine i_iload_n C dX12_findPairs_20 rfl (q := 2) rfl ?_
    refine i_ishl C dX12_findPairs_21 ?_
    refine i_icmp_ge (tgt := 44) C dX12_findPairs_22 (by decide) ?_ ?_
    · exact i_sub [0, 1, 2] rfl (hk44  M)
    · refine i_aload_n C dX12_findPairs_25 rfl (q := 0) rfl ?_
      refine i_getR C (k := 26) kX12 dX12_findPairs_26 (shR_0 hX) rfl (by decide) fl_X12_53 ?_
      refine i_sipush C dX12_findPairs_29 kS_1024 ?_
      refine i_iload_n C dX12_findPairs_32 rfl (q := 1) rfl ?_
      refine i_imul C dX12_findPairs_33 ?_
      refine i_iload_n C dX12_findPairs_34 rfl (q := 3) rfl ?_
      refine i_iadd C dX12_findPairs_35 ?_
      refine i_iconst C dX12_findPairs_36 kI_0 ?_
      refine i_ast C dX12_findPairs_37 (shR_14 hX) (fun M3 => ?_)
      refine i_iincN (L' := fun v4 => [(0, aR 0), (1, aI y1), (2, aI y2), (3, aI v4)]) C dX12_findPairs_38 (q := 3) rfl hl3 (fun _ => rfl) (fun v4 => ?_)
      refine i_goto (tgt := 18) C dX12_findPairs_41 (by decide) ?_
      exact (ih v4 M3)
set_option maxRecDepth 100000 in
set_option maxHeartbeats 4000000 in
theorem w_X12_findPairs_83 {X : Xc} (C : Cx X RX12 cX12_findPairs (some .int)) (hX : xK X = kR) (hN : xn X = 8) (hR : xR X = rmX12_findPairs) {res : Int × Mem} (hq : Rq X (some (aI res.1)) res.2) (y1 : Int) (y2 : Int) (y3 : Int) (y4 : Int) {k122 : Int → Mem → Option (Int × Mem)} (hk122 : ∀ (q5 : Int) (M : Mem), Im X 0 0 122 [(0, aR 0), (1, aI y1), (2, aI y2), (3, aI y3), (4, aI y4), (5, aI q5)] [] M res (k122 q5 M)) : ∀ (n : Nat) (u5 : Int) (u6 : Int) (M : Mem), Im X 0 0 83 [(0, aR 0), (1, aI y1), (2, aI y2), (3, aI y3), (4, aI y4), (5, aI u5), (6, aI u6)] [] M res (lpX12_findPairs_83 y1 y2 y3 y4 k122 n u5 u6 M) := by
  have hl1 : 1 < xn X := by rw [hN]; decide
  have hl2 : 2 < xn X := by rw [hN]; decide
  have hl3 : 3 < xn X := by rw [hN]; decide
  have hl4 : 4 < xn X := by rw [hN]; decide
  have hl5 : 5 < xn X := by rw [hN]; decide
  have hl6 : 6 < xn X := by rw [hN]; decide
  have hl7 : 7 < xn X := by rw [hN]; decide
  have hRm : ∀ {rm : Room} {ny : Nat}, RmOk rmX12_findPairs rm ny → RmOk (xR X) rm ny := fun h => by rw [hR]; exact h
  intro n
  induction n with
  | zero => intro _ _ _; exact i_none
  | succ n ih =>
    intro u5 u6 M
    unfold lpX12_findPairs_83
    refine i_iload C dX12_findPairs_83 (q := 6) rfl ?_
    refine i_iload_n C dX12_findPairs_85 rfl (q := 2) rfl ?_
    refine i_icmp_ge (tgt := 122) C dX12_findPairs_86 (by decide) ?_ ?_
    · exact i_sub [0, 1, 2, 3, 4, 5] rfl (hk122 u5 M)
    · refine i_aload_n C dX12_findPairs_89 rfl (q := 0) rfl ?_
      refine i_iload_n C dX12_findPairs_90 rfl (q := 3) rfl ?_
      refine i_iload C dX12_findPairs_91 (q := 6) rfl ?_
      refine i_iload C dX12_findPairs_93 (q := 4) rfl ?_
      refine i_cI (kc' := 0) (ks' := 0) 0 0 4 (fun q hq hM hS => crV C (as := [aI y3, aI u6, aI y4]) dX12_findPairs_95.1 kX12 (shR_0 hX) ml_X12_365 cal_X12_pairWorth cv_X12_pairWorth (hRm ⟨Nat.le_of_ble_eq_true rfl, Nat.le_of_ble_eq_true rfl⟩) rfl (Nat.le_of_ble_eq_true rfl) (c_X12_pairWorth (xl X) (xG X) hX hM ⟨hS.2.2.2.1, hS.2.2.1, hS.2.1, hS.1, trivial⟩ hq)) (Nat.le_of_ble_eq_true rfl) (Nat.le_of_ble_eq_true rfl) rfl rfl rfl (fun v9 M8 => ?_)
      refine i_istore C dX12_findPairs_98 hl7 (L' := [(0, aR 0), (1, aI y1), (2, aI y2), (3, aI y3), (4, aI y4), (5, aI u5), (6, aI u6), (7, aI v9)]) rfl ?_
      refine i_iload C dX12_findPairs_100 (q := 7) rfl ?_
      refine i_iload C dX12_findPairs_102 (q := 5) rfl ?_
      refine i_jn (fun j => ∀ (p10 : Int) (M12 : Mem), Im X 0 0 114 [(0, aR 0), (1, aI y1), (2, aI y2), (3, aI y3), (4, aI y4), (6, aI u6)] [aI p10] M12 res (j p10 M12)) ?_ (fun j11 hj11 => ?_)
      · intro p10 M12
        refine i_istore C dX12_findPairs_114 hl5 (L' := [(0, aR 0), (1, aI y1), (2, aI y2), (3, aI y3), (4, aI y4), (5, aI p10), (6, aI u6)]) rfl ?_
        refine i_iincN (L' := fun v13 => [(0, aR 0), (1, aI y1), (2, aI y2), (3, aI y3), (4, aI y4), (5, aI p10), (6, aI v13)]) C dX12_findPairs_116 (q := 6) rfl hl6 (fun _ => rfl) (fun v13 => ?_)
        refine i_goto (tgt := 83) C dX12_findPairs_119 (by decide) ?_
        exact (ih p10 v13 M12)
      refine i_icmp_le (tgt := 112) C dX12_findPairs_104 (by decide) ?_ ?_
      · refine i_iload C dX12_findPairs_112 (q := 5) rfl ?_
        exact i_sub [0, 1, 2, 3, 4, 6] rfl (hj11 u5 M8)
      · refine i_iload C dX12_findPairs_107 (q := 7) rfl ?_
        refine i_goto (tgt := 114) C dX12_findPairs_109 (by decide) ?_
        exact i_sub [0, 1, 2, 3, 4, 6] rfl (hj11 v9 M8)
set_option maxRecDepth 100000 in
set_option maxHeartbeats 4000000 in
theorem w_X12_findPairs_55 {X : Xc} (C : Cx X RX12 cX12_findPairs (some .int)) (hX : xK X = kR) (hN : xn X = 8) (hR : xR X = rmX12_findPairs) {res : Int × Mem} (hq : Rq X (some (aI res.1)) res.2) (y1 : Int) (y2 : Int) (y3 : Int) {k143 : Mem → Option (Int × Mem)} (hk143 : ∀ (M : Mem), Im X 0 0 143 [(0, aR 0), (1, aI y1), (2, aI y2), (3, aI y3)] [] M res (k143 M)) : ∀ (n : Nat) (u4 : Int) (M : Mem), Im X 0 0 55 [(0, aR 0), (1, aI y1), (2, aI y2), (3, aI y3), (4, aI u4)] [] M res (lpX12_findPairs_55 y1 y2 y3 k143 n u4 M) := by
  have hl1 : 1 < xn X := by rw [hN]; decide
  have hl2 : 2 < xn X := by rw [hN]; decide
  have hl3 : 3 < xn X := by rw [hN]; decide
  have hl4 : 4 < xn X := by rw [hN]; decide
  have hl5 : 5 < xn X := by rw [hN]; decide
  have hl6 : 6 < xn X := by rw [hN]; decide
  have hl7 : 7 < xn X := by rw [hN]; decide
  have hRm : ∀ {rm : Room} {ny : Nat}, RmOk rmX12_findPairs rm ny → RmOk (xR X) rm ny := fun h => by rw [hR]; exact h
  intro n
  induction n with
  | zero => intro _ _; exact i_none
  | succ n ih =>
    intro u4 M
    unfold lpX12_findPairs_55
    refine i_iload C dX12_findPairs_55 (q := 4) rfl ?_
    refine i_iconst C dX12_findPairs_57 kI_1 ?_
    refine i_iload_n C dX12_findPairs_58 rfl (q := 2) rfl ?_
    refine i_ishl C dX12_findPairs_59 ?_
    refine i_icmp_ge (tgt := 143) C dX12_findPairs_60 (by decide) ?_ ?_
    · exact i_sub [0, 1, 2, 3] rfl (hk143  M)
    · refine i_aload_n C dX12_findPairs_63 rfl (q := 0) rfl ?_
      refine i_getR C (k := 26) kX12 dX12_findPairs_64 (shR_0 hX) rfl (by decide) fl_X12_53 ?_
      refine i_sipush C dX12_findPairs_67 kS_1024 ?_
      refine i_iload_n C dX12_findPairs_70 rfl (q := 3) rfl ?_
      refine i_iconst C dX12_findPairs_71 kI_1 ?_
      refine i_iadd C dX12_findPairs_72 ?_
      refine i_imul C dX12_findPairs_73 ?_
      refine i_iload C dX12_findPairs_74 (q := 4) rfl ?_
      refine i_iadd C dX12_findPairs_76 ?_
      refine i_ald C dX12_findPairs_77 (shR_14 hX) (fun v7 => ?_)
      refine i_istore C dX12_findPairs_78 hl5 (L' := [(0, aR 0), (1, aI y1), (2, aI y2), (3, aI y3), (4, aI u4), (5, aI v7)]) rfl ?_
      refine i_iconst C dX12_findPairs_80 kI_0 ?_
      refine i_istore C dX12_findPairs_81 hl6 (L' := [(0, aR 0), (1, aI y1), (2, aI y2), (3, aI y3), (4, aI u4), (5, aI v7), (6, aI 0)]) rfl ?_
      refine (w_X12_findPairs_83 C hX hN hR hq y1 y2 y3 u4 (fun v14 M15 => ?_) FU v7 0 M)
      refine i_aload_n C dX12_findPairs_122 rfl (q := 0) rfl ?_
      refine i_getR C (k := 26) kX12 dX12_findPairs_123 (shR_0 hX) rfl (by decide) fl_X12_53 ?_
      refine i_sipush C dX12_findPairs_126 kS_1024 ?_
      refine i_iload_n C dX12_findPairs_129 rfl (q := 3) rfl ?_
      refine i_imul C dX12_findPairs_130 ?_
      refine i_iload C dX12_findPairs_131 (q := 4) rfl ?_
      refine i_iadd C dX12_findPairs_133 ?_
      refine i_iload C dX12_findPairs_134 (q := 5) rfl ?_
      refine i_ast C dX12_findPairs_136 (shR_14 hX) (fun M16 => ?_)
      refine i_iincN (L' := fun v17 => [(0, aR 0), (1, aI y1), (2, aI y2), (3, aI y3), (4, aI v17), (5, aI v14)]) C dX12_findPairs_137 (q := 4) rfl hl4 (fun _ => rfl) (fun v17 => ?_)
      refine i_goto (tgt := 55) C dX12_findPairs_140 (by decide) ?_
      exact i_sub [0, 1, 2, 3, 4] rfl (ih v17 M16)
set_option maxRecDepth 100000 in
set_option maxHeartbeats 4000000 in
theorem w_X12_findPairs_48 {X : Xc} (C : Cx X RX12 cX12_findPairs (some .int)) (hX : xK X = kR) (hN : xn X = 8) (hR : xR X = rmX12_findPairs) {res : Int × Mem} (hq : Rq X (some (aI res.1)) res.2) (y1 : Int) (y2 : Int) {k149 : Mem → Option (Int × Mem)} (hk149 : ∀ (M : Mem), Im X 0 0 149 [(0, aR 0), (1, aI y1), (2, aI y2)] [] M res (k149 M)) : ∀ (n : Nat) (u3 : Int) (M : Mem), Im X 0 0 48 [(0, aR 0), (1, aI y1), (2, aI y2), (3, aI u3)] [] M res (lpX12_findPairs_48 y1 y2 k149 n u3 M) := by
  have hl1 : 1 < xn X := by rw [hN]; decide
  have hl2 : 2 < xn X := by rw [hN]; decide
  have hl3 : 3 < xn X := by rw [hN]; decide
  have hl4 : 4 < xn X := by rw [hN]; decide
  have hl5 : 5 < xn X := by rw [hN]; decide
  have hl6 : 6 < xn X := by rw [hN]; decide
  have hl7 : 7 < xn X := by rw [hN]; decide
  have hRm : ∀ {rm : Room} {ny : Nat}, RmOk rmX12_findPairs rm ny → RmOk (xR X) rm ny := fun h => by rw [hR]; exact h
  intro n
  induction n with
  | zero => intro _ _; exact i_none
  | succ n ih =>
    intro u3 M
    unfold lpX12_findPairs_48
    refine i_iload_n C dX12_findPairs_48 rfl (q := 3) rfl ?_
    refine i_if_lt (tgt := 149) C dX12_findPairs_49 (by decide) ?_ ?_
    · exact i_sub [0, 1, 2] rfl (hk149  M)
    · refine i_iconst C dX12_findPairs_52 kI_0 ?_
      refine i_istore C dX12_findPairs_53 hl4 (L' := [(0, aR 0), (1, aI y1), (2, aI y2), (3, aI u3), (4, aI 0)]) rfl ?_
      refine (w_X12_findPairs_55 C hX hN hR hq y1 y2 u3 (fun M18 => ?_) FU 0 M)
      refine i_iincN (L' := fun v19 => [(0, aR 0), (1, aI y1), (2, aI y2), (3, aI v19)]) C dX12_findPairs_143 (q := 3) rfl hl3 (fun _ => rfl) (fun v19 => ?_)
      refine i_goto (tgt := 48) C dX12_findPairs_146 (by decide) ?_
      exact (ih v19 M18)
set_option maxRecDepth 100000 in
set_option maxHeartbeats 4000000 in
theorem w_X12_findPairs_163 {X : Xc} (C : Cx X RX12 cX12_findPairs (some .int)) (hX : xK X = kR) (hN : xn X = 8) (hR : xR X = rmX12_findPairs) {res : Int × Mem} (hq : Rq X (some (aI res.1)) res.2) (y1 : Int) (y2 : Int) (y3 : Int) (y4 : Int) {k200 : Int → Mem → Option (Int × Mem)} (hk200 : ∀ (q5 : Int) (M : Mem), Im X 0 0 200 [(0, aR 0), (1, aI y1), (2, aI y2), (3, aI y3), (4, aI y4), (5, aI q5)] [] M res (k200 q5 M)) : ∀ (n : Nat) (u5 : Int) (M : Mem), Im X 0 0 163 [(0, aR 0), (1, aI y1), (2, aI y2), (3, aI y3), (4, aI y4), (5, aI u5)] [] M res (lpX12_findPairs_163 y1 y2 y3 y4 k200 n u5 M) := by
  have hl1 : 1 < xn X := by rw [hN]; decide
  have hl2 : 2 < xn X := by rw [hN]; decide
  have hl3 : 3 < xn X := by rw [hN]; decide
  have hl4 : 4 < xn X := by rw [hN]; decide
  have hl5 : 5 < xn X := by rw [hN]; decide
  have hl6 : 6 < xn X := by rw [hN]; decide
  have hl7 : 7 < xn X := by rw [hN]; decide
  have hRm : ∀ {rm : Room} {ny : Nat}, RmOk rmX12_findPairs rm ny → RmOk (xR X) rm ny := fun h => by rw [hR]; exact h
  intro n
  induction n with
  | zero => intro _ _; exact i_none
  | succ n ih =>
    intro u5 M
    unfold lpX12_findPairs_163
    refine i_iload C dX12_findPairs_163 (q := 5) rfl ?_
    refine i_iload_n C dX12_findPairs_165 rfl (q := 2) rfl ?_
    refine i_icmp_ge (tgt := 200) C dX12_findPairs_166 (by decide) ?_ ?_
    · exact (hk200 u5 M)
    · refine i_aload_n C dX12_findPairs_169 rfl (q := 0) rfl ?_
      refine i_iload C dX12_findPairs_170 (q := 4) rfl ?_
      refine i_iload C dX12_findPairs_172 (q := 5) rfl ?_
      refine i_iload_n C dX12_findPairs_174 rfl (q := 3) rfl ?_
      refine i_cI (kc' := 0) (ks' := 0) 0 0 4 (fun q hq hM hS => crV C (as := [aI y4, aI u5, aI y3]) dX12_findPairs_175.1 kX12 (shR_0 hX) ml_X12_365 cal_X12_pairWorth cv_X12_pairWorth (hRm ⟨Nat.le_of_ble_eq_true rfl, Nat.le_of_ble_eq_true rfl⟩) rfl (Nat.le_of_ble_eq_true rfl) (c_X12_pairWorth (xl X) (xG X) hX hM ⟨hS.2.2.2.1, hS.2.2.1, hS.2.1, hS.1, trivial⟩ hq)) (Nat.le_of_ble_eq_true rfl) (Nat.le_of_ble_eq_true rfl) rfl rfl rfl (fun v23 M22 => ?_)
      refine i_aload_n C dX12_findPairs_178 rfl (q := 0) rfl ?_
      refine i_getR C (k := 26) kX12 dX12_findPairs_179 (shR_0 hX) rfl (by decide) fl_X12_53 ?_
      refine i_sipush C dX12_findPairs_182 kS_1024 ?_
      refine i_iload C dX12_findPairs_185 (q := 4) rfl ?_
      refine i_imul C dX12_findPairs_187 ?_
      refine i_iload_n C dX12_findPairs_188 rfl (q := 3) rfl ?_
      refine i_iadd C dX12_findPairs_189 ?_
      refine i_ald C dX12_findPairs_190 (shR_14 hX) (fun v24 => ?_)
      refine i_icmp_eq (tgt := 200) C dX12_findPairs_191 (by decide) ?_ ?_
      · exact (hk200 u5 M22)
      · refine i_iincN (L' := fun v25 => [(0, aR 0), (1, aI y1), (2, aI y2), (3, aI y3), (4, aI y4), (5, aI v25)]) C dX12_findPairs_194 (q := 5) rfl hl5 (fun _ => rfl) (fun v25 => ?_)
        refine i_goto (tgt := 163) C dX12_findPairs_197 (by decide) ?_
        exact (ih v25 M22)
set_option maxRecDepth 100000 in
set_option maxHeartbeats 4000000 in
theorem w_X12_findPairs_154 {X : Xc} (C : Cx X RX12 cX12_findPairs (some .int)) (hX : xK X = kR) (hN : xn X = 8) (hR : xR X = rmX12_findPairs) {res : Int × Mem} (hq : Rq X (some (aI res.1)) res.2) (y1 : Int) (y2 : Int) : ∀ (n : Nat) (u3 : Int) (u4 : Int) (M : Mem), Im X 0 0 154 [(0, aR 0), (1, aI y1), (2, aI y2), (3, aI u3), (4, aI u4)] [] M res (lpX12_findPairs_154 y1 y2 n u3 u4 M) := by
  have hl1 : 1 < xn X := by rw [hN]; decide
  have hl2 : 2 < xn X := by rw [hN]; decide
  have hl3 : 3 < xn X := by rw [hN]; decide
  have hl4 : 4 < xn X := by rw [hN]; decide
  have hl5 : 5 < xn X := by rw [hN]; decide
  have hl6 : 6 < xn X := by rw [hN]; decide
  have hl7 : 7 < xn X := by rw [hN]; decide
  have hRm : ∀ {rm : Room} {ny : Nat}, RmOk rmX12_findPairs rm ny → RmOk (xR X) rm ny := fun h => by rw [hR]; exact h
  intro n
  induction n with
  | zero => intro _ _ _; exact i_none
  | succ n ih =>
    intro u3 u4 M
    unfold lpX12_findPairs_154
    refine i_iload C dX12_findPairs_154 (q := 4) rfl ?_
    refine i_iload_n C dX12_findPairs_156 rfl (q := 1) rfl ?_
    refine i_icmp_ge (tgt := 243) C dX12_findPairs_157 (by decide) ?_ ?_
    · refine i_aload_n C dX12_findPairs_243 rfl (q := 0) rfl ?_
      refine i_getR C (k := 26) kX12 dX12_findPairs_244 (shR_0 hX) rfl (by decide) fl_X12_53 ?_
      refine i_iconst C dX12_findPairs_247 kI_0 ?_
      refine i_ald C dX12_findPairs_248 (shR_14 hX) (fun v21 => ?_)
      exact i_iret C hq dX12_findPairs_249
    · refine i_iconst C dX12_findPairs_160 kI_0 ?_
      refine i_istore C dX12_findPairs_161 hl5 (L' := [(0, aR 0), (1, aI y1), (2, aI y2), (3, aI u3), (4, aI u4), (5, aI 0)]) rfl ?_
      refine (w_X12_findPairs_163 C hX hN hR hq y1 y2 u3 u4 (fun v26 M27 => ?_) FU 0 M)
      refine i_aload_n C dX12_findPairs_200 rfl (q := 0) rfl ?_
      refine i_getR C (k := 27) kX12 dX12_findPairs_201 (shR_0 hX) rfl (by decide) fl_X12_56 ?_
      refine i_iload C dX12_findPairs_204 (q := 4) rfl ?_
      refine i_iload C dX12_findPairs_206 (q := 5) rfl ?_
      refine i_iload_n C dX12_findPairs_208 rfl (q := 2) rfl ?_
      refine i_jn (fun j => ∀ (p28 : Int) (M30 : Mem), Im X 0 0 219 [(0, aR 0), (1, aI y1), (2, aI y2), (3, aI u3), (4, aI u4), (5, aI v26)] [aI p28, aI u4, aR 15] M30 res (j p28 M30)) ?_ (fun j29 hj29 => ?_)
      · intro p28 M30
        refine i_ast C dX12_findPairs_219 (shR_15 hX) (fun M31 => ?_)
        refine i_iload_n C dX12_findPairs_220 rfl (q := 3) rfl ?_
        refine i_iload C dX12_findPairs_221 (q := 5) rfl ?_
        refine i_iload_n C dX12_findPairs_223 rfl (q := 2) rfl ?_
        refine i_jn (fun j => ∀ (p32 : Int) (M34 : Mem), Im X 0 0 235 [(0, aR 0), (1, aI y1), (2, aI y2), (4, aI u4)] [aI p32, aI u3] M34 res (j p32 M34)) ?_ (fun j33 hj33 => ?_)
        · intro p32 M34
          refine i_ior C dX12_findPairs_235 ?_
          refine i_nm (fun v35 => ?_)
          refine i_istore_n C dX12_findPairs_236 rfl hl3 (L' := [(0, aR 0), (1, aI y1), (2, aI y2), (3, aI v35), (4, aI u4)]) rfl ?_
          refine i_iincN (L' := fun v36 => [(0, aR 0), (1, aI y1), (2, aI y2), (3, aI v35), (4, aI v36)]) C dX12_findPairs_237 (q := 4) rfl hl4 (fun _ => rfl) (fun v36 => ?_)
          refine i_goto (tgt := 154) C dX12_findPairs_240 (by decide) ?_
          exact (ih v35 v36 M34)
        refine i_icmp_ge (tgt := 234) C dX12_findPairs_224 (by decide) ?_ ?_
        · refine i_iconst C dX12_findPairs_234 kI_0 ?_
          exact i_sub [0, 1, 2, 4] rfl (hj33 0 M31)
        · refine i_iconst C dX12_findPairs_227 kI_1 ?_
          refine i_iload C dX12_findPairs_228 (q := 5) rfl ?_
          refine i_ishl C dX12_findPairs_230 ?_
          refine i_goto (tgt := 235) C dX12_findPairs_231 (by decide) ?_
          exact i_sub [0, 1, 2, 4] rfl (hj33 (bShl 1 v26) M31)
      refine i_icmp_ge (tgt := 217) C dX12_findPairs_209 (by decide) ?_ ?_
      · refine i_ldc C dX12_findPairs_217 kc_X12_77 kI_m1000000005 ?_
        exact (hj29 (-1000000005) M27)
      · refine i_iload C dX12_findPairs_212 (q := 5) rfl ?_
        refine i_goto (tgt := 219) C dX12_findPairs_214 (by decide) ?_
        exact (hj29 v26 M27)
set_option maxRecDepth 100000 in
set_option maxHeartbeats 4000000 in
theorem c_X12_findPairs (l : Launch) (G : Gx) {K : Kx} (hK : K = kR) {M : Mem} {res : Int × Mem} (hM : OkM M) (ha : okS [aR 0]) (hF : rM_findPairs M = some res) : Ct l G K yX12_findPairs (wsM yX12_findPairs cX12_findPairs 8 (some .int)) rmX12_findPairs [aR 0] M (some (aI res.1)) res.2 := by
  refine ct_of RX12 (by decide +kernel) rfl (hK ▸ kR_ok) hM ha (Nat.le_of_ble_eq_true rfl) hF ?_
  intro X C hl hG hX0 hN hR hq
  have hX : xK X = kR := hX0.trans hK
  show Im X 0 0 0 [(0, aR 0)] [] M res (rM_findPairs  M)
  unfold rM_findPairs
  have hl1 : 1 < xn X := by rw [hN]; decide
  have hl2 : 2 < xn X := by rw [hN]; decide
  have hl3 : 3 < xn X := by rw [hN]; decide
  have hl4 : 4 < xn X := by rw [hN]; decide
  have hl5 : 5 < xn X := by rw [hN]; decide
  have hl6 : 6 < xn X := by rw [hN]; decide
  have hl7 : 7 < xn X := by rw [hN]; decide
  have hRm : ∀ {rm : Room} {ny : Nat}, RmOk rmX12_findPairs rm ny → RmOk (xR X) rm ny := fun h => by rw [hR]; exact h
  refine i_aload_n C dX12_findPairs_0 rfl (q := 0) rfl ?_
  refine i_getR C (k := 0) kX12 dX12_findPairs_1 (shR_0 hX) rfl (by decide) fl_X12_7 ?_
  refine i_bipush C dX12_findPairs_4 kB_8 ?_
  refine i_ald C dX12_findPairs_6 (shR_1 hX) (fun v1 => ?_)
  refine i_istore_n C dX12_findPairs_7 rfl hl1 (L' := [(0, aR 0), (1, aI v1)]) rfl ?_
  refine i_aload_n C dX12_findPairs_8 rfl (q := 0) rfl ?_
  refine i_getR C (k := 0) kX12 dX12_findPairs_9 (shR_0 hX) rfl (by decide) fl_X12_7 ?_
  refine i_bipush C dX12_findPairs_12 kB_9 ?_
  refine i_ald C dX12_findPairs_14 (shR_1 hX) (fun v2 => ?_)
  refine i_istore_n C dX12_findPairs_15 rfl hl2 (L' := [(0, aR 0), (1, aI v1), (2, aI v2)]) rfl ?_
  refine i_iconst C dX12_findPairs_16 kI_0 ?_
  refine i_istore_n C dX12_findPairs_17 rfl hl3 (L' := [(0, aR 0), (1, aI v1), (2, aI v2), (3, aI 0)]) rfl ?_
  refine (w_X12_findPairs_18 C hX hN hR hq v1 v2 (fun M5 => ?_) FU 0 M)
  refine i_iload_n C dX12_findPairs_44 rfl (q := 1) rfl ?_
  refine i_iconst C dX12_findPairs_45 kI_1 ?_
  refine i_isub C dX12_findPairs_46 ?_
  refine i_nm (fun v6 => ?_)
  refine i_istore_n C dX12_findPairs_47 rfl hl3 (L' := [(0, aR 0), (1, aI v1), (2, aI v2), (3, aI v6)]) rfl ?_
  refine (w_X12_findPairs_48 C hX hN hR hq v1 v2 (fun M20 => ?_) FU v6 M5)
  refine i_iconst C dX12_findPairs_149 kI_0 ?_
  refine i_istore_n C dX12_findPairs_150 rfl hl3 (L' := [(0, aR 0), (1, aI v1), (2, aI v2), (3, aI 0)]) rfl ?_
  refine i_iconst C dX12_findPairs_151 kI_0 ?_
  refine i_istore C dX12_findPairs_152 hl4 (L' := [(0, aR 0), (1, aI v1), (2, aI v2), (3, aI 0), (4, aI 0)]) rfl ?_
  exact (w_X12_findPairs_154 C hX hN hR hq v1 v2 FU 0 0 M20)
set_option maxRecDepth 100000 in
set_option maxHeartbeats 4000000 in
theorem c_X12_pairing (l : Launch) (G : Gx) {K : Kx} (hK : K = kR) {x1 : Int} {M : Mem} {res : Int × Mem} (hM : OkM M) (ha : okS [aR 0, aI x1]) (hF : rM_pairing x1 M = some res) : Ct l G K yX12_pairing (wsM yX12_pairing cX12_pairing 3 (some .int)) rmX12_pairing [aR 0, aI x1] M (some (aI res.1)) res.2 := by
  refine ct_of RX12 (by decide +kernel) rfl (hK ▸ kR_ok) hM ha (Nat.le_of_ble_eq_true rfl) hF ?_
  intro X C hl hG hX0 hN hR hq
  have hX : xK X = kR := hX0.trans hK
  show Im X 0 0 0 [(0, aR 0), (1, aI x1)] [] M res (rM_pairing x1 M)
  unfold rM_pairing
  have hl2 : 2 < xn X := by rw [hN]; decide
  have hRm : ∀ {rm : Room} {ny : Nat}, RmOk rmX12_pairing rm ny → RmOk (xR X) rm ny := fun h => by rw [hR]; exact h
  refine i_iload_n C dX12_pairing_0 rfl (q := 1) rfl ?_
  refine i_i2l C dX12_pairing_1 ?_
  refine i_lconst C dX12_pairing_2 kL_0 ?_
  refine i_aload_n C dX12_pairing_3 rfl (q := 0) rfl ?_
  refine i_getR C (k := 0) kX12 dX12_pairing_4 (shR_0 hX) rfl (by decide) fl_X12_7 ?_
  refine i_bipush C dX12_pairing_7 kB_8 ?_
  refine i_ald C dX12_pairing_9 (shR_1 hX) (fun v1 => ?_)
  refine i_iconst C dX12_pairing_10 kI_1 ?_
  refine i_iadd C dX12_pairing_11 ?_
  refine i_i2l C dX12_pairing_12 ?_
  refine i_cI (kc' := 0) (ks' := 0) 0 0 3 (fun q hq hM hS => crS C (as := [aL x1, aL 0, aL (w32 (v1 + 1))]) dX12_pairing_13.1 ml_X12_78 cal_X12_isIn st_X12_isIn (hRm ⟨Nat.le_of_ble_eq_true rfl, Nat.le_of_ble_eq_true rfl⟩) rfl (Nat.le_of_ble_eq_true rfl) (c_X12_isIn (xl X) (xG X) hX hM ⟨hS.2.2.1, hS.2.1, hS.1, trivial⟩ hq)) (Nat.le_of_ble_eq_true rfl) (Nat.le_of_ble_eq_true rfl) rfl rfl rfl (fun v3 M2 => ?_)
  refine i_if_ne (tgt := 22) C dX12_pairing_16 (by decide) ?_ ?_
  · refine i_aload_n C dX12_pairing_22 rfl (q := 0) rfl ?_
    refine i_cI (kc' := 0) (ks' := 0) 0 0 1 (fun q hq hM hS => crV C (as := []) dX12_pairing_23.1 kX12 (shR_0 hX) ml_X12_368 cal_X12_findPairs cv_X12_findPairs (hRm ⟨Nat.le_of_ble_eq_true rfl, Nat.le_of_ble_eq_true rfl⟩) rfl (Nat.le_of_ble_eq_true rfl) (c_X12_findPairs (xl X) (xG X) hX hM ⟨hS.1, trivial⟩ hq)) (Nat.le_of_ble_eq_true rfl) (Nat.le_of_ble_eq_true rfl) rfl rfl rfl (fun v5 M4 => ?_)
    refine i_istore_n C dX12_pairing_26 rfl hl2 (L' := [(0, aR 0), (1, aI x1), (2, aI v5)]) rfl ?_
    refine i_iload_n C dX12_pairing_27 rfl (q := 1) rfl ?_
    refine i_if_ne (tgt := 38) C dX12_pairing_28 (by decide) ?_ ?_
    · refine i_iload_n C dX12_pairing_38 rfl (q := 1) rfl ?_
      refine i_iconst C dX12_pairing_39 kI_1 ?_
      refine i_icmp_ne (tgt := 50) C dX12_pairing_40 (by decide) ?_ ?_
      · refine i_aload_n C dX12_pairing_50 rfl (q := 0) rfl ?_
        refine i_getR C (k := 27) kX12 dX12_pairing_51 (shR_0 hX) rfl (by decide) fl_X12_56 ?_
        refine i_iload_n C dX12_pairing_54 rfl (q := 1) rfl ?_
        refine i_iconst C dX12_pairing_55 kI_2 ?_
        refine i_isub C dX12_pairing_56 ?_
        refine i_ald C dX12_pairing_57 (shR_15 hX) (fun v6 => ?_)
        exact i_iret C hq dX12_pairing_58
      · refine i_iload_n C dX12_pairing_43 rfl (q := 2) rfl ?_
        refine i_bipush C dX12_pairing_44 kB_100 ?_
        refine i_irem C dX12_pairing_46 (by decide) ?_
        refine i_goto (tgt := 58) C dX12_pairing_47 (by decide) ?_
        exact i_iret C hq dX12_pairing_58
    · refine i_iload_n C dX12_pairing_31 rfl (q := 2) rfl ?_
      refine i_bipush C dX12_pairing_32 kB_100 ?_
      refine i_idiv C dX12_pairing_34 (by decide) ?_
      refine i_goto (tgt := 58) C dX12_pairing_35 (by decide) ?_
      exact i_iret C hq dX12_pairing_58
  · refine i_ldc C dX12_pairing_19 kc_X12_102 kI_m1000000001 ?_
    exact i_iret C hq dX12_pairing_21
set_option maxRecDepth 100000 in
set_option maxHeartbeats 4000000 in
theorem w_X12_meter_69 {X : Xc} (C : Cx X RX12 cX12_meter (some .int)) (hX : xK X = kR) (hN : xn X = 5) (hR : xR X = rmX12_meter) {res : Int × Mem} (hq : Rq X (some (aI res.1)) res.2) (y1 : Int) : ∀ (n : Nat) (u4 : Int) (M : Mem), Im X 0 0 69 [(0, aR 0), (1, aI y1), (4, aI u4)] [] M res (lpX12_meter_69 y1 n u4 M) := by
  have hl4 : 4 < xn X := by rw [hN]; decide
  have hRm : ∀ {rm : Room} {ny : Nat}, RmOk rmX12_meter rm ny → RmOk (xR X) rm ny := fun h => by rw [hR]; exact h
  intro n
  induction n with
  | zero => intro _ _; exact i_none
  | succ n ih =>
    intro u4 M
    unfold lpX12_meter_69
    refine i_iload C dX12_meter_69 (q := 2) rfl ?_
    refine i_bipush C dX12_meter_71 kB_30 ?_
    refine i_icmp_ge (tgt := 95) C dX12_meter_73 (by decide) ?_ ?_
    · refine i_aload_n C dX12_meter_95 rfl (q := 0) rfl ?_
      refine i_getR C (k := 5) kX12 dX12_meter_96 (shR_0 hX) rfl (by decide) fl_X12_22 ?_
      refine i_iload_n C dX12_meter_99 rfl (q := 1) rfl ?_
      refine i_ald C dX12_meter_100 (shR_5 hX) (fun v14 => ?_)
      exact i_iret C hq dX12_meter_101
    · refine i_aload_n C dX12_meter_76 rfl (q := 0) rfl ?_
      refine i_getR C (k := 6) kX12 dX12_meter_77 (shR_0 hX) rfl (by decide) fl_X12_25 ?_
      refine i_bipush C dX12_meter_80 kB_30 ?_
      refine i_iload_n C dX12_meter_82 rfl (q := 1) rfl ?_
      refine i_imul C dX12_meter_83 ?_
      refine i_iload C dX12_meter_84 (q := 2) rfl ?_
      refine i_iadd C dX12_meter_86 ?_
      refine i_iconst C dX12_meter_87 kI_0 ?_
      refine i_ast C dX12_meter_88 (shR_6 hX) (fun M15 => ?_)
      refine i_iincN (L' := fun v16 => [(0, aR 0), (1, aI y1), (4, aI v16)]) C dX12_meter_89 (q := 2) rfl hl4 (fun _ => rfl) (fun v16 => ?_)
      refine i_goto (tgt := 69) C dX12_meter_92 (by decide) ?_
      exact (ih v16 M15)
set_option maxRecDepth 100000 in
set_option maxHeartbeats 4000000 in
theorem c_X12_meter (l : Launch) (G : Gx) {K : Kx} (hK : K = kR) {x1 : Int} {x2 : Int} {x3 : Int} {M : Mem} {res : Int × Mem} (hM : OkM M) (ha : okS [aR 0, aI x1, aI x2, aI x3]) (hF : rM_meter x1 x2 x3 M = some res) : Ct l G K yX12_meter (wsM yX12_meter cX12_meter 5 (some .int)) rmX12_meter [aR 0, aI x1, aI x2, aI x3] M (some (aI res.1)) res.2 := by
  refine ct_of RX12 (by decide +kernel) rfl (hK ▸ kR_ok) hM ha (Nat.le_of_ble_eq_true rfl) hF ?_
  intro X C hl hG hX0 hN hR hq
  have hX : xK X = kR := hX0.trans hK
  show Im X 0 0 0 [(0, aR 0), (1, aI x1), (2, aI x2), (3, aI x3)] [] M res (rM_meter x1 x2 x3 M)
  unfold rM_meter
  have hl4 : 4 < xn X := by rw [hN]; decide
  have hRm : ∀ {rm : Room} {ny : Nat}, RmOk rmX12_meter rm ny → RmOk (xR X) rm ny := fun h => by rw [hR]; exact h
  refine i_iload_n C dX12_meter_0 rfl (q := 1) rfl ?_
  refine i_cI (kc' := 0) (ks' := 0) 0 0 1 (fun q hq hM hS => crS C (as := [aI x1]) dX12_meter_1.1 ml_X12_99 cal_X12_isSide st_X12_isSide (hRm ⟨Nat.le_of_ble_eq_true rfl, Nat.le_of_ble_eq_true rfl⟩) rfl (Nat.le_of_ble_eq_true rfl) (c_X12_isSide (xl X) (xG X) hX hM ⟨hS.1, trivial⟩ hq)) (Nat.le_of_ble_eq_true rfl) (Nat.le_of_ble_eq_true rfl) rfl rfl rfl (fun v2 M1 => ?_)
  refine i_if_eq (tgt := 29) C dX12_meter_4 (by decide) ?_ ?_
  · refine i_ldc C dX12_meter_29 kc_X12_102 kI_m1000000001 ?_
    exact i_iret C hq dX12_meter_31
  · refine i_iload_n C dX12_meter_7 rfl (q := 2) rfl ?_
    refine i_i2l C dX12_meter_8 ?_
    refine i_ldc2 C dX12_meter_9 k2_X12_371 kJ_m1 ?_
    refine i_lconst C dX12_meter_12 kL_1 ?_
    refine i_cI (kc' := 0) (ks' := 0) 0 0 3 (fun q hq hM hS => crS C (as := [aL x2, aL (-1), aL 1]) dX12_meter_13.1 ml_X12_78 cal_X12_isIn st_X12_isIn (hRm ⟨Nat.le_of_ble_eq_true rfl, Nat.le_of_ble_eq_true rfl⟩) rfl (Nat.le_of_ble_eq_true rfl) (c_X12_isIn (xl X) (xG X) hX hM ⟨hS.2.2.1, hS.2.1, hS.1, trivial⟩ hq)) (Nat.le_of_ble_eq_true rfl) (Nat.le_of_ble_eq_true rfl) rfl rfl rfl (fun v4 M3 => ?_)
    refine i_if_eq (tgt := 29) C dX12_meter_16 (by decide) ?_ ?_
    · refine i_ldc C dX12_meter_29 kc_X12_102 kI_m1000000001 ?_
      exact i_iret C hq dX12_meter_31
    · refine i_iload_n C dX12_meter_19 rfl (q := 2) rfl ?_
      refine i_jn (fun j => ∀  (M6 : Mem), Im X 0 0 32 [(0, aR 0), (1, aI x1), (2, aI x2), (3, aI x3)] [] M6 res (j  M6)) ?_ (fun j5 hj5 => ?_)
      · intro  M6
        refine i_iload_n C dX12_meter_32 rfl (q := 2) rfl ?_
        refine i_jn (fun j => ∀  (M8 : Mem), Im X 0 0 44 [(0, aR 0), (1, aI x1), (2, aI x2), (3, aI x3)] [] M8 res (j  M8)) ?_ (fun j7 hj7 => ?_)
        · intro  M8
          refine i_aload_n C dX12_meter_44 rfl (q := 0) rfl ?_
          refine i_getR C (k := 4) kX12 dX12_meter_45 (shR_0 hX) rfl (by decide) fl_X12_19 ?_
          refine i_iload_n C dX12_meter_48 rfl (q := 1) rfl ?_
          refine i_iload_n C dX12_meter_49 rfl (q := 2) rfl ?_
          refine i_ast C dX12_meter_50 (shR_4 hX) (fun M9 => ?_)
          refine i_aload_n C dX12_meter_51 rfl (q := 0) rfl ?_
          refine i_getR C (k := 5) kX12 dX12_meter_52 (shR_0 hX) rfl (by decide) fl_X12_22 ?_
          refine i_iload_n C dX12_meter_55 rfl (q := 1) rfl ?_
          refine i_iload_n C dX12_meter_56 rfl (q := 2) rfl ?_
          refine i_jn (fun j => ∀ (p10 : Int) (M12 : Mem), Im X 0 0 65 [(0, aR 0), (1, aI x1)] [aI p10, aI x1, aR 5] M12 res (j p10 M12)) ?_ (fun j11 hj11 => ?_)
          · intro p10 M12
            refine i_ast C dX12_meter_65 (shR_5 hX) (fun M13 => ?_)
            refine i_iconst C dX12_meter_66 kI_0 ?_
            refine i_istore C dX12_meter_67 hl4 (L' := [(0, aR 0), (1, aI x1), (4, aI 0)]) rfl ?_
            exact (w_X12_meter_69 C hX hN hR hq x1 FU 0 M13)
          refine i_if_ge (tgt := 64) C dX12_meter_57 (by decide) ?_ ?_
          · refine i_iload_n C dX12_meter_64 rfl (q := 3) rfl ?_
            exact i_sub [0, 1] rfl (hj11 x3 M9)
          · refine i_iconst C dX12_meter_60 kI_0 ?_
            refine i_goto (tgt := 65) C dX12_meter_61 (by decide) ?_
            exact i_sub [0, 1] rfl (hj11 0 M9)
        refine i_if_lt (tgt := 44) C dX12_meter_33 (by decide) ?_ ?_
        · exact (hj7  M6)
        · refine i_iload_n C dX12_meter_36 rfl (q := 3) rfl ?_
          refine i_if_ge (tgt := 44) C dX12_meter_37 (by decide) ?_ ?_
          · exact (hj7  M6)
          · refine i_ldc_w C dX12_meter_40 kc_X12_373 kI_m1000000014 ?_
            exact i_iret C hq dX12_meter_43
      refine i_if_lt (tgt := 32) C dX12_meter_20 (by decide) ?_ ?_
      · exact (hj5  M3)
      · refine i_iload_n C dX12_meter_23 rfl (q := 3) rfl ?_
        refine i_bipush C dX12_meter_24 kB_30 ?_
        refine i_icmp_le (tgt := 32) C dX12_meter_26 (by decide) ?_ ?_
        · exact (hj5  M3)
        · refine i_ldc C dX12_meter_29 kc_X12_102 kI_m1000000001 ?_
          exact i_iret C hq dX12_meter_31
set_option maxRecDepth 100000 in
set_option maxHeartbeats 4000000 in
theorem w_X12_readOf_37 {X : Xc} (C : Cx X RX12 cX12_readOf (some .int)) (hX : xK X = kR) (hN : xn X = 4) (hR : xR X = rmX12_readOf) {res : Int × Mem} (hq : Rq X (some (aI res.1)) res.2) (y1 : Int) {k63 : Int → Mem → Option (Int × Mem)} (hk63 : ∀ (q3 : Int) (M : Mem), Im X 0 0 63 [(0, aR 0), (1, aI y1), (3, aI q3)] [] M res (k63 q3 M)) : ∀ (n : Nat) (u3 : Int) (M : Mem), Im X 0 0 37 [(0, aR 0), (1, aI y1), (3, aI u3)] [] M res (lpX12_readOf_37 y1 k63 n u3 M) := by
  have hl3 : 3 < xn X := by rw [hN]; decide
  have hRm : ∀ {rm : Room} {ny : Nat}, RmOk rmX12_readOf rm ny → RmOk (xR X) rm ny := fun h => by rw [hR]; exact h
  intro n
  induction n with
  | zero => intro _ _; exact i_none
  | succ n ih =>
    intro u3 M
    unfold lpX12_readOf_37
    refine i_iload_n C dX12_readOf_37 rfl (q := 2) rfl ?_
    refine i_if_lt (tgt := 63) C dX12_readOf_38 (by decide) ?_ ?_
    · exact (hk63 u3 M)
    · refine i_aload_n C dX12_readOf_41 rfl (q := 0) rfl ?_
      refine i_getR C (k := 6) kX12 dX12_readOf_42 (shR_0 hX) rfl (by decide) fl_X12_25 ?_
      refine i_bipush C dX12_readOf_45 kB_30 ?_
      refine i_iload_n C dX12_readOf_47 rfl (q := 1) rfl ?_
      refine i_imul C dX12_readOf_48 ?_
      refine i_iload_n C dX12_readOf_49 rfl (q := 2) rfl ?_
      refine i_iadd C dX12_readOf_50 ?_
      refine i_ald C dX12_readOf_51 (shR_6 hX) (fun v5 => ?_)
      refine i_ldc C dX12_readOf_52 kc_X12_77 kI_m1000000005 ?_
      refine i_icmp_ne (tgt := 63) C dX12_readOf_54 (by decide) ?_ ?_
      · exact (hk63 u3 M)
      · refine i_iincN (L' := fun v6 => [(0, aR 0), (1, aI y1), (3, aI v6)]) C dX12_readOf_57 (q := 2) rfl hl3 (fun _ => rfl) (fun v6 => ?_)
        refine i_goto (tgt := 37) C dX12_readOf_60 (by decide) ?_
        exact (ih v6 M)
set_option maxRecDepth 100000 in
set_option maxHeartbeats 4000000 in
theorem c_X12_readOf (l : Launch) (G : Gx) {K : Kx} (hK : K = kR) {x1 : Int} {x2 : Int} {M : Mem} {res : Int × Mem} (hM : OkM M) (ha : okS [aR 0, aI x1, aI x2]) (hF : rM_readOf x1 x2 M = some res) : Ct l G K yX12_readOf (wsM yX12_readOf cX12_readOf 4 (some .int)) rmX12_readOf [aR 0, aI x1, aI x2] M (some (aI res.1)) res.2 := by
  refine ct_of RX12 (by decide +kernel) rfl (hK ▸ kR_ok) hM ha (Nat.le_of_ble_eq_true rfl) hF ?_
  intro X C hl hG hX0 hN hR hq
  have hX : xK X = kR := hX0.trans hK
  show Im X 0 0 0 [(0, aR 0), (1, aI x1), (2, aI x2)] [] M res (rM_readOf x1 x2 M)
  unfold rM_readOf
  have hl3 : 3 < xn X := by rw [hN]; decide
  have hRm : ∀ {rm : Room} {ny : Nat}, RmOk rmX12_readOf rm ny → RmOk (xR X) rm ny := fun h => by rw [hR]; exact h
  refine i_aload_n C dX12_readOf_0 rfl (q := 0) rfl ?_
  refine i_getR C (k := 4) kX12 dX12_readOf_1 (shR_0 hX) rfl (by decide) fl_X12_19 ?_
  refine i_iload_n C dX12_readOf_4 rfl (q := 1) rfl ?_
  refine i_ald C dX12_readOf_5 (shR_4 hX) (fun v1 => ?_)
  refine i_if_ge (tgt := 13) C dX12_readOf_6 (by decide) ?_ ?_
  · refine i_iload_n C dX12_readOf_13 rfl (q := 2) rfl ?_
    refine i_i2l C dX12_readOf_14 ?_
    refine i_lconst C dX12_readOf_15 kL_0 ?_
    refine i_aload_n C dX12_readOf_16 rfl (q := 0) rfl ?_
    refine i_getR C (k := 5) kX12 dX12_readOf_17 (shR_0 hX) rfl (by decide) fl_X12_22 ?_
    refine i_iload_n C dX12_readOf_20 rfl (q := 1) rfl ?_
    refine i_ald C dX12_readOf_21 (shR_5 hX) (fun v2 => ?_)
    refine i_iconst C dX12_readOf_22 kI_1 ?_
    refine i_isub C dX12_readOf_23 ?_
    refine i_i2l C dX12_readOf_24 ?_
    refine i_cI (kc' := 0) (ks' := 0) 0 0 3 (fun q hq hM hS => crS C (as := [aL x2, aL 0, aL (w32 (v2 - 1))]) dX12_readOf_25.1 ml_X12_78 cal_X12_isIn st_X12_isIn (hRm ⟨Nat.le_of_ble_eq_true rfl, Nat.le_of_ble_eq_true rfl⟩) rfl (Nat.le_of_ble_eq_true rfl) (c_X12_isIn (xl X) (xG X) hX hM ⟨hS.2.2.1, hS.2.1, hS.1, trivial⟩ hq)) (Nat.le_of_ble_eq_true rfl) (Nat.le_of_ble_eq_true rfl) rfl rfl rfl (fun v4 M3 => ?_)
    refine i_if_ne (tgt := 35) C dX12_readOf_28 (by decide) ?_ ?_
    · refine i_iload_n C dX12_readOf_35 rfl (q := 2) rfl ?_
      refine i_istore_n C dX12_readOf_36 rfl hl3 (L' := [(0, aR 0), (1, aI x1), (2, aI x2), (3, aI x2)]) rfl ?_
      refine i_sub [0, 1, 3] rfl (w_X12_readOf_37 C hX hN hR hq x1 (fun v7 M8 => ?_) FU x2 M3)
      refine i_iload_n C dX12_readOf_63 rfl (q := 2) rfl ?_
      refine i_if_ge (tgt := 72) C dX12_readOf_64 (by decide) ?_ ?_
      · refine i_aload_n C dX12_readOf_72 rfl (q := 0) rfl ?_
        refine i_getR C (k := 6) kX12 dX12_readOf_73 (shR_0 hX) rfl (by decide) fl_X12_25 ?_
        refine i_bipush C dX12_readOf_76 kB_30 ?_
        refine i_iload_n C dX12_readOf_78 rfl (q := 1) rfl ?_
        refine i_imul C dX12_readOf_79 ?_
        refine i_iload_n C dX12_readOf_80 rfl (q := 2) rfl ?_
        refine i_iadd C dX12_readOf_81 ?_
        refine i_ald C dX12_readOf_82 (shR_6 hX) (fun v9 => ?_)
        exact i_iret C hq dX12_readOf_83
      · refine i_ldc C dX12_readOf_67 kc_X12_161 kI_m1000000012 ?_
        refine i_goto (tgt := 83) C dX12_readOf_69 (by decide) ?_
        exact i_iret C hq dX12_readOf_83
    · refine i_ldc_w C dX12_readOf_31 kc_X12_375 kI_m1000000013 ?_
      exact i_iret C hq dX12_readOf_34
  · refine i_ldc_w C dX12_readOf_9 kc_X12_374 kI_m1000000011 ?_
    exact i_iret C hq dX12_readOf_12
set_option maxRecDepth 100000 in
set_option maxHeartbeats 4000000 in
theorem c_X12_read (l : Launch) (G : Gx) {K : Kx} (hK : K = kR) {x1 : Int} {x2 : Int} {M : Mem} {res : Int × Mem} (hM : OkM M) (ha : okS [aR 0, aI x1, aI x2]) (hF : rM_read x1 x2 M = some res) : Ct l G K yX12_read (wsM yX12_read cX12_read 3 (some .int)) rmX12_read [aR 0, aI x1, aI x2] M (some (aI res.1)) res.2 := by
  refine ct_of RX12 (by decide +kernel) rfl (hK ▸ kR_ok) hM ha (Nat.le_of_ble_eq_true rfl) hF ?_
  intro X C hl hG hX0 hN hR hq
  have hX : xK X = kR := hX0.trans hK
  show Im X 0 0 0 [(0, aR 0), (1, aI x1), (2, aI x2)] [] M res (rM_read x1 x2 M)
  unfold rM_read
  have hRm : ∀ {rm : Room} {ny : Nat}, RmOk rmX12_read rm ny → RmOk (xR X) rm ny := fun h => by rw [hR]; exact h
  refine i_iload_n C dX12_read_0 rfl (q := 1) rfl ?_
  refine i_cI (kc' := 0) (ks' := 0) 0 0 1 (fun q hq hM hS => crS C (as := [aI x1]) dX12_read_1.1 ml_X12_99 cal_X12_isSide st_X12_isSide (hRm ⟨Nat.le_of_ble_eq_true rfl, Nat.le_of_ble_eq_true rfl⟩) rfl (Nat.le_of_ble_eq_true rfl) (c_X12_isSide (xl X) (xG X) hX hM ⟨hS.1, trivial⟩ hq)) (Nat.le_of_ble_eq_true rfl) (Nat.le_of_ble_eq_true rfl) rfl rfl rfl (fun v2 M1 => ?_)
  refine i_if_eq (tgt := 16) C dX12_read_4 (by decide) ?_ ?_
  · refine i_ldc C dX12_read_16 kc_X12_102 kI_m1000000001 ?_
    exact i_iret C hq dX12_read_18
  · refine i_aload_n C dX12_read_7 rfl (q := 0) rfl ?_
    refine i_iload_n C dX12_read_8 rfl (q := 1) rfl ?_
    refine i_iload_n C dX12_read_9 rfl (q := 2) rfl ?_
    refine i_cI (kc' := 0) (ks' := 0) 0 0 3 (fun q hq hM hS => crV C (as := [aI x1, aI x2]) dX12_read_10.1 kX12 (shR_0 hX) ml_X12_376 cal_X12_readOf cv_X12_readOf (hRm ⟨Nat.le_of_ble_eq_true rfl, Nat.le_of_ble_eq_true rfl⟩) rfl (Nat.le_of_ble_eq_true rfl) (c_X12_readOf (xl X) (xG X) hX hM ⟨hS.2.2.1, hS.2.1, hS.1, trivial⟩ hq)) (Nat.le_of_ble_eq_true rfl) (Nat.le_of_ble_eq_true rfl) rfl rfl rfl (fun v4 M3 => ?_)
    refine i_goto (tgt := 18) C dX12_read_13 (by decide) ?_
    exact i_iret C hq dX12_read_18
set_option maxRecDepth 100000 in
set_option maxHeartbeats 4000000 in
theorem c_X12_put (l : Launch) (G : Gx) {K : Kx} (hK : K = kR) {x1 : Int} {x2 : Int} {x3 : Int} {M : Mem} {res : Int × Mem} (hM : OkM M) (ha : okS [aR 0, aI x1, aI x2, aI x3]) (hF : rM_put x1 x2 x3 M = some res) : Ct l G K yX12_put (wsM yX12_put cX12_put 4 (some .int)) rmX12_put [aR 0, aI x1, aI x2, aI x3] M (some (aI res.1)) res.2 := by
  refine ct_of RX12 (by decide +kernel) rfl (hK ▸ kR_ok) hM ha (Nat.le_of_ble_eq_true rfl) hF ?_
  intro X C hl hG hX0 hN hR hq
  have hX : xK X = kR := hX0.trans hK
  show Im X 0 0 0 [(0, aR 0), (1, aI x1), (2, aI x2), (3, aI x3)] [] M res (rM_put x1 x2 x3 M)
  unfold rM_put
  have hRm : ∀ {rm : Room} {ny : Nat}, RmOk rmX12_put rm ny → RmOk (xR X) rm ny := fun h => by rw [hR]; exact h
  refine i_iload_n C dX12_put_0 rfl (q := 1) rfl ?_
  refine i_cI (kc' := 0) (ks' := 0) 0 0 1 (fun q hq hM hS => crS C (as := [aI x1]) dX12_put_1.1 ml_X12_99 cal_X12_isSide st_X12_isSide (hRm ⟨Nat.le_of_ble_eq_true rfl, Nat.le_of_ble_eq_true rfl⟩) rfl (Nat.le_of_ble_eq_true rfl) (c_X12_isSide (xl X) (xG X) hX hM ⟨hS.1, trivial⟩ hq)) (Nat.le_of_ble_eq_true rfl) (Nat.le_of_ble_eq_true rfl) rfl rfl rfl (fun v2 M1 => ?_)
  refine i_if_ne (tgt := 10) C dX12_put_4 (by decide) ?_ ?_
  · refine i_aload_n C dX12_put_10 rfl (q := 0) rfl ?_
    refine i_getR C (k := 4) kX12 dX12_put_11 (shR_0 hX) rfl (by decide) fl_X12_19 ?_
    refine i_iload_n C dX12_put_14 rfl (q := 1) rfl ?_
    refine i_ald C dX12_put_15 (shR_4 hX) (fun v3 => ?_)
    refine i_if_ge (tgt := 23) C dX12_put_16 (by decide) ?_ ?_
    · refine i_iload_n C dX12_put_23 rfl (q := 2) rfl ?_
      refine i_i2l C dX12_put_24 ?_
      refine i_lconst C dX12_put_25 kL_0 ?_
      refine i_aload_n C dX12_put_26 rfl (q := 0) rfl ?_
      refine i_getR C (k := 5) kX12 dX12_put_27 (shR_0 hX) rfl (by decide) fl_X12_22 ?_
      refine i_iload_n C dX12_put_30 rfl (q := 1) rfl ?_
      refine i_ald C dX12_put_31 (shR_5 hX) (fun v4 => ?_)
      refine i_iconst C dX12_put_32 kI_1 ?_
      refine i_isub C dX12_put_33 ?_
      refine i_i2l C dX12_put_34 ?_
      refine i_cI (kc' := 0) (ks' := 0) 0 0 3 (fun q hq hM hS => crS C (as := [aL x2, aL 0, aL (w32 (v4 - 1))]) dX12_put_35.1 ml_X12_78 cal_X12_isIn st_X12_isIn (hRm ⟨Nat.le_of_ble_eq_true rfl, Nat.le_of_ble_eq_true rfl⟩) rfl (Nat.le_of_ble_eq_true rfl) (c_X12_isIn (xl X) (xG X) hX hM ⟨hS.2.2.1, hS.2.1, hS.1, trivial⟩ hq)) (Nat.le_of_ble_eq_true rfl) (Nat.le_of_ble_eq_true rfl) rfl rfl rfl (fun v6 M5 => ?_)
      refine i_if_ne (tgt := 45) C dX12_put_38 (by decide) ?_ ?_
      · refine i_aload_n C dX12_put_45 rfl (q := 0) rfl ?_
        refine i_getR C (k := 4) kX12 dX12_put_46 (shR_0 hX) rfl (by decide) fl_X12_19 ?_
        refine i_iload_n C dX12_put_49 rfl (q := 1) rfl ?_
        refine i_ald C dX12_put_50 (shR_4 hX) (fun v7 => ?_)
        refine i_jn (fun j => ∀  (M9 : Mem), Im X 0 0 63 [(0, aR 0), (1, aI x1), (2, aI x2), (3, aI x3)] [] M9 res (j  M9)) ?_ (fun j8 hj8 => ?_)
        · intro  M9
          refine i_aload_n C dX12_put_63 rfl (q := 0) rfl ?_
          refine i_getR C (k := 4) kX12 dX12_put_64 (shR_0 hX) rfl (by decide) fl_X12_19 ?_
          refine i_iload_n C dX12_put_67 rfl (q := 1) rfl ?_
          refine i_ald C dX12_put_68 (shR_4 hX) (fun v10 => ?_)
          refine i_iconst C dX12_put_69 kI_1 ?_
          refine i_jn (fun j => ∀  (M12 : Mem), Im X 0 0 96 [(0, aR 0), (1, aI x1), (2, aI x2), (3, aI x3)] [] M12 res (j  M12)) ?_ (fun j11 hj11 => ?_)
          · intro  M12
            refine i_aload_n C dX12_put_96 rfl (q := 0) rfl ?_
            refine i_getR C (k := 6) kX12 dX12_put_97 (shR_0 hX) rfl (by decide) fl_X12_25 ?_
            refine i_bipush C dX12_put_100 kB_30 ?_
            refine i_iload_n C dX12_put_102 rfl (q := 1) rfl ?_
            refine i_imul C dX12_put_103 ?_
            refine i_iload_n C dX12_put_104 rfl (q := 2) rfl ?_
            refine i_iadd C dX12_put_105 ?_
            refine i_iload_n C dX12_put_106 rfl (q := 3) rfl ?_
            refine i_ast C dX12_put_107 (shR_6 hX) (fun M13 => ?_)
            refine i_iconst C dX12_put_108 kI_1 ?_
            exact i_iret C hq dX12_put_109
          refine i_icmp_ne (tgt := 96) C dX12_put_70 (by decide) ?_ ?_
          · exact (hj11  M9)
          · refine i_iload_n C dX12_put_73 rfl (q := 3) rfl ?_
            refine i_ldc C dX12_put_74 kc_X12_77 kI_m1000000005 ?_
            refine i_icmp_eq (tgt := 96) C dX12_put_76 (by decide) ?_ ?_
            · exact (hj11  M9)
            · refine i_iload_n C dX12_put_79 rfl (q := 3) rfl ?_
              refine i_i2l C dX12_put_80 ?_
              refine i_ldc2 C dX12_put_81 k2_X12_379 kJ_m100000 ?_
              refine i_ldc2 C dX12_put_84 k2_X12_381 kJ_100000 ?_
              refine i_cI (kc' := 0) (ks' := 0) 0 0 3 (fun q hq hM hS => crS C (as := [aL x3, aL (-100000), aL 100000]) dX12_put_87.1 ml_X12_78 cal_X12_isIn st_X12_isIn (hRm ⟨Nat.le_of_ble_eq_true rfl, Nat.le_of_ble_eq_true rfl⟩) rfl (Nat.le_of_ble_eq_true rfl) (c_X12_isIn (xl X) (xG X) hX hM ⟨hS.2.2.1, hS.2.1, hS.1, trivial⟩ hq)) (Nat.le_of_ble_eq_true rfl) (Nat.le_of_ble_eq_true rfl) rfl rfl rfl (fun v15 M14 => ?_)
              refine i_if_ne (tgt := 96) C dX12_put_90 (by decide) ?_ ?_
              · exact (hj11  M14)
              · refine i_ldc C dX12_put_93 kc_X12_102 kI_m1000000001 ?_
                exact i_iret C hq dX12_put_95
        refine i_if_ne (tgt := 63) C dX12_put_51 (by decide) ?_ ?_
        · exact (hj8  M5)
        · refine i_iload_n C dX12_put_54 rfl (q := 3) rfl ?_
          refine i_ldc C dX12_put_55 kc_X12_77 kI_m1000000005 ?_
          refine i_icmp_ne (tgt := 63) C dX12_put_57 (by decide) ?_ ?_
          · exact (hj8  M5)
          · refine i_ldc C dX12_put_60 kc_X12_161 kI_m1000000012 ?_
            exact i_iret C hq dX12_put_62
      · refine i_ldc_w C dX12_put_41 kc_X12_375 kI_m1000000013 ?_
        exact i_iret C hq dX12_put_44
    · refine i_ldc_w C dX12_put_19 kc_X12_374 kI_m1000000011 ?_
      exact i_iret C hq dX12_put_22
  · refine i_ldc C dX12_put_7 kc_X12_102 kI_m1000000001 ?_
    exact i_iret C hq dX12_put_9
set_option maxRecDepth 100000 in
set_option maxHeartbeats 4000000 in
theorem w_X12_copy_113 {X : Xc} (C : Cx X RX12 cX12_copy (some .int)) (hX : xK X = kR) (hN : xn X = 7) (hR : xR X = rmX12_copy) {res : Int × Mem} (hq : Rq X (some (aI res.1)) res.2) (y1 : Int) (y2 : Int) (y3 : Int) (y4 : Int) (y5 : Int) {k147 : Mem → Option (Int × Mem)} (hk147 : ∀ (M : Mem), Im X 0 0 147 [(0, aR 0), (3, aI y3), (4, aI y4), (5, aI y5)] [] M res (k147 M)) : ∀ (n : Nat) (u6 : Int) (M : Mem), Im X 0 0 113 [(0, aR 0), (1, aI y1), (2, aI y2), (3, aI y3), (4, aI y4), (5, aI y5), (6, aI u6)] [] M res (lpX12_copy_113 y1 y2 y3 y4 y5 k147 n u6 M) := by
  have hl6 : 6 < xn X := by rw [hN]; decide
  have hRm : ∀ {rm : Room} {ny : Nat}, RmOk rmX12_copy rm ny → RmOk (xR X) rm ny := fun h => by rw [hR]; exact h
  intro n
  induction n with
  | zero => intro _ _; exact i_none
  | succ n ih =>
    intro u6 M
    unfold lpX12_copy_113
    refine i_iload C dX12_copy_113 (q := 6) rfl ?_
    refine i_iload C dX12_copy_115 (q := 5) rfl ?_
    refine i_icmp_ge (tgt := 147) C dX12_copy_117 (by decide) ?_ ?_
    · exact i_sub [0, 3, 4, 5] rfl (hk147  M)
    · refine i_aload_n C dX12_copy_120 rfl (q := 0) rfl ?_
      refine i_getR C (k := 28) kX12 dX12_copy_121 (shR_0 hX) rfl (by decide) fl_X12_59 ?_
      refine i_iload C dX12_copy_124 (q := 6) rfl ?_
      refine i_aload_n C dX12_copy_126 rfl (q := 0) rfl ?_
      refine i_getR C (k := 6) kX12 dX12_copy_127 (shR_0 hX) rfl (by decide) fl_X12_25 ?_
      refine i_bipush C dX12_copy_130 kB_30 ?_
      refine i_iload_n C dX12_copy_132 rfl (q := 1) rfl ?_
      refine i_imul C dX12_copy_133 ?_
      refine i_iload_n C dX12_copy_134 rfl (q := 2) rfl ?_
      refine i_iadd C dX12_copy_135 ?_
      refine i_iload C dX12_copy_136 (q := 6) rfl ?_
      refine i_iadd C dX12_copy_138 ?_
      refine i_ald C dX12_copy_139 (shR_6 hX) (fun v11 => ?_)
      refine i_ast C dX12_copy_140 (shR_16 hX) (fun M12 => ?_)
      refine i_iincN (L' := fun v13 => [(0, aR 0), (1, aI y1), (2, aI y2), (3, aI y3), (4, aI y4), (5, aI y5), (6, aI v13)]) C dX12_copy_141 (q := 6) rfl hl6 (fun _ => rfl) (fun v13 => ?_)
      refine i_goto (tgt := 113) C dX12_copy_144 (by decide) ?_
      exact (ih v13 M12)
set_option maxRecDepth 100000 in
set_option maxHeartbeats 4000000 in
theorem w_X12_copy_150 {X : Xc} (C : Cx X RX12 cX12_copy (some .int)) (hX : xK X = kR) (hN : xn X = 7) (hR : xR X = rmX12_copy) {res : Int × Mem} (hq : Rq X (some (aI res.1)) res.2) (y3 : Int) (y4 : Int) (y5 : Int) : ∀ (n : Nat) (u6 : Int) (M : Mem), Im X 0 0 150 [(0, aR 0), (3, aI y3), (4, aI y4), (5, aI y5), (6, aI u6)] [] M res (lpX12_copy_150 y3 y4 y5 n u6 M) := by
  have hl6 : 6 < xn X := by rw [hN]; decide
  have hRm : ∀ {rm : Room} {ny : Nat}, RmOk rmX12_copy rm ny → RmOk (xR X) rm ny := fun h => by rw [hR]; exact h
  intro n
  induction n with
  | zero => intro _ _; exact i_none
  | succ n ih =>
    intro u6 M
    unfold lpX12_copy_150
    refine i_iload C dX12_copy_150 (q := 4) rfl ?_
    refine i_iload C dX12_copy_152 (q := 3) rfl ?_
    refine i_icmp_ge (tgt := 185) C dX12_copy_154 (by decide) ?_ ?_
    · refine i_iload C dX12_copy_185 (q := 3) rfl ?_
      exact i_iret C hq dX12_copy_187
    · refine i_aload_n C dX12_copy_157 rfl (q := 0) rfl ?_
      refine i_getR C (k := 6) kX12 dX12_copy_158 (shR_0 hX) rfl (by decide) fl_X12_25 ?_
      refine i_bipush C dX12_copy_161 kB_30 ?_
      refine i_iload_n C dX12_copy_163 rfl (q := 1) rfl ?_
      refine i_imul C dX12_copy_164 ?_
      refine i_iload C dX12_copy_165 (q := 2) rfl ?_
      refine i_iadd C dX12_copy_167 ?_
      refine i_iload C dX12_copy_168 (q := 4) rfl ?_
      refine i_iadd C dX12_copy_170 ?_
      refine i_aload_n C dX12_copy_171 rfl (q := 0) rfl ?_
      refine i_getR C (k := 28) kX12 dX12_copy_172 (shR_0 hX) rfl (by decide) fl_X12_59 ?_
      refine i_iload C dX12_copy_175 (q := 4) rfl ?_
      refine i_ald C dX12_copy_177 (shR_16 hX) (fun v15 => ?_)
      refine i_ast C dX12_copy_178 (shR_6 hX) (fun M16 => ?_)
      refine i_iincN (L' := fun v17 => [(0, aR 0), (3, aI y3), (4, aI y4), (5, aI y5), (6, aI v17)]) C dX12_copy_179 (q := 4) rfl hl6 (fun _ => rfl) (fun v17 => ?_)
      refine i_goto (tgt := 150) C dX12_copy_182 (by decide) ?_
      exact (ih v17 M16)
set_option maxRecDepth 100000 in
set_option maxHeartbeats 4000000 in
theorem c_X12_copy (l : Launch) (G : Gx) {K : Kx} (hK : K = kR) {x1 : Int} {x2 : Int} {x3 : Int} {x4 : Int} {x5 : Int} {M : Mem} {res : Int × Mem} (hM : OkM M) (ha : okS [aR 0, aI x1, aI x2, aI x3, aI x4, aI x5]) (hF : rM_copy x1 x2 x3 x4 x5 M = some res) : Ct l G K yX12_copy (wsM yX12_copy cX12_copy 7 (some .int)) rmX12_copy [aR 0, aI x1, aI x2, aI x3, aI x4, aI x5] M (some (aI res.1)) res.2 := by
  refine ct_of RX12 (by decide +kernel) rfl (hK ▸ kR_ok) hM ha (Nat.le_of_ble_eq_true rfl) hF ?_
  intro X C hl hG hX0 hN hR hq
  have hX : xK X = kR := hX0.trans hK
  show Im X 0 0 0 [(0, aR 0), (1, aI x1), (2, aI x2), (3, aI x3), (4, aI x4), (5, aI x5)] [] M res (rM_copy x1 x2 x3 x4 x5 M)
  unfold rM_copy
  have hl6 : 6 < xn X := by rw [hN]; decide
  have hRm : ∀ {rm : Room} {ny : Nat}, RmOk rmX12_copy rm ny → RmOk (xR X) rm ny := fun h => by rw [hR]; exact h
  refine i_iload_n C dX12_copy_0 rfl (q := 1) rfl ?_
  refine i_cI (kc' := 0) (ks' := 0) 0 0 1 (fun q hq hM hS => crS C (as := [aI x1]) dX12_copy_1.1 ml_X12_99 cal_X12_isSide st_X12_isSide (hRm ⟨Nat.le_of_ble_eq_true rfl, Nat.le_of_ble_eq_true rfl⟩) rfl (Nat.le_of_ble_eq_true rfl) (c_X12_isSide (xl X) (xG X) hX hM ⟨hS.1, trivial⟩ hq)) (Nat.le_of_ble_eq_true rfl) (Nat.le_of_ble_eq_true rfl) rfl rfl rfl (fun v2 M1 => ?_)
  refine i_if_eq (tgt := 14) C dX12_copy_4 (by decide) ?_ ?_
  · refine i_ldc C dX12_copy_14 kc_X12_102 kI_m1000000001 ?_
    exact i_iret C hq dX12_copy_16
  · refine i_iload_n C dX12_copy_7 rfl (q := 3) rfl ?_
    refine i_cI (kc' := 0) (ks' := 0) 0 0 1 (fun q hq hM hS => crS C (as := [aI x3]) dX12_copy_8.1 ml_X12_99 cal_X12_isSide st_X12_isSide (hRm ⟨Nat.le_of_ble_eq_true rfl, Nat.le_of_ble_eq_true rfl⟩) rfl (Nat.le_of_ble_eq_true rfl) (c_X12_isSide (xl X) (xG X) hX hM ⟨hS.1, trivial⟩ hq)) (Nat.le_of_ble_eq_true rfl) (Nat.le_of_ble_eq_true rfl) rfl rfl rfl (fun v4 M3 => ?_)
    refine i_if_ne (tgt := 17) C dX12_copy_11 (by decide) ?_ ?_
    · refine i_aload_n C dX12_copy_17 rfl (q := 0) rfl ?_
      refine i_getR C (k := 4) kX12 dX12_copy_18 (shR_0 hX) rfl (by decide) fl_X12_19 ?_
      refine i_iload_n C dX12_copy_21 rfl (q := 1) rfl ?_
      refine i_ald C dX12_copy_22 (shR_4 hX) (fun v5 => ?_)
      refine i_if_lt (tgt := 35) C dX12_copy_23 (by decide) ?_ ?_
      · refine i_ldc_w C dX12_copy_35 kc_X12_374 kI_m1000000011 ?_
        exact i_iret C hq dX12_copy_38
      · refine i_aload_n C dX12_copy_26 rfl (q := 0) rfl ?_
        refine i_getR C (k := 4) kX12 dX12_copy_27 (shR_0 hX) rfl (by decide) fl_X12_19 ?_
        refine i_iload_n C dX12_copy_30 rfl (q := 3) rfl ?_
        refine i_ald C dX12_copy_31 (shR_4 hX) (fun v6 => ?_)
        refine i_if_ge (tgt := 39) C dX12_copy_32 (by decide) ?_ ?_
        · refine i_aload_n C dX12_copy_39 rfl (q := 0) rfl ?_
          refine i_getR C (k := 4) kX12 dX12_copy_40 (shR_0 hX) rfl (by decide) fl_X12_19 ?_
          refine i_iload_n C dX12_copy_43 rfl (q := 1) rfl ?_
          refine i_ald C dX12_copy_44 (shR_4 hX) (fun v7 => ?_)
          refine i_aload_n C dX12_copy_45 rfl (q := 0) rfl ?_
          refine i_getR C (k := 4) kX12 dX12_copy_46 (shR_0 hX) rfl (by decide) fl_X12_19 ?_
          refine i_iload_n C dX12_copy_49 rfl (q := 3) rfl ?_
          refine i_ald C dX12_copy_50 (shR_4 hX) (fun v8 => ?_)
          refine i_icmp_eq (tgt := 57) C dX12_copy_51 (by decide) ?_ ?_
          · refine i_iload_n C dX12_copy_57 rfl (q := 2) rfl ?_
            refine i_if_lt (tgt := 106) C dX12_copy_58 (by decide) ?_ ?_
            · refine i_ldc_w C dX12_copy_106 kc_X12_375 kI_m1000000013 ?_
              exact i_iret C hq dX12_copy_109
            · refine i_iload C dX12_copy_61 (q := 4) rfl ?_
              refine i_if_lt (tgt := 106) C dX12_copy_63 (by decide) ?_ ?_
              · refine i_ldc_w C dX12_copy_106 kc_X12_375 kI_m1000000013 ?_
                exact i_iret C hq dX12_copy_109
              · refine i_iload C dX12_copy_66 (q := 5) rfl ?_
                refine i_if_lt (tgt := 106) C dX12_copy_68 (by decide) ?_ ?_
                · refine i_ldc_w C dX12_copy_106 kc_X12_375 kI_m1000000013 ?_
                  exact i_iret C hq dX12_copy_109
                · refine i_iload_n C dX12_copy_71 rfl (q := 2) rfl ?_
                  refine i_i2l C dX12_copy_72 ?_
                  refine i_iload C dX12_copy_73 (q := 5) rfl ?_
                  refine i_i2l C dX12_copy_75 ?_
                  refine i_ladd C dX12_copy_76 ?_
                  refine i_aload_n C dX12_copy_77 rfl (q := 0) rfl ?_
                  refine i_getR C (k := 5) kX12 dX12_copy_78 (shR_0 hX) rfl (by decide) fl_X12_22 ?_
                  refine i_iload_n C dX12_copy_81 rfl (q := 1) rfl ?_
                  refine i_ald C dX12_copy_82 (shR_5 hX) (fun v9 => ?_)
                  refine i_i2l C dX12_copy_83 ?_
                  refine i_lcmp C dX12_copy_84 ?_
                  refine i_if_gt (tgt := 106) C dX12_copy_85 (by decide) ?_ ?_
                  · refine i_ldc_w C dX12_copy_106 kc_X12_375 kI_m1000000013 ?_
                    exact i_iret C hq dX12_copy_109
                  · refine i_iload C dX12_copy_88 (q := 4) rfl ?_
                    refine i_i2l C dX12_copy_90 ?_
                    refine i_iload C dX12_copy_91 (q := 5) rfl ?_
                    refine i_i2l C dX12_copy_93 ?_
                    refine i_ladd C dX12_copy_94 ?_
                    refine i_aload_n C dX12_copy_95 rfl (q := 0) rfl ?_
                    refine i_getR C (k := 5) kX12 dX12_copy_96 (shR_0 hX) rfl (by decide) fl_X12_22 ?_
                    refine i_iload_n C dX12_copy_99 rfl (q := 3) rfl ?_
                    refine i_ald C dX12_copy_100 (shR_5 hX) (fun v10 => ?_)
                    refine i_i2l C dX12_copy_101 ?_
                    refine i_lcmp C dX12_copy_102 ?_
                    refine i_if_le (tgt := 110) C dX12_copy_103 (by decide) ?_ ?_
                    · refine i_iconst C dX12_copy_110 kI_0 ?_
                      refine i_istore C dX12_copy_111 hl6 (L' := [(0, aR 0), (1, aI x1), (2, aI x2), (3, aI x3), (4, aI x4), (5, aI x5), (6, aI 0)]) rfl ?_
                      refine (w_X12_copy_113 C hX hN hR hq x1 x2 x3 x4 x5 (fun M14 => ?_) FU 0 M3)
                      refine i_iconst C dX12_copy_147 kI_0 ?_
                      refine i_istore C dX12_copy_148 hl6 (L' := [(0, aR 0), (3, aI x3), (4, aI x4), (5, aI x5), (6, aI 0)]) rfl ?_
                      exact (w_X12_copy_150 C hX hN hR hq x3 x4 x5 FU 0 M14)
                    · refine i_ldc_w C dX12_copy_106 kc_X12_375 kI_m1000000013 ?_
                      exact i_iret C hq dX12_copy_109
          · refine i_ldc C dX12_copy_54 kc_X12_161 kI_m1000000012 ?_
            exact i_iret C hq dX12_copy_56
        · refine i_ldc_w C dX12_copy_35 kc_X12_374 kI_m1000000011 ?_
          exact i_iret C hq dX12_copy_38
    · refine i_ldc C dX12_copy_14 kc_X12_102 kI_m1000000001 ?_
      exact i_iret C hq dX12_copy_16
set_option maxRecDepth 100000 in
set_option maxHeartbeats 4000000 in
theorem c_X12_wrong (l : Launch) (G : Gx) {K : Kx} (hK : K = kR) {x1 : Int} {x2 : Int} {M : Mem} {res : Int × Mem} (hM : OkM M) (ha : okS [aR 0, aI x1, aI x2]) (hF : rM_wrong x1 x2 M = some res) : Ct l G K yX12_wrong (wsM yX12_wrong cX12_wrong 3 (some .int)) rmX12_wrong [aR 0, aI x1, aI x2] M (some (aI res.1)) res.2 := by
  refine ct_of RX12 (by decide +kernel) rfl (hK ▸ kR_ok) hM ha (Nat.le_of_ble_eq_true rfl) hF ?_
  intro X C hl hG hX0 hN hR hq
  have hX : xK X = kR := hX0.trans hK
  show Im X 0 0 0 [(0, aR 0), (1, aI x1), (2, aI x2)] [] M res (rM_wrong x1 x2 M)
  unfold rM_wrong
  have hRm : ∀ {rm : Room} {ny : Nat}, RmOk rmX12_wrong rm ny → RmOk (xR X) rm ny := fun h => by rw [hR]; exact h
  refine i_iload_n C dX12_wrong_0 rfl (q := 1) rfl ?_
  refine i_cI (kc' := 0) (ks' := 0) 0 0 1 (fun q hq hM hS => crS C (as := [aI x1]) dX12_wrong_1.1 ml_X12_99 cal_X12_isSide st_X12_isSide (hRm ⟨Nat.le_of_ble_eq_true rfl, Nat.le_of_ble_eq_true rfl⟩) rfl (Nat.le_of_ble_eq_true rfl) (c_X12_isSide (xl X) (xG X) hX hM ⟨hS.1, trivial⟩ hq)) (Nat.le_of_ble_eq_true rfl) (Nat.le_of_ble_eq_true rfl) rfl rfl rfl (fun v2 M1 => ?_)
  refine i_if_eq (tgt := 25) C dX12_wrong_4 (by decide) ?_ ?_
  · refine i_ldc C dX12_wrong_25 kc_X12_102 kI_m1000000001 ?_
    exact i_iret C hq dX12_wrong_27
  · refine i_iload_n C dX12_wrong_7 rfl (q := 2) rfl ?_
    refine i_ldc C dX12_wrong_8 kc_X12_77 kI_m1000000005 ?_
    refine i_jn (fun j => ∀  (M4 : Mem), Im X 0 0 28 [(0, aR 0), (1, aI x1), (2, aI x2)] [] M4 res (j  M4)) ?_ (fun j3 hj3 => ?_)
    · intro  M4
      refine i_aload_n C dX12_wrong_28 rfl (q := 0) rfl ?_
      refine i_bipush C dX12_wrong_29 kB_13 ?_
      refine i_iload_n C dX12_wrong_31 rfl (q := 1) rfl ?_
      refine i_iadd C dX12_wrong_32 ?_
      refine i_iload_n C dX12_wrong_33 rfl (q := 2) rfl ?_
      refine i_ldc C dX12_wrong_34 kc_X12_77 kI_m1000000005 ?_
      refine i_jn (fun j => ∀ (p5 : Int) (M7 : Mem), Im X 0 0 44 [] [aI p5, aI (w32 (13 + x1)), aR 0] M7 res (j p5 M7)) ?_ (fun j6 hj6 => ?_)
      · intro p5 M7
        refine i_cI (kc' := 0) (ks' := 0) 0 0 3 (fun q hq hM hS => crV C (as := [aI (w32 (13 + x1)), aI p5]) dX12_wrong_44.1 kX12 (shR_0 hX) ml_X12_111 cal_X12_becomes cv_X12_becomes (hRm ⟨Nat.le_of_ble_eq_true rfl, Nat.le_of_ble_eq_true rfl⟩) rfl (Nat.le_of_ble_eq_true rfl) (c_X12_becomes (xl X) (xG X) hX hM ⟨hS.2.2.1, hS.2.1, hS.1, trivial⟩ hq)) (Nat.le_of_ble_eq_true rfl) (Nat.le_of_ble_eq_true rfl) rfl rfl rfl (fun v9 M8 => ?_)
        refine i_cI (kc' := 0) (ks' := 0) 0 0 1 (fun q hq hM hS => crS C (as := [aI v9]) dX12_wrong_47.1 ml_X12_124 cal_X12_orNone st_X12_orNone (hRm ⟨Nat.le_of_ble_eq_true rfl, Nat.le_of_ble_eq_true rfl⟩) rfl (Nat.le_of_ble_eq_true rfl) (c_X12_orNone (xl X) (xG X) hX hM ⟨hS.1, trivial⟩ hq)) (Nat.le_of_ble_eq_true rfl) (Nat.le_of_ble_eq_true rfl) rfl rfl rfl (fun v11 M10 => ?_)
        exact i_iret C hq dX12_wrong_50
      refine i_icmp_ne (tgt := 43) C dX12_wrong_36 (by decide) ?_ ?_
      · refine i_iload_n C dX12_wrong_43 rfl (q := 2) rfl ?_
        exact i_sub [] rfl (hj6 x2 M4)
      · refine i_iconst C dX12_wrong_39 kI_m1 ?_
        refine i_goto (tgt := 44) C dX12_wrong_40 (by decide) ?_
        exact i_sub [] rfl (hj6 (-1) M4)
    refine i_icmp_eq (tgt := 28) C dX12_wrong_10 (by decide) ?_ ?_
    · exact (hj3  M1)
    · refine i_iload_n C dX12_wrong_13 rfl (q := 2) rfl ?_
      refine i_i2l C dX12_wrong_14 ?_
      refine i_lconst C dX12_wrong_15 kL_0 ?_
      refine i_ldc2 C dX12_wrong_16 k2_X12_383 kJ_29 ?_
      refine i_cI (kc' := 0) (ks' := 0) 0 0 3 (fun q hq hM hS => crS C (as := [aL x2, aL 0, aL 29]) dX12_wrong_19.1 ml_X12_78 cal_X12_isIn st_X12_isIn (hRm ⟨Nat.le_of_ble_eq_true rfl, Nat.le_of_ble_eq_true rfl⟩) rfl (Nat.le_of_ble_eq_true rfl) (c_X12_isIn (xl X) (xG X) hX hM ⟨hS.2.2.1, hS.2.1, hS.1, trivial⟩ hq)) (Nat.le_of_ble_eq_true rfl) (Nat.le_of_ble_eq_true rfl) rfl rfl rfl (fun v13 M12 => ?_)
      refine i_if_ne (tgt := 28) C dX12_wrong_22 (by decide) ?_ ?_
      · exact (hj3  M12)
      · refine i_ldc C dX12_wrong_25 kc_X12_102 kI_m1000000001 ?_
        exact i_iret C hq dX12_wrong_27
set_option maxRecDepth 100000 in
set_option maxHeartbeats 4000000 in
theorem w_X12_mayCount_61 {X : Xc} (C : Cx X RX12 cX12_mayCount (some .boolean)) (hX : xK X = kR) (hN : xn X = 5) (hR : xR X = rmX12_mayCount) {res : Int × Mem} (hq : Rq X (some (aI res.1)) res.2) (y1 : Int) {k89 : Int → Mem → Option (Int × Mem)} (hk89 : ∀ (q4 : Int) (M : Mem), Im X 0 0 89 [(4, aI q4)] [] M res (k89 q4 M)) : ∀ (n : Nat) (u4 : Int) (M : Mem), Im X 0 0 61 [(0, aR 0), (1, aI y1), (4, aI u4)] [] M res (lpX12_mayCount_61 y1 k89 n u4 M) := by
  have hl3 : 3 < xn X := by rw [hN]; decide
  have hl4 : 4 < xn X := by rw [hN]; decide
  intro n
  induction n with
  | zero => intro _ _; exact i_none
  | succ n ih =>
    intro u4 M
    unfold lpX12_mayCount_61
    refine i_iload C dX12_mayCount_61 (q := 2) rfl ?_
    refine i_if_lt (tgt := 89) C dX12_mayCount_63 (by decide) ?_ ?_
    · exact i_sub [2] rfl (hk89 u4 M)
    · refine i_aload_n C dX12_mayCount_66 rfl (q := 0) rfl ?_
      refine i_getR C (k := 6) kX12 dX12_mayCount_67 (shR_0 hX) rfl (by decide) fl_X12_25 ?_
      refine i_bipush C dX12_mayCount_70 kB_30 ?_
      refine i_iload_n C dX12_mayCount_72 rfl (q := 1) rfl ?_
      refine i_imul C dX12_mayCount_73 ?_
      refine i_iload C dX12_mayCount_74 (q := 2) rfl ?_
      refine i_iadd C dX12_mayCount_76 ?_
      refine i_ald C dX12_mayCount_77 (shR_6 hX) (fun v8 => ?_)
      refine i_ldc C dX12_mayCount_78 kc_X12_77 kI_m1000000005 ?_
      refine i_icmp_ne (tgt := 89) C dX12_mayCount_80 (by decide) ?_ ?_
      · exact i_sub [2] rfl (hk89 u4 M)
      · refine i_iincN (L' := fun v9 => [(0, aR 0), (1, aI y1), (4, aI v9)]) C dX12_mayCount_83 (q := 2) rfl hl4 (fun _ => rfl) (fun v9 => ?_)
        refine i_goto (tgt := 61) C dX12_mayCount_86 (by decide) ?_
        exact (ih v9 M)
set_option maxRecDepth 100000 in
set_option maxHeartbeats 4000000 in
theorem c_X12_mayCount (l : Launch) (G : Gx) {K : Kx} (hK : K = kR) {x1 : Int} {x2 : Int} {M : Mem} {res : Int × Mem} (hM : OkM M) (ha : okS [aR 0, aI x1, aI x2]) (hF : rM_mayCount x1 x2 M = some res) : Ct l G K yX12_mayCount (wsM yX12_mayCount cX12_mayCount 5 (some .boolean)) rmX12_mayCount [aR 0, aI x1, aI x2] M (some (aI res.1)) res.2 := by
  refine ct_of RX12 (by decide +kernel) rfl (hK ▸ kR_ok) hM ha (Nat.le_of_ble_eq_true rfl) hF ?_
  intro X C hl hG hX0 hN hR hq
  have hX : xK X = kR := hX0.trans hK
  show Im X 0 0 0 [(0, aR 0), (1, aI x1), (2, aI x2)] [] M res (rM_mayCount x1 x2 M)
  unfold rM_mayCount
  have hl3 : 3 < xn X := by rw [hN]; decide
  have hl4 : 4 < xn X := by rw [hN]; decide
  refine i_aload_n C dX12_mayCount_0 rfl (q := 0) rfl ?_
  refine i_getR C (k := 4) kX12 dX12_mayCount_1 (shR_0 hX) rfl (by decide) fl_X12_19 ?_
  refine i_iload_n C dX12_mayCount_4 rfl (q := 1) rfl ?_
  refine i_ald C dX12_mayCount_5 (shR_4 hX) (fun v1 => ?_)
  refine i_jn (fun j => ∀ (p2 : Int) (M4 : Mem), Im X 0 0 49 [(0, aR 0), (1, aI x1), (2, aI x2)] [aI p2] M4 res (j p2 M4)) ?_ (fun j3 hj3 => ?_)
  · intro p2 M4
    refine i_istore_n C dX12_mayCount_49 rfl hl3 (L' := [(0, aR 0), (1, aI x1), (2, aI x2), (3, aI p2)]) rfl ?_
    refine i_iload_n C dX12_mayCount_50 rfl (q := 3) rfl ?_
    refine i_jn (fun j => ∀ (p5 : Int) (M7 : Mem), Im X 0 0 59 [(0, aR 0), (1, aI x1)] [aI p5] M7 res (j p5 M7)) ?_ (fun j6 hj6 => ?_)
    · intro p5 M7
      refine i_istore C dX12_mayCount_59 hl4 (L' := [(0, aR 0), (1, aI x1), (4, aI p5)]) rfl ?_
      refine (w_X12_mayCount_61 C hX hN hR hq x1 (fun v10 M11 => ?_) FU p5 M7)
      refine i_iload C dX12_mayCount_89 (q := 0) rfl ?_
      refine i_if_lt (tgt := 98) C dX12_mayCount_91 (by decide) ?_ ?_
      · refine i_iconst C dX12_mayCount_98 kI_0 ?_
        exact i_zret C hq dX12_mayCount_99 (Or.inl rfl)
      · refine i_iconst C dX12_mayCount_94 kI_1 ?_
        refine i_goto (tgt := 99) C dX12_mayCount_95 (by decide) ?_
        exact i_zret C hq dX12_mayCount_99 (Or.inr rfl)
    refine i_if_eq (tgt := 58) C dX12_mayCount_51 (by decide) ?_ ?_
    · refine i_iconst C dX12_mayCount_58 kI_m1 ?_
      exact i_sub [0, 1] rfl (hj6 (-1) M4)
    · refine i_iload_n C dX12_mayCount_54 rfl (q := 2) rfl ?_
      refine i_goto (tgt := 59) C dX12_mayCount_55 (by decide) ?_
      exact i_sub [0, 1] rfl (hj6 x2 M4)
  refine i_jn (fun j => ∀  (M13 : Mem), Im X 0 0 48 [(0, aR 0), (1, aI x1), (2, aI x2)] [] M13 res (j  M13)) ?_ (fun j12 hj12 => ?_)
  · intro  M13
    refine i_iconst C dX12_mayCount_48 kI_0 ?_
    exact (hj3 0 M13)
  refine i_if_lt (tgt := 48) C dX12_mayCount_6 (by decide) ?_ ?_
  · exact (hj12  M)
  · refine i_iload_n C dX12_mayCount_9 rfl (q := 2) rfl ?_
    refine i_aload_n C dX12_mayCount_10 rfl (q := 0) rfl ?_
    refine i_getR C (k := 5) kX12 dX12_mayCount_11 (shR_0 hX) rfl (by decide) fl_X12_22 ?_
    refine i_iload_n C dX12_mayCount_14 rfl (q := 1) rfl ?_
    refine i_ald C dX12_mayCount_15 (shR_5 hX) (fun v14 => ?_)
    refine i_icmp_ge (tgt := 48) C dX12_mayCount_16 (by decide) ?_ ?_
    · exact (hj12  M)
    · refine i_aload_n C dX12_mayCount_19 rfl (q := 0) rfl ?_
      refine i_getR C (k := 0) kX12 dX12_mayCount_20 (shR_0 hX) rfl (by decide) fl_X12_7 ?_
      refine i_bipush C dX12_mayCount_23 kB_13 ?_
      refine i_iload_n C dX12_mayCount_25 rfl (q := 1) rfl ?_
      refine i_iadd C dX12_mayCount_26 ?_
      refine i_ald C dX12_mayCount_27 (shR_1 hX) (fun v15 => ?_)
      refine i_jn (fun j => ∀  (M17 : Mem), Im X 0 0 44 [(0, aR 0), (1, aI x1), (2, aI x2)] [] M17 res (j  M17)) ?_ (fun j16 hj16 => ?_)
      · intro  M17
        refine i_iconst C dX12_mayCount_44 kI_1 ?_
        refine i_goto (tgt := 49) C dX12_mayCount_45 (by decide) ?_
        exact (hj3 1 M17)
      refine i_if_lt (tgt := 44) C dX12_mayCount_28 (by decide) ?_ ?_
      · exact (hj16  M)
      · refine i_iload_n C dX12_mayCount_31 rfl (q := 2) rfl ?_
        refine i_aload_n C dX12_mayCount_32 rfl (q := 0) rfl ?_
        refine i_getR C (k := 0) kX12 dX12_mayCount_33 (shR_0 hX) rfl (by decide) fl_X12_7 ?_
        refine i_bipush C dX12_mayCount_36 kB_13 ?_
        refine i_iload_n C dX12_mayCount_38 rfl (q := 1) rfl ?_
        refine i_iadd C dX12_mayCount_39 ?_
        refine i_ald C dX12_mayCount_40 (shR_1 hX) (fun v18 => ?_)
        refine i_icmp_ge (tgt := 48) C dX12_mayCount_41 (by decide) ?_ ?_
        · exact (hj12  M)
        · exact (hj16  M)
set_option maxRecDepth 100000 in
set_option maxHeartbeats 4000000 in
theorem c_X12_owedOf (l : Launch) (G : Gx) {K : Kx} (hK : K = kR) {x1 : Int} {M : Mem} {res : Int × Mem} (hM : OkM M) (ha : okS [aR 0, aI x1]) (hF : rM_owedOf x1 M = some res) : Ct l G K yX12_owedOf (wsM yX12_owedOf cX12_owedOf 10 (some .int)) rmX12_owedOf [aR 0, aI x1] M (some (aI res.1)) res.2 := by
  refine ct_of RX12 (by decide +kernel) rfl (hK ▸ kR_ok) hM ha (Nat.le_of_ble_eq_true rfl) hF ?_
  intro X C hl hG hX0 hN hR hq
  have hX : xK X = kR := hX0.trans hK
  show Im X 0 0 0 [(0, aR 0), (1, aI x1)] [] M res (rM_owedOf x1 M)
  unfold rM_owedOf
  have hl3 : 3 < xn X := by rw [hN]; decide
  have hl5 : 5 < xn X := by rw [hN]; decide
  have hl7 : 7 < xn X := by rw [hN]; decide
  have hl9 : 9 < xn X := by rw [hN]; decide
  have hRm : ∀ {rm : Room} {ny : Nat}, RmOk rmX12_owedOf rm ny → RmOk (xR X) rm ny := fun h => by rw [hR]; exact h
  refine i_aload_n C dX12_owedOf_0 rfl (q := 0) rfl ?_
  refine i_iconst C dX12_owedOf_1 kI_0 ?_
  refine i_iload_n C dX12_owedOf_2 rfl (q := 1) rfl ?_
  refine i_cI (kc' := 0) (ks' := 0) 0 0 3 (fun q hq hM hS => crV C (as := [aI 0, aI x1]) dX12_owedOf_3.1 kX12 (shR_0 hX) ml_X12_376 cal_X12_readOf cv_X12_readOf (hRm ⟨Nat.le_of_ble_eq_true rfl, Nat.le_of_ble_eq_true rfl⟩) rfl (Nat.le_of_ble_eq_true rfl) (c_X12_readOf (xl X) (xG X) hX hM ⟨hS.2.2.1, hS.2.1, hS.1, trivial⟩ hq)) (Nat.le_of_ble_eq_true rfl) (Nat.le_of_ble_eq_true rfl) rfl rfl rfl (fun v2 M1 => ?_)
  refine i_i2l C dX12_owedOf_6 ?_
  refine i_lstore_n C dX12_owedOf_7 rfl hl3 (L' := [(0, aR 0), (1, aI x1), (2, aL v2)]) rfl ?_
  refine i_aload_n C dX12_owedOf_8 rfl (q := 0) rfl ?_
  refine i_iconst C dX12_owedOf_9 kI_1 ?_
  refine i_iload_n C dX12_owedOf_10 rfl (q := 1) rfl ?_
  refine i_cI (kc' := 0) (ks' := 0) 0 0 3 (fun q hq hM hS => crV C (as := [aI 1, aI x1]) dX12_owedOf_11.1 kX12 (shR_0 hX) ml_X12_376 cal_X12_readOf cv_X12_readOf (hRm ⟨Nat.le_of_ble_eq_true rfl, Nat.le_of_ble_eq_true rfl⟩) rfl (Nat.le_of_ble_eq_true rfl) (c_X12_readOf (xl X) (xG X) hX hM ⟨hS.2.2.1, hS.2.1, hS.1, trivial⟩ hq)) (Nat.le_of_ble_eq_true rfl) (Nat.le_of_ble_eq_true rfl) rfl rfl rfl (fun v4 M3 => ?_)
  refine i_i2l C dX12_owedOf_14 ?_
  refine i_lstore C dX12_owedOf_15 hl5 (L' := [(0, aR 0), (1, aI x1), (2, aL v2), (4, aL v4)]) rfl ?_
  refine i_aload_n C dX12_owedOf_17 rfl (q := 0) rfl ?_
  refine i_iconst C dX12_owedOf_18 kI_0 ?_
  refine i_iload_n C dX12_owedOf_19 rfl (q := 1) rfl ?_
  refine i_cI (kc' := 0) (ks' := 0) 0 0 3 (fun q hq hM hS => crV C (as := [aI 0, aI x1]) dX12_owedOf_20.1 kX12 (shR_0 hX) ml_X12_385 cal_X12_mayCount cv_X12_mayCount (hRm ⟨Nat.le_of_ble_eq_true rfl, Nat.le_of_ble_eq_true rfl⟩) rfl (Nat.le_of_ble_eq_true rfl) (c_X12_mayCount (xl X) (xG X) hX hM ⟨hS.2.2.1, hS.2.1, hS.1, trivial⟩ hq)) (Nat.le_of_ble_eq_true rfl) (Nat.le_of_ble_eq_true rfl) rfl rfl rfl (fun v6 M5 => ?_)
  refine i_if_ne (tgt := 30) C dX12_owedOf_23 (by decide) ?_ ?_
  · refine i_aload_n C dX12_owedOf_30 rfl (q := 0) rfl ?_
    refine i_iconst C dX12_owedOf_31 kI_1 ?_
    refine i_iload_n C dX12_owedOf_32 rfl (q := 1) rfl ?_
    refine i_cI (kc' := 0) (ks' := 0) 0 0 3 (fun q hq hM hS => crV C (as := [aI 1, aI x1]) dX12_owedOf_33.1 kX12 (shR_0 hX) ml_X12_385 cal_X12_mayCount cv_X12_mayCount (hRm ⟨Nat.le_of_ble_eq_true rfl, Nat.le_of_ble_eq_true rfl⟩) rfl (Nat.le_of_ble_eq_true rfl) (c_X12_mayCount (xl X) (xG X) hX hM ⟨hS.2.2.1, hS.2.1, hS.1, trivial⟩ hq)) (Nat.le_of_ble_eq_true rfl) (Nat.le_of_ble_eq_true rfl) rfl rfl rfl (fun v8 M7 => ?_)
    refine i_if_ne (tgt := 42) C dX12_owedOf_36 (by decide) ?_ ?_
    · refine i_lload_n C dX12_owedOf_42 rfl (q := 2) rfl ?_
      refine i_lload C dX12_owedOf_43 (q := 3) rfl ?_
      refine i_lcmp C dX12_owedOf_45 ?_
      refine i_jn (fun j => ∀ (p9 : Int) (M11 : Mem), Im X 0 0 55 [(0, aR 0), (2, aL v2), (4, aL v4)] [aL p9] M11 res (j p9 M11)) ?_ (fun j10 hj10 => ?_)
      · intro p9 M11
        refine i_lstore C dX12_owedOf_55 hl7 (L' := [(0, aR 0), (2, aL v2), (4, aL v4), (6, aL p9)]) rfl ?_
        refine i_lload_n C dX12_owedOf_57 rfl (q := 1) rfl ?_
        refine i_lload C dX12_owedOf_58 (q := 2) rfl ?_
        refine i_lcmp C dX12_owedOf_60 ?_
        refine i_jn (fun j => ∀ (p12 : Int) (M14 : Mem), Im X 0 0 75 [(0, aR 0), (2, aL v2), (4, aL v4), (6, aL p9)] [aL p12] M14 res (j p12 M14)) ?_ (fun j13 hj13 => ?_)
        · intro p12 M14
          refine i_lstore C dX12_owedOf_75 hl9 (L' := [(0, aR 0), (2, aL v2), (4, aL v4), (6, aL p9), (8, aL p12)]) rfl ?_
          refine i_lload C dX12_owedOf_77 (q := 4) rfl ?_
          refine i_ldc2 C dX12_owedOf_79 k2_X12_215 kJ_100 ?_
          refine i_lmul C dX12_owedOf_82 ?_
          refine i_aload_n C dX12_owedOf_83 rfl (q := 0) rfl ?_
          refine i_getR C (k := 0) kX12 dX12_owedOf_84 (shR_0 hX) rfl (by decide) fl_X12_7 ?_
          refine i_bipush C dX12_owedOf_87 kB_11 ?_
          refine i_ald C dX12_owedOf_89 (shR_1 hX) (fun v15 => ?_)
          refine i_i2l C dX12_owedOf_90 ?_
          refine i_lload C dX12_owedOf_91 (q := 3) rfl ?_
          refine i_lconst C dX12_owedOf_93 kL_0 ?_
          refine i_lcmp C dX12_owedOf_94 ?_
          refine i_jn (fun j => ∀ (p16 : Int) (M18 : Mem), Im X 0 0 106 [(2, aL v2), (4, aL v4), (6, aL p9)] [aL p16, aL v15, aL (w64 (p12 * 100))] M18 res (j p16 M18)) ?_ (fun j17 hj17 => ?_)
          · intro p16 M18
            refine i_lmul C dX12_owedOf_106 ?_
            refine i_lcmp C dX12_owedOf_107 ?_
            refine i_if_gt (tgt := 122) C dX12_owedOf_108 (by decide) ?_ ?_
            · refine i_lload C dX12_owedOf_122 (q := 2) rfl ?_
              refine i_l2i C dX12_owedOf_124 ?_
              exact i_iret C hq dX12_owedOf_125
            · refine i_lload_n C dX12_owedOf_111 rfl (q := 0) rfl ?_
              refine i_lload C dX12_owedOf_112 (q := 1) rfl ?_
              refine i_ladd C dX12_owedOf_114 ?_
              refine i_ldc2 C dX12_owedOf_115 k2_X12_127 kJ_2 ?_
              refine i_ldiv C dX12_owedOf_118 (by decide) ?_
              refine i_goto (tgt := 124) C dX12_owedOf_119 (by decide) ?_
              refine i_l2i C dX12_owedOf_124 ?_
              exact i_iret C hq dX12_owedOf_125
          refine i_if_ge (tgt := 104) C dX12_owedOf_95 (by decide) ?_ ?_
          · refine i_lload C dX12_owedOf_104 (q := 3) rfl ?_
            exact i_sub [1, 2, 3] rfl (hj17 p9 M14)
          · refine i_lload C dX12_owedOf_98 (q := 3) rfl ?_
            refine i_lneg C dX12_owedOf_100 ?_
            refine i_goto (tgt := 106) C dX12_owedOf_101 (by decide) ?_
            exact i_sub [1, 2, 3] rfl (hj17 (w64 (-p9)) M14)
        refine i_if_ge (tgt := 71) C dX12_owedOf_61 (by decide) ?_ ?_
        · refine i_lload_n C dX12_owedOf_71 rfl (q := 1) rfl ?_
          refine i_lload C dX12_owedOf_72 (q := 2) rfl ?_
          refine i_lsub C dX12_owedOf_74 ?_
          exact (hj13 (w64 (v2 - v4)) M11)
        · refine i_lload C dX12_owedOf_64 (q := 2) rfl ?_
          refine i_lload_n C dX12_owedOf_66 rfl (q := 1) rfl ?_
          refine i_lsub C dX12_owedOf_67 ?_
          refine i_goto (tgt := 75) C dX12_owedOf_68 (by decide) ?_
          exact (hj13 (w64 (v4 - v2)) M11)
      refine i_if_ge (tgt := 53) C dX12_owedOf_46 (by decide) ?_ ?_
      · refine i_lload C dX12_owedOf_53 (q := 3) rfl ?_
        exact i_sub [0, 2, 3] rfl (hj10 v4 M7)
      · refine i_lload_n C dX12_owedOf_49 rfl (q := 2) rfl ?_
        refine i_goto (tgt := 55) C dX12_owedOf_50 (by decide) ?_
        exact i_sub [0, 2, 3] rfl (hj10 v2 M7)
    · refine i_lload_n C dX12_owedOf_39 rfl (q := 2) rfl ?_
      refine i_l2i C dX12_owedOf_40 ?_
      exact i_iret C hq dX12_owedOf_41
  · refine i_lload C dX12_owedOf_26 (q := 3) rfl ?_
    refine i_l2i C dX12_owedOf_28 ?_
    exact i_iret C hq dX12_owedOf_29
set_option maxRecDepth 100000 in
set_option maxHeartbeats 4000000 in
theorem c_X12_owed (l : Launch) (G : Gx) {K : Kx} (hK : K = kR) {x1 : Int} {M : Mem} {res : Int × Mem} (hM : OkM M) (ha : okS [aR 0, aI x1]) (hF : rM_owed x1 M = some res) : Ct l G K yX12_owed (wsM yX12_owed cX12_owed 2 (some .int)) rmX12_owed [aR 0, aI x1] M (some (aI res.1)) res.2 := by
  refine ct_of RX12 (by decide +kernel) rfl (hK ▸ kR_ok) hM ha (Nat.le_of_ble_eq_true rfl) hF ?_
  intro X C hl hG hX0 hN hR hq
  have hX : xK X = kR := hX0.trans hK
  show Im X 0 0 0 [(0, aR 0), (1, aI x1)] [] M res (rM_owed x1 M)
  unfold rM_owed
  have hRm : ∀ {rm : Room} {ny : Nat}, RmOk rmX12_owed rm ny → RmOk (xR X) rm ny := fun h => by rw [hR]; exact h
  refine i_iload_n C dX12_owed_0 rfl (q := 1) rfl ?_
  refine i_i2l C dX12_owed_1 ?_
  refine i_lconst C dX12_owed_2 kL_0 ?_
  refine i_ldc2 C dX12_owed_3 k2_X12_383 kJ_29 ?_
  refine i_cI (kc' := 0) (ks' := 0) 0 0 3 (fun q hq hM hS => crS C (as := [aL x1, aL 0, aL 29]) dX12_owed_6.1 ml_X12_78 cal_X12_isIn st_X12_isIn (hRm ⟨Nat.le_of_ble_eq_true rfl, Nat.le_of_ble_eq_true rfl⟩) rfl (Nat.le_of_ble_eq_true rfl) (c_X12_isIn (xl X) (xG X) hX hM ⟨hS.2.2.1, hS.2.1, hS.1, trivial⟩ hq)) (Nat.le_of_ble_eq_true rfl) (Nat.le_of_ble_eq_true rfl) rfl rfl rfl (fun v2 M1 => ?_)
  refine i_if_ne (tgt := 15) C dX12_owed_9 (by decide) ?_ ?_
  · refine i_aload_n C dX12_owed_15 rfl (q := 0) rfl ?_
    refine i_iconst C dX12_owed_16 kI_0 ?_
    refine i_iload_n C dX12_owed_17 rfl (q := 1) rfl ?_
    refine i_cI (kc' := 0) (ks' := 0) 0 0 3 (fun q hq hM hS => crV C (as := [aI 0, aI x1]) dX12_owed_18.1 kX12 (shR_0 hX) ml_X12_385 cal_X12_mayCount cv_X12_mayCount (hRm ⟨Nat.le_of_ble_eq_true rfl, Nat.le_of_ble_eq_true rfl⟩) rfl (Nat.le_of_ble_eq_true rfl) (c_X12_mayCount (xl X) (xG X) hX hM ⟨hS.2.2.1, hS.2.1, hS.1, trivial⟩ hq)) (Nat.le_of_ble_eq_true rfl) (Nat.le_of_ble_eq_true rfl) rfl rfl rfl (fun v4 M3 => ?_)
    refine i_jn (fun j => ∀  (M6 : Mem), Im X 0 0 33 [(0, aR 0), (1, aI x1)] [] M6 res (j  M6)) ?_ (fun j5 hj5 => ?_)
    · intro  M6
      refine i_aload_n C dX12_owed_33 rfl (q := 0) rfl ?_
      refine i_iload_n C dX12_owed_34 rfl (q := 1) rfl ?_
      refine i_cI (kc' := 0) (ks' := 0) 0 0 2 (fun q hq hM hS => crV C (as := [aI x1]) dX12_owed_35.1 kX12 (shR_0 hX) ml_X12_388 cal_X12_owedOf cv_X12_owedOf (hRm ⟨Nat.le_of_ble_eq_true rfl, Nat.le_of_ble_eq_true rfl⟩) rfl (Nat.le_of_ble_eq_true rfl) (c_X12_owedOf (xl X) (xG X) hX hM ⟨hS.2.1, hS.1, trivial⟩ hq)) (Nat.le_of_ble_eq_true rfl) (Nat.le_of_ble_eq_true rfl) rfl rfl rfl (fun v8 M7 => ?_)
      refine i_goto (tgt := 43) C dX12_owed_38 (by decide) ?_
      exact i_iret C hq dX12_owed_43
    refine i_if_ne (tgt := 33) C dX12_owed_21 (by decide) ?_ ?_
    · exact (hj5  M3)
    · refine i_aload_n C dX12_owed_24 rfl (q := 0) rfl ?_
      refine i_iconst C dX12_owed_25 kI_1 ?_
      refine i_iload_n C dX12_owed_26 rfl (q := 1) rfl ?_
      refine i_cI (kc' := 0) (ks' := 0) 0 0 3 (fun q hq hM hS => crV C (as := [aI 1, aI x1]) dX12_owed_27.1 kX12 (shR_0 hX) ml_X12_385 cal_X12_mayCount cv_X12_mayCount (hRm ⟨Nat.le_of_ble_eq_true rfl, Nat.le_of_ble_eq_true rfl⟩) rfl (Nat.le_of_ble_eq_true rfl) (c_X12_mayCount (xl X) (xG X) hX hM ⟨hS.2.2.1, hS.2.1, hS.1, trivial⟩ hq)) (Nat.le_of_ble_eq_true rfl) (Nat.le_of_ble_eq_true rfl) rfl rfl rfl (fun v10 M9 => ?_)
      refine i_if_eq (tgt := 41) C dX12_owed_30 (by decide) ?_ ?_
      · refine i_ldc C dX12_owed_41 kc_X12_77 kI_m1000000005 ?_
        exact i_iret C hq dX12_owed_43
      · exact (hj5  M9)
  · refine i_ldc C dX12_owed_12 kc_X12_102 kI_m1000000001 ?_
    exact i_iret C hq dX12_owed_14
set_option maxRecDepth 100000 in
set_option maxHeartbeats 4000000 in
theorem c_X12_coin (l : Launch) (G : Gx) {K : Kx} (hK : K = kR) {x1 : Int} {x2 : Int} {M : Mem} {res : Int × Mem} (hM : OkM M) (ha : okS [aR 0, aI x1, aI x2]) (hF : rM_coin x1 x2 M = some res) : Ct l G K yX12_coin (wsM yX12_coin cX12_coin 4 (some .int)) rmX12_coin [aR 0, aI x1, aI x2] M (some (aI res.1)) res.2 := by
  refine ct_of RX12 (by decide +kernel) rfl (hK ▸ kR_ok) hM ha (Nat.le_of_ble_eq_true rfl) hF ?_
  intro X C hl hG hX0 hN hR hq
  have hX : xK X = kR := hX0.trans hK
  show Im X 0 0 0 [(0, aR 0), (1, aI x1), (2, aI x2)] [] M res (rM_coin x1 x2 M)
  unfold rM_coin
  have hl3 : 3 < xn X := by rw [hN]; decide
  have hRm : ∀ {rm : Room} {ny : Nat}, RmOk rmX12_coin rm ny → RmOk (xR X) rm ny := fun h => by rw [hR]; exact h
  refine i_iload_n C dX12_coin_0 rfl (q := 1) rfl ?_
  refine i_cI (kc' := 0) (ks' := 0) 0 0 1 (fun q hq hM hS => crS C (as := [aI x1]) dX12_coin_1.1 ml_X12_99 cal_X12_isSide st_X12_isSide (hRm ⟨Nat.le_of_ble_eq_true rfl, Nat.le_of_ble_eq_true rfl⟩) rfl (Nat.le_of_ble_eq_true rfl) (c_X12_isSide (xl X) (xG X) hX hM ⟨hS.1, trivial⟩ hq)) (Nat.le_of_ble_eq_true rfl) (Nat.le_of_ble_eq_true rfl) rfl rfl rfl (fun v2 M1 => ?_)
  refine i_if_eq (tgt := 19) C dX12_coin_4 (by decide) ?_ ?_
  · refine i_ldc C dX12_coin_19 kc_X12_102 kI_m1000000001 ?_
    exact i_iret C hq dX12_coin_21
  · refine i_iload_n C dX12_coin_7 rfl (q := 2) rfl ?_
    refine i_i2l C dX12_coin_8 ?_
    refine i_lconst C dX12_coin_9 kL_0 ?_
    refine i_ldc2 C dX12_coin_10 k2_X12_383 kJ_29 ?_
    refine i_cI (kc' := 0) (ks' := 0) 0 0 3 (fun q hq hM hS => crS C (as := [aL x2, aL 0, aL 29]) dX12_coin_13.1 ml_X12_78 cal_X12_isIn st_X12_isIn (hRm ⟨Nat.le_of_ble_eq_true rfl, Nat.le_of_ble_eq_true rfl⟩) rfl (Nat.le_of_ble_eq_true rfl) (c_X12_isIn (xl X) (xG X) hX hM ⟨hS.2.2.1, hS.2.1, hS.1, trivial⟩ hq)) (Nat.le_of_ble_eq_true rfl) (Nat.le_of_ble_eq_true rfl) rfl rfl rfl (fun v4 M3 => ?_)
    refine i_if_ne (tgt := 22) C dX12_coin_16 (by decide) ?_ ?_
    · refine i_aload_n C dX12_coin_22 rfl (q := 0) rfl ?_
      refine i_iconst C dX12_coin_23 kI_0 ?_
      refine i_iload_n C dX12_coin_24 rfl (q := 2) rfl ?_
      refine i_cI (kc' := 0) (ks' := 0) 0 0 3 (fun q hq hM hS => crV C (as := [aI 0, aI x2]) dX12_coin_25.1 kX12 (shR_0 hX) ml_X12_385 cal_X12_mayCount cv_X12_mayCount (hRm ⟨Nat.le_of_ble_eq_true rfl, Nat.le_of_ble_eq_true rfl⟩) rfl (Nat.le_of_ble_eq_true rfl) (c_X12_mayCount (xl X) (xG X) hX hM ⟨hS.2.2.1, hS.2.1, hS.1, trivial⟩ hq)) (Nat.le_of_ble_eq_true rfl) (Nat.le_of_ble_eq_true rfl) rfl rfl rfl (fun v6 M5 => ?_)
      refine i_jn (fun j => ∀  (M8 : Mem), Im X 0 0 43 [(0, aR 0), (1, aI x1), (2, aI x2)] [] M8 res (j  M8)) ?_ (fun j7 hj7 => ?_)
      · intro  M8
        refine i_aload_n C dX12_coin_43 rfl (q := 0) rfl ?_
        refine i_iload_n C dX12_coin_44 rfl (q := 1) rfl ?_
        refine i_iconst C dX12_coin_45 kI_4 ?_
        refine i_cI (kc' := 0) (ks' := 0) 0 0 3 (fun q hq hM hS => crV C (as := [aI x1, aI 4]) dX12_coin_46.1 kX12 (shR_0 hX) ml_X12_321 cal_X12_countsFor cv_X12_countsFor (hRm ⟨Nat.le_of_ble_eq_true rfl, Nat.le_of_ble_eq_true rfl⟩) rfl (Nat.le_of_ble_eq_true rfl) (c_X12_countsFor (xl X) (xG X) hX hM ⟨hS.2.2.1, hS.2.1, hS.1, trivial⟩ hq)) (Nat.le_of_ble_eq_true rfl) (Nat.le_of_ble_eq_true rfl) rfl rfl rfl (fun v10 M9 => ?_)
        refine i_istore_n C dX12_coin_49 rfl hl3 (L' := [(0, aR 0), (1, aI x1), (2, aI x2), (3, aI v10)]) rfl ?_
        refine i_aload_n C dX12_coin_50 rfl (q := 0) rfl ?_
        refine i_getR C (k := 21) kX12 dX12_coin_51 (shR_0 hX) rfl (by decide) fl_X12_38 ?_
        refine i_bipush C dX12_coin_54 kB_110 ?_
        refine i_aload_n C dX12_coin_56 rfl (q := 0) rfl ?_
        refine i_iload_n C dX12_coin_57 rfl (q := 2) rfl ?_
        refine i_cI (kc' := 0) (ks' := 0) 0 0 2 (fun q hq hM hS => crV C (as := [aI x2]) dX12_coin_58.1 kX12 (shR_0 hX) ml_X12_388 cal_X12_owedOf cv_X12_owedOf (hRm ⟨Nat.le_of_ble_eq_true rfl, Nat.le_of_ble_eq_true rfl⟩) rfl (Nat.le_of_ble_eq_true rfl) (c_X12_owedOf (xl X) (xG X) hX hM ⟨hS.2.1, hS.1, trivial⟩ hq)) (Nat.le_of_ble_eq_true rfl) (Nat.le_of_ble_eq_true rfl) rfl rfl rfl (fun v12 M11 => ?_)
        refine i_ast C dX12_coin_61 (shR_9 hX) (fun M13 => ?_)
        refine i_iload_n C dX12_coin_62 rfl (q := 3) rfl ?_
        refine i_if_ge (tgt := 70) C dX12_coin_63 (by decide) ?_ ?_
        · refine i_aload_n C dX12_coin_70 rfl (q := 0) rfl ?_
          refine i_iload_n C dX12_coin_71 rfl (q := 3) rfl ?_
          refine i_cI (kc' := 0) (ks' := 0) 0 0 2 (fun q hq hM hS => crV C (as := [aI v10]) dX12_coin_72.1 kX12 (shR_0 hX) ml_X12_328 cal_X12_worked cv_X12_worked (hRm ⟨Nat.le_of_ble_eq_true rfl, Nat.le_of_ble_eq_true rfl⟩) rfl (Nat.le_of_ble_eq_true rfl) (c_X12_worked (xl X) (xG X) hX hM ⟨hS.2.1, hS.1, trivial⟩ hq)) (Nat.le_of_ble_eq_true rfl) (Nat.le_of_ble_eq_true rfl) rfl rfl rfl (fun v15 M14 => ?_)
          exact i_iret C hq dX12_coin_75
        · refine i_iconst C dX12_coin_66 kI_0 ?_
          refine i_goto (tgt := 75) C dX12_coin_67 (by decide) ?_
          exact i_iret C hq dX12_coin_75
      refine i_if_ne (tgt := 43) C dX12_coin_28 (by decide) ?_ ?_
      · exact (hj7  M5)
      · refine i_aload_n C dX12_coin_31 rfl (q := 0) rfl ?_
        refine i_iconst C dX12_coin_32 kI_1 ?_
        refine i_iload_n C dX12_coin_33 rfl (q := 2) rfl ?_
        refine i_cI (kc' := 0) (ks' := 0) 0 0 3 (fun q hq hM hS => crV C (as := [aI 1, aI x2]) dX12_coin_34.1 kX12 (shR_0 hX) ml_X12_385 cal_X12_mayCount cv_X12_mayCount (hRm ⟨Nat.le_of_ble_eq_true rfl, Nat.le_of_ble_eq_true rfl⟩) rfl (Nat.le_of_ble_eq_true rfl) (c_X12_mayCount (xl X) (xG X) hX hM ⟨hS.2.2.1, hS.2.1, hS.1, trivial⟩ hq)) (Nat.le_of_ble_eq_true rfl) (Nat.le_of_ble_eq_true rfl) rfl rfl rfl (fun v17 M16 => ?_)
        refine i_if_ne (tgt := 43) C dX12_coin_37 (by decide) ?_ ?_
        · exact (hj7  M16)
        · refine i_ldc C dX12_coin_40 kc_X12_77 kI_m1000000005 ?_
          exact i_iret C hq dX12_coin_42
    · refine i_ldc C dX12_coin_19 kc_X12_102 kI_m1000000001 ?_
      exact i_iret C hq dX12_coin_21
set_option maxRecDepth 100000 in
set_option maxHeartbeats 4000000 in
theorem c_X12_rule (l : Launch) (G : Gx) {K : Kx} (hK : K = kR) {x1 : Int} {x2 : Int} {M : Mem} {res : Int × Mem} (hM : OkM M) (ha : okS [aR 0, aI x1, aI x2]) (hF : rM_rule x1 x2 M = some res) : Ct l G K yX12_rule (wsM yX12_rule cX12_rule 3 (some .int)) rmX12_rule [aR 0, aI x1, aI x2] M (some (aI res.1)) res.2 := by
  refine ct_of RX12 (by decide +kernel) rfl (hK ▸ kR_ok) hM ha (Nat.le_of_ble_eq_true rfl) hF ?_
  intro X C hl hG hX0 hN hR hq
  have hX : xK X = kR := hX0.trans hK
  show Im X 0 0 0 [(0, aR 0), (1, aI x1), (2, aI x2)] [] M res (rM_rule x1 x2 M)
  unfold rM_rule
  have hRm : ∀ {rm : Room} {ny : Nat}, RmOk rmX12_rule rm ny → RmOk (xR X) rm ny := fun h => by rw [hR]; exact h
  refine i_iload_n C dX12_rule_0 rfl (q := 1) rfl ?_
  refine i_i2l C dX12_rule_1 ?_
  refine i_lconst C dX12_rule_2 kL_0 ?_
  refine i_lconst C dX12_rule_3 kL_1 ?_
  refine i_cI (kc' := 0) (ks' := 0) 0 0 3 (fun q hq hM hS => crS C (as := [aL x1, aL 0, aL 1]) dX12_rule_4.1 ml_X12_78 cal_X12_isIn st_X12_isIn (hRm ⟨Nat.le_of_ble_eq_true rfl, Nat.le_of_ble_eq_true rfl⟩) rfl (Nat.le_of_ble_eq_true rfl) (c_X12_isIn (xl X) (xG X) hX hM ⟨hS.2.2.1, hS.2.1, hS.1, trivial⟩ hq)) (Nat.le_of_ble_eq_true rfl) (Nat.le_of_ble_eq_true rfl) rfl rfl rfl (fun v2 M1 => ?_)
  refine i_if_eq (tgt := 44) C dX12_rule_7 (by decide) ?_ ?_
  · refine i_ldc C dX12_rule_44 kc_X12_102 kI_m1000000001 ?_
    exact i_iret C hq dX12_rule_46
  · refine i_iload_n C dX12_rule_10 rfl (q := 2) rfl ?_
    refine i_i2l C dX12_rule_11 ?_
    refine i_lconst C dX12_rule_12 kL_0 ?_
    refine i_iload_n C dX12_rule_13 rfl (q := 1) rfl ?_
    refine i_jn (fun j => ∀ (p3 : Int) (M5 : Mem), Im X 0 0 26 [(0, aR 0), (1, aI x1), (2, aI x2)] [aL p3, aL 0, aL x2] M5 res (j p3 M5)) ?_ (fun j4 hj4 => ?_)
    · intro p3 M5
      refine i_cI (kc' := 0) (ks' := 0) 0 0 3 (fun q hq hM hS => crS C (as := [aL x2, aL 0, aL p3]) dX12_rule_26.1 ml_X12_78 cal_X12_isIn st_X12_isIn (hRm ⟨Nat.le_of_ble_eq_true rfl, Nat.le_of_ble_eq_true rfl⟩) rfl (Nat.le_of_ble_eq_true rfl) (c_X12_isIn (xl X) (xG X) hX hM ⟨hS.2.2.1, hS.2.1, hS.1, trivial⟩ hq)) (Nat.le_of_ble_eq_true rfl) (Nat.le_of_ble_eq_true rfl) rfl rfl rfl (fun v7 M6 => ?_)
      refine i_if_eq (tgt := 44) C dX12_rule_29 (by decide) ?_ ?_
      · refine i_ldc C dX12_rule_44 kc_X12_102 kI_m1000000001 ?_
        exact i_iret C hq dX12_rule_46
      · refine i_aload_n C dX12_rule_32 rfl (q := 0) rfl ?_
        refine i_bipush C dX12_rule_33 kB_11 ?_
        refine i_iload_n C dX12_rule_35 rfl (q := 1) rfl ?_
        refine i_iadd C dX12_rule_36 ?_
        refine i_iload_n C dX12_rule_37 rfl (q := 2) rfl ?_
        refine i_cI (kc' := 0) (ks' := 0) 0 0 3 (fun q hq hM hS => crV C (as := [aI (w32 (11 + x1)), aI x2]) dX12_rule_38.1 kX12 (shR_0 hX) ml_X12_111 cal_X12_becomes cv_X12_becomes (hRm ⟨Nat.le_of_ble_eq_true rfl, Nat.le_of_ble_eq_true rfl⟩) rfl (Nat.le_of_ble_eq_true rfl) (c_X12_becomes (xl X) (xG X) hX hM ⟨hS.2.2.1, hS.2.1, hS.1, trivial⟩ hq)) (Nat.le_of_ble_eq_true rfl) (Nat.le_of_ble_eq_true rfl) rfl rfl rfl (fun v9 M8 => ?_)
        refine i_goto (tgt := 46) C dX12_rule_41 (by decide) ?_
        exact i_iret C hq dX12_rule_46
    refine i_if_ne (tgt := 23) C dX12_rule_14 (by decide) ?_ ?_
    · refine i_ldc2 C dX12_rule_23 k2_X12_107 kJ_999 ?_
      exact (hj4 999 M1)
    · refine i_ldc2 C dX12_rule_17 k2_X12_215 kJ_100 ?_
      refine i_goto (tgt := 26) C dX12_rule_20 (by decide) ?_
      exact (hj4 100 M1)
set_option maxRecDepth 100000 in
set_option maxHeartbeats 4000000 in
theorem c_X12_feast (l : Launch) (G : Gx) {K : Kx} (hK : K = kR) {x1 : Int} {x2 : Int} {x3 : Int} {M : Mem} {res : Int × Mem} (hM : OkM M) (ha : okS [aR 0, aI x1, aI x2, aI x3]) (hF : rM_feast x1 x2 x3 M = some res) : Ct l G K yX12_feast (wsM yX12_feast cX12_feast 4 (some .int)) rmX12_feast [aR 0, aI x1, aI x2, aI x3] M (some (aI res.1)) res.2 := by
  refine ct_of RX12 (by decide +kernel) rfl (hK ▸ kR_ok) hM ha (Nat.le_of_ble_eq_true rfl) hF ?_
  intro X C hl hG hX0 hN hR hq
  have hX : xK X = kR := hX0.trans hK
  show Im X 0 0 0 [(0, aR 0), (1, aI x1), (2, aI x2), (3, aI x3)] [] M res (rM_feast x1 x2 x3 M)
  unfold rM_feast
  have hRm : ∀ {rm : Room} {ny : Nat}, RmOk rmX12_feast rm ny → RmOk (xR X) rm ny := fun h => by rw [hR]; exact h
  refine i_iload_n C dX12_feast_0 rfl (q := 1) rfl ?_
  refine i_i2l C dX12_feast_1 ?_
  refine i_lconst C dX12_feast_2 kL_0 ?_
  refine i_ldc2 C dX12_feast_3 k2_X12_122 kJ_7 ?_
  refine i_cI (kc' := 0) (ks' := 0) 0 0 3 (fun q hq hM hS => crS C (as := [aL x1, aL 0, aL 7]) dX12_feast_6.1 ml_X12_78 cal_X12_isIn st_X12_isIn (hRm ⟨Nat.le_of_ble_eq_true rfl, Nat.le_of_ble_eq_true rfl⟩) rfl (Nat.le_of_ble_eq_true rfl) (c_X12_isIn (xl X) (xG X) hX hM ⟨hS.2.2.1, hS.2.1, hS.1, trivial⟩ hq)) (Nat.le_of_ble_eq_true rfl) (Nat.le_of_ble_eq_true rfl) rfl rfl rfl (fun v2 M1 => ?_)
  refine i_if_eq (tgt := 54) C dX12_feast_9 (by decide) ?_ ?_
  · refine i_ldc C dX12_feast_54 kc_X12_102 kI_m1000000001 ?_
    exact i_iret C hq dX12_feast_56
  · refine i_iload_n C dX12_feast_12 rfl (q := 2) rfl ?_
    refine i_i2l C dX12_feast_13 ?_
    refine i_lconst C dX12_feast_14 kL_0 ?_
    refine i_ldc2 C dX12_feast_15 k2_X12_391 kJ_12 ?_
    refine i_cI (kc' := 0) (ks' := 0) 0 0 3 (fun q hq hM hS => crS C (as := [aL x2, aL 0, aL 12]) dX12_feast_18.1 ml_X12_78 cal_X12_isIn st_X12_isIn (hRm ⟨Nat.le_of_ble_eq_true rfl, Nat.le_of_ble_eq_true rfl⟩) rfl (Nat.le_of_ble_eq_true rfl) (c_X12_isIn (xl X) (xG X) hX hM ⟨hS.2.2.1, hS.2.1, hS.1, trivial⟩ hq)) (Nat.le_of_ble_eq_true rfl) (Nat.le_of_ble_eq_true rfl) rfl rfl rfl (fun v4 M3 => ?_)
    refine i_if_eq (tgt := 54) C dX12_feast_21 (by decide) ?_ ?_
    · refine i_ldc C dX12_feast_54 kc_X12_102 kI_m1000000001 ?_
      exact i_iret C hq dX12_feast_56
    · refine i_iload_n C dX12_feast_24 rfl (q := 3) rfl ?_
      refine i_i2l C dX12_feast_25 ?_
      refine i_lconst C dX12_feast_26 kL_0 ?_
      refine i_ldc2 C dX12_feast_27 k2_X12_115 kJ_99 ?_
      refine i_cI (kc' := 0) (ks' := 0) 0 0 3 (fun q hq hM hS => crS C (as := [aL x3, aL 0, aL 99]) dX12_feast_30.1 ml_X12_78 cal_X12_isIn st_X12_isIn (hRm ⟨Nat.le_of_ble_eq_true rfl, Nat.le_of_ble_eq_true rfl⟩) rfl (Nat.le_of_ble_eq_true rfl) (c_X12_isIn (xl X) (xG X) hX hM ⟨hS.2.2.1, hS.2.1, hS.1, trivial⟩ hq)) (Nat.le_of_ble_eq_true rfl) (Nat.le_of_ble_eq_true rfl) rfl rfl rfl (fun v6 M5 => ?_)
      refine i_if_eq (tgt := 54) C dX12_feast_33 (by decide) ?_ ?_
      · refine i_ldc C dX12_feast_54 kc_X12_102 kI_m1000000001 ?_
        exact i_iret C hq dX12_feast_56
      · refine i_aload_n C dX12_feast_36 rfl (q := 0) rfl ?_
        refine i_sipush C dX12_feast_37 kS_3900 ?_
        refine i_bipush C dX12_feast_40 kB_13 ?_
        refine i_iload_n C dX12_feast_42 rfl (q := 1) rfl ?_
        refine i_imul C dX12_feast_43 ?_
        refine i_iadd C dX12_feast_44 ?_
        refine i_iload_n C dX12_feast_45 rfl (q := 2) rfl ?_
        refine i_iadd C dX12_feast_46 ?_
        refine i_iload_n C dX12_feast_47 rfl (q := 3) rfl ?_
        refine i_cI (kc' := 0) (ks' := 0) 0 0 3 (fun q hq hM hS => crV C (as := [aI (w32 ((w32 (3900 + (w32 (13 * x1)))) + x2)), aI x3]) dX12_feast_48.1 kX12 (shR_0 hX) ml_X12_111 cal_X12_becomes cv_X12_becomes (hRm ⟨Nat.le_of_ble_eq_true rfl, Nat.le_of_ble_eq_true rfl⟩) rfl (Nat.le_of_ble_eq_true rfl) (c_X12_becomes (xl X) (xG X) hX hM ⟨hS.2.2.1, hS.2.1, hS.1, trivial⟩ hq)) (Nat.le_of_ble_eq_true rfl) (Nat.le_of_ble_eq_true rfl) rfl rfl rfl (fun v8 M7 => ?_)
        refine i_goto (tgt := 56) C dX12_feast_51 (by decide) ?_
        exact i_iret C hq dX12_feast_56
set_option maxRecDepth 100000 in
set_option maxHeartbeats 4000000 in
theorem w_X12_openFor_2 {X : Xc} (C : Cx X RX12 cX12_openFor (some .int)) (hX : xK X = kR) (hN : xn X = 4) (hR : xR X = rmX12_openFor) {res : Int × Mem} (hq : Rq X (some (aI res.1)) res.2) (y2 : Int) : ∀ (n : Nat) (u3 : Int) (M : Mem), Im X 0 0 2 [(2, aI y2), (3, aI u3)] [] M res (lpX12_openFor_2 y2 n u3 M) := by
  have hl3 : 3 < xn X := by rw [hN]; decide
  intro n
  induction n with
  | zero => intro _ _; exact i_none
  | succ n ih =>
    intro u3 M
    unfold lpX12_openFor_2
    refine i_iload_n C dX12_openFor_2 rfl (q := 0) rfl ?_
    refine i_iload_n C dX12_openFor_3 rfl (q := 1) rfl ?_
    refine i_ishr C dX12_openFor_4 ?_
    refine i_iconst C dX12_openFor_5 kI_1 ?_
    refine i_iand C dX12_openFor_6 ?_
    refine i_if_ne (tgt := 20) C dX12_openFor_7 (by decide) ?_ ?_
    · refine i_iload_n C dX12_openFor_20 rfl (q := 1) rfl ?_
      exact i_iret C hq dX12_openFor_21
    · refine i_iload_n C dX12_openFor_10 rfl (q := 1) rfl ?_
      refine i_iconst C dX12_openFor_11 kI_1 ?_
      refine i_iadd C dX12_openFor_12 ?_
      refine i_bipush C dX12_openFor_13 kB_8 ?_
      refine i_irem C dX12_openFor_15 (by decide) ?_
      refine i_nm (fun v1 => ?_)
      refine i_istore_n C dX12_openFor_16 rfl hl3 (L' := [(2, aI y2), (3, aI v1)]) rfl ?_
      refine i_goto (tgt := 2) C dX12_openFor_17 (by decide) ?_
      exact (ih v1 M)
set_option maxRecDepth 100000 in
set_option maxHeartbeats 4000000 in
theorem c_X12_openFor (l : Launch) (G : Gx) {K : Kx} (hK : K = kR) {x1 : Int} {x2 : Int} {M : Mem} {res : Int × Mem} (hM : OkM M) (ha : okS [aR 0, aI x1, aI x2]) (hF : rM_openFor x1 x2 M = some res) : Ct l G K yX12_openFor (wsM yX12_openFor cX12_openFor 4 (some .int)) rmX12_openFor [aR 0, aI x1, aI x2] M (some (aI res.1)) res.2 := by
  refine ct_of RX12 (by decide +kernel) rfl (hK ▸ kR_ok) hM ha (Nat.le_of_ble_eq_true rfl) hF ?_
  intro X C hl hG hX0 hN hR hq
  have hX : xK X = kR := hX0.trans hK
  show Im X 0 0 0 [(0, aR 0), (1, aI x1), (2, aI x2)] [] M res (rM_openFor x1 x2 M)
  unfold rM_openFor
  have hl3 : 3 < xn X := by rw [hN]; decide
  refine i_iload_n C dX12_openFor_0 rfl (q := 1) rfl ?_
  refine i_istore_n C dX12_openFor_1 rfl hl3 (L' := [(0, aR 0), (1, aI x1), (2, aI x2), (3, aI x1)]) rfl ?_
  exact i_sub [2, 3] rfl (w_X12_openFor_2 C hX hN hR hq x2 FU x1 M)
set_option maxRecDepth 100000 in
set_option maxHeartbeats 4000000 in
theorem w_X12_waitingOf_2 {X : Xc} (C : Cx X RX12 cX12_waitingOf (some .int)) (hX : xK X = kR) (hN : xn X = 5) (hR : xR X = rmX12_waitingOf) {res : Int × Mem} (hq : Rq X (some (aI res.1)) res.2) (y1 : Int) {k21 : Mem → Option (Int × Mem)} (hk21 : ∀ (M : Mem), Im X 0 0 21 [(0, aR 0), (1, aI y1)] [] M res (k21 M)) : ∀ (n : Nat) (u2 : Int) (M : Mem), Im X 0 0 2 [(0, aR 0), (1, aI y1), (2, aI u2)] [] M res (lpX12_waitingOf_2 y1 k21 n u2 M) := by
  have hl2 : 2 < xn X := by rw [hN]; decide
  intro n
  induction n with
  | zero => intro _ _; exact i_none
  | succ n ih =>
    intro u2 M
    unfold lpX12_waitingOf_2
    refine i_iload_n C dX12_waitingOf_2 rfl (q := 2) rfl ?_
    refine i_bipush C dX12_waitingOf_3 kB_8 ?_
    refine i_icmp_ge (tgt := 21) C dX12_waitingOf_5 (by decide) ?_ ?_
    · exact i_sub [0, 1] rfl (hk21  M)
    · refine i_aload_n C dX12_waitingOf_8 rfl (q := 0) rfl ?_
      refine i_getR C (k := 29) kX12 dX12_waitingOf_9 (shR_0 hX) rfl (by decide) fl_X12_62 ?_
      refine i_iload_n C dX12_waitingOf_12 rfl (q := 2) rfl ?_
      refine i_iconst C dX12_waitingOf_13 kI_0 ?_
      refine i_ast C dX12_waitingOf_14 (shR_17 hX) (fun M1 => ?_)
      refine i_iincN (L' := fun v2 => [(0, aR 0), (1, aI y1), (2, aI v2)]) C dX12_waitingOf_15 (q := 2) rfl hl2 (fun _ => rfl) (fun v2 => ?_)
      refine i_goto (tgt := 2) C dX12_waitingOf_18 (by decide) ?_
      exact (ih v2 M1)
set_option maxRecDepth 100000 in
set_option maxHeartbeats 4000000 in
theorem w_X12_waitingOf_34 {X : Xc} (C : Cx X RX12 cX12_waitingOf (some .int)) (hX : xK X = kR) (hN : xn X = 5) (hR : xR X = rmX12_waitingOf) {res : Int × Mem} (hq : Rq X (some (aI res.1)) res.2) (y1 : Int) (y2 : Int) (y3 : Int) {k78 : Mem → Option (Int × Mem)} (hk78 : ∀ (M : Mem), Im X 0 0 78 [(0, aR 0), (1, aI y1), (2, aI y2), (3, aI y3)] [] M res (k78 M)) : ∀ (n : Nat) (u4 : Int) (M : Mem), Im X 0 0 34 [(0, aR 0), (1, aI y1), (2, aI y2), (3, aI y3), (4, aI u4)] [] M res (lpX12_waitingOf_34 y1 y2 y3 k78 n u4 M) := by
  have hl2 : 2 < xn X := by rw [hN]; decide
  have hl3 : 3 < xn X := by rw [hN]; decide
  have hl4 : 4 < xn X := by rw [hN]; decide
  have hRm : ∀ {rm : Room} {ny : Nat}, RmOk rmX12_waitingOf rm ny → RmOk (xR X) rm ny := fun h => by rw [hR]; exact h
  intro n
  induction n with
  | zero => intro _ _; exact i_none
  | succ n ih =>
    intro u4 M
    unfold lpX12_waitingOf_34
    refine i_iload C dX12_waitingOf_34 (q := 4) rfl ?_
    refine i_bipush C dX12_waitingOf_36 kB_8 ?_
    refine i_icmp_ge (tgt := 78) C dX12_waitingOf_38 (by decide) ?_ ?_
    · exact i_sub [0, 1, 2, 3] rfl (hk78  M)
    · refine i_aload_n C dX12_waitingOf_41 rfl (q := 0) rfl ?_
      refine i_getR C (k := 29) kX12 dX12_waitingOf_42 (shR_0 hX) rfl (by decide) fl_X12_62 ?_
      refine i_aload_n C dX12_waitingOf_45 rfl (q := 0) rfl ?_
      refine i_iload C dX12_waitingOf_46 (q := 4) rfl ?_
      refine i_iload_n C dX12_waitingOf_48 rfl (q := 1) rfl ?_
      refine i_cI (kc' := 0) (ks' := 0) 0 0 3 (fun q hq hM hS => crV C (as := [aI u4, aI y1]) dX12_waitingOf_49.1 kX12 (shR_0 hX) ml_X12_393 cal_X12_openFor cv_X12_openFor (hRm ⟨Nat.le_of_ble_eq_true rfl, Nat.le_of_ble_eq_true rfl⟩) rfl (Nat.le_of_ble_eq_true rfl) (c_X12_openFor (xl X) (xG X) hX hM ⟨hS.2.2.1, hS.2.1, hS.1, trivial⟩ hq)) (Nat.le_of_ble_eq_true rfl) (Nat.le_of_ble_eq_true rfl) rfl rfl rfl (fun v5 M4 => ?_)
      refine i_dup2 C dX12_waitingOf_52 rfl rfl ?_
      refine i_ald C dX12_waitingOf_53 (shR_17 hX) (fun v6 => ?_)
      refine i_aload_n C dX12_waitingOf_54 rfl (q := 0) rfl ?_
      refine i_getR C (k := 0) kX12 dX12_waitingOf_55 (shR_0 hX) rfl (by decide) fl_X12_7 ?_
      refine i_sipush C dX12_waitingOf_58 kS_3900 ?_
      refine i_bipush C dX12_waitingOf_61 kB_13 ?_
      refine i_iload C dX12_waitingOf_63 (q := 4) rfl ?_
      refine i_imul C dX12_waitingOf_65 ?_
      refine i_iadd C dX12_waitingOf_66 ?_
      refine i_iload_n C dX12_waitingOf_67 rfl (q := 3) rfl ?_
      refine i_iadd C dX12_waitingOf_68 ?_
      refine i_ald C dX12_waitingOf_69 (shR_1 hX) (fun v7 => ?_)
      refine i_iadd C dX12_waitingOf_70 ?_
      refine i_ast C dX12_waitingOf_71 (shR_17 hX) (fun M8 => ?_)
      refine i_iincN (L' := fun v9 => [(0, aR 0), (1, aI y1), (2, aI y2), (3, aI y3), (4, aI v9)]) C dX12_waitingOf_72 (q := 4) rfl hl4 (fun _ => rfl) (fun v9 => ?_)
      refine i_goto (tgt := 34) C dX12_waitingOf_75 (by decide) ?_
      exact (ih v9 M8)
set_option maxRecDepth 100000 in
set_option maxHeartbeats 4000000 in
theorem w_X12_waitingOf_81 {X : Xc} (C : Cx X RX12 cX12_waitingOf (some .int)) (hX : xK X = kR) (hN : xn X = 5) (hR : xR X = rmX12_waitingOf) {res : Int × Mem} (hq : Rq X (some (aI res.1)) res.2) (y1 : Int) (y3 : Int) {k141 : Int → Mem → Option (Int × Mem)} (hk141 : ∀ (q2 : Int) (M : Mem), Im X 0 0 141 [(0, aR 0), (1, aI y1), (2, aI q2), (3, aI y3)] [] M res (k141 q2 M)) : ∀ (n : Nat) (u2 : Int) (u4 : Int) (M : Mem), Im X 0 0 81 [(0, aR 0), (1, aI y1), (2, aI u2), (3, aI y3), (4, aI u4)] [] M res (lpX12_waitingOf_81 y1 y3 k141 n u2 u4 M) := by
  have hl2 : 2 < xn X := by rw [hN]; decide
  have hl3 : 3 < xn X := by rw [hN]; decide
  have hl4 : 4 < xn X := by rw [hN]; decide
  have hRm : ∀ {rm : Room} {ny : Nat}, RmOk rmX12_waitingOf rm ny → RmOk (xR X) rm ny := fun h => by rw [hR]; exact h
  intro n
  induction n with
  | zero => intro _ _ _; exact i_none
  | succ n ih =>
    intro u2 u4 M
    unfold lpX12_waitingOf_81
    refine i_iload C dX12_waitingOf_81 (q := 4) rfl ?_
    refine i_bipush C dX12_waitingOf_83 kB_8 ?_
    refine i_icmp_ge (tgt := 141) C dX12_waitingOf_85 (by decide) ?_ ?_
    · exact i_sub [0, 1, 2, 3] rfl (hk141 u2 M)
    · refine i_aload_n C dX12_waitingOf_88 rfl (q := 0) rfl ?_
      refine i_getR C (k := 29) kX12 dX12_waitingOf_89 (shR_0 hX) rfl (by decide) fl_X12_62 ?_
      refine i_iload C dX12_waitingOf_92 (q := 4) rfl ?_
      refine i_dup2 C dX12_waitingOf_94 rfl rfl ?_
      refine i_ald C dX12_waitingOf_95 (shR_17 hX) (fun v11 => ?_)
      refine i_aload_n C dX12_waitingOf_96 rfl (q := 0) rfl ?_
      refine i_getR C (k := 29) kX12 dX12_waitingOf_97 (shR_0 hX) rfl (by decide) fl_X12_62 ?_
      refine i_iload C dX12_waitingOf_100 (q := 4) rfl ?_
      refine i_ald C dX12_waitingOf_102 (shR_17 hX) (fun v12 => ?_)
      refine i_aload_n C dX12_waitingOf_103 rfl (q := 0) rfl ?_
      refine i_getR C (k := 0) kX12 dX12_waitingOf_104 (shR_0 hX) rfl (by decide) fl_X12_7 ?_
      refine i_sipush C dX12_waitingOf_107 kS_3900 ?_
      refine i_bipush C dX12_waitingOf_110 kB_13 ?_
      refine i_iload C dX12_waitingOf_112 (q := 4) rfl ?_
      refine i_imul C dX12_waitingOf_114 ?_
      refine i_iadd C dX12_waitingOf_115 ?_
      refine i_bipush C dX12_waitingOf_116 kB_12 ?_
      refine i_iadd C dX12_waitingOf_118 ?_
      refine i_ald C dX12_waitingOf_119 (shR_1 hX) (fun v13 => ?_)
      refine i_cI (kc' := 0) (ks' := 0) 0 0 2 (fun q hq hM hS => crS C (as := [aI v12, aI v13]) dX12_waitingOf_120.1 ml_X12_164 cal_X12_least st_X12_least (hRm ⟨Nat.le_of_ble_eq_true rfl, Nat.le_of_ble_eq_true rfl⟩) rfl (Nat.le_of_ble_eq_true rfl) (c_X12_least (xl X) (xG X) hX hM ⟨hS.2.1, hS.1, trivial⟩ hq)) (Nat.le_of_ble_eq_true rfl) (Nat.le_of_ble_eq_true rfl) rfl rfl rfl (fun v15 M14 => ?_)
      refine i_isub C dX12_waitingOf_123 ?_
      refine i_ast C dX12_waitingOf_124 (shR_17 hX) (fun M16 => ?_)
      refine i_iload_n C dX12_waitingOf_125 rfl (q := 2) rfl ?_
      refine i_aload_n C dX12_waitingOf_126 rfl (q := 0) rfl ?_
      refine i_getR C (k := 29) kX12 dX12_waitingOf_127 (shR_0 hX) rfl (by decide) fl_X12_62 ?_
      refine i_iload C dX12_waitingOf_130 (q := 4) rfl ?_
      refine i_ald C dX12_waitingOf_132 (shR_17 hX) (fun v17 => ?_)
      refine i_iadd C dX12_waitingOf_133 ?_
      refine i_nm (fun v18 => ?_)
      refine i_istore_n C dX12_waitingOf_134 rfl hl2 (L' := [(0, aR 0), (1, aI y1), (2, aI v18), (3, aI y3), (4, aI u4)]) rfl ?_
      refine i_iincN (L' := fun v19 => [(0, aR 0), (1, aI y1), (2, aI v18), (3, aI y3), (4, aI v19)]) C dX12_waitingOf_135 (q := 4) rfl hl4 (fun _ => rfl) (fun v19 => ?_)
      refine i_goto (tgt := 81) C dX12_waitingOf_138 (by decide) ?_
      exact (ih v18 v19 M16)
set_option maxRecDepth 100000 in
set_option maxHeartbeats 4000000 in
theorem w_X12_waitingOf_25 {X : Xc} (C : Cx X RX12 cX12_waitingOf (some .int)) (hX : xK X = kR) (hN : xn X = 5) (hR : xR X = rmX12_waitingOf) {res : Int × Mem} (hq : Rq X (some (aI res.1)) res.2) (y1 : Int) : ∀ (n : Nat) (u2 : Int) (u3 : Int) (M : Mem), Im X 0 0 25 [(0, aR 0), (1, aI y1), (2, aI u2), (3, aI u3)] [] M res (lpX12_waitingOf_25 y1 n u2 u3 M) := by
  have hl2 : 2 < xn X := by rw [hN]; decide
  have hl3 : 3 < xn X := by rw [hN]; decide
  have hl4 : 4 < xn X := by rw [hN]; decide
  have hRm : ∀ {rm : Room} {ny : Nat}, RmOk rmX12_waitingOf rm ny → RmOk (xR X) rm ny := fun h => by rw [hR]; exact h
  intro n
  induction n with
  | zero => intro _ _ _; exact i_none
  | succ n ih =>
    intro u2 u3 M
    unfold lpX12_waitingOf_25
    refine i_iload_n C dX12_waitingOf_25 rfl (q := 3) rfl ?_
    refine i_bipush C dX12_waitingOf_26 kB_12 ?_
    refine i_icmp_ge (tgt := 147) C dX12_waitingOf_28 (by decide) ?_ ?_
    · refine i_iload_n C dX12_waitingOf_147 rfl (q := 2) rfl ?_
      exact i_iret C hq dX12_waitingOf_148
    · refine i_iconst C dX12_waitingOf_31 kI_0 ?_
      refine i_istore C dX12_waitingOf_32 hl4 (L' := [(0, aR 0), (1, aI y1), (2, aI u2), (3, aI u3), (4, aI 0)]) rfl ?_
      refine (w_X12_waitingOf_34 C hX hN hR hq y1 u2 u3 (fun M10 => ?_) FU 0 M)
      refine i_iconst C dX12_waitingOf_78 kI_0 ?_
      refine i_istore C dX12_waitingOf_79 hl4 (L' := [(0, aR 0), (1, aI y1), (2, aI u2), (3, aI u3), (4, aI 0)]) rfl ?_
      refine (w_X12_waitingOf_81 C hX hN hR hq y1 u3 (fun v20 M21 => ?_) FU u2 0 M10)
      refine i_iincN (L' := fun v22 => [(0, aR 0), (1, aI y1), (2, aI v20), (3, aI v22)]) C dX12_waitingOf_141 (q := 3) rfl hl3 (fun _ => rfl) (fun v22 => ?_)
      refine i_goto (tgt := 25) C dX12_waitingOf_144 (by decide) ?_
      exact (ih v20 v22 M21)
set_option maxRecDepth 100000 in
set_option maxHeartbeats 4000000 in
theorem c_X12_waitingOf (l : Launch) (G : Gx) {K : Kx} (hK : K = kR) {x1 : Int} {M : Mem} {res : Int × Mem} (hM : OkM M) (ha : okS [aR 0, aI x1]) (hF : rM_waitingOf x1 M = some res) : Ct l G K yX12_waitingOf (wsM yX12_waitingOf cX12_waitingOf 5 (some .int)) rmX12_waitingOf [aR 0, aI x1] M (some (aI res.1)) res.2 := by
  refine ct_of RX12 (by decide +kernel) rfl (hK ▸ kR_ok) hM ha (Nat.le_of_ble_eq_true rfl) hF ?_
  intro X C hl hG hX0 hN hR hq
  have hX : xK X = kR := hX0.trans hK
  show Im X 0 0 0 [(0, aR 0), (1, aI x1)] [] M res (rM_waitingOf x1 M)
  unfold rM_waitingOf
  have hl2 : 2 < xn X := by rw [hN]; decide
  have hl3 : 3 < xn X := by rw [hN]; decide
  have hl4 : 4 < xn X := by rw [hN]; decide
  have hRm : ∀ {rm : Room} {ny : Nat}, RmOk rmX12_waitingOf rm ny → RmOk (xR X) rm ny := fun h => by rw [hR]; exact h
  refine i_iconst C dX12_waitingOf_0 kI_0 ?_
  refine i_istore_n C dX12_waitingOf_1 rfl hl2 (L' := [(0, aR 0), (1, aI x1), (2, aI 0)]) rfl ?_
  refine (w_X12_waitingOf_2 C hX hN hR hq x1 (fun M3 => ?_) FU 0 M)
  refine i_iconst C dX12_waitingOf_21 kI_0 ?_
  refine i_istore_n C dX12_waitingOf_22 rfl hl2 (L' := [(0, aR 0), (1, aI x1), (2, aI 0)]) rfl ?_
  refine i_iconst C dX12_waitingOf_23 kI_0 ?_
  refine i_istore_n C dX12_waitingOf_24 rfl hl3 (L' := [(0, aR 0), (1, aI x1), (2, aI 0), (3, aI 0)]) rfl ?_
  exact (w_X12_waitingOf_25 C hX hN hR hq x1 FU 0 0 M3)
set_option maxRecDepth 100000 in
set_option maxHeartbeats 4000000 in
theorem c_X12_waiting (l : Launch) (G : Gx) {K : Kx} (hK : K = kR) {x1 : Int} {M : Mem} {res : Int × Mem} (hM : OkM M) (ha : okS [aR 0, aI x1]) (hF : rM_waiting x1 M = some res) : Ct l G K yX12_waiting (wsM yX12_waiting cX12_waiting 2 (some .int)) rmX12_waiting [aR 0, aI x1] M (some (aI res.1)) res.2 := by
  refine ct_of RX12 (by decide +kernel) rfl (hK ▸ kR_ok) hM ha (Nat.le_of_ble_eq_true rfl) hF ?_
  intro X C hl hG hX0 hN hR hq
  have hX : xK X = kR := hX0.trans hK
  show Im X 0 0 0 [(0, aR 0), (1, aI x1)] [] M res (rM_waiting x1 M)
  unfold rM_waiting
  have hRm : ∀ {rm : Room} {ny : Nat}, RmOk rmX12_waiting rm ny → RmOk (xR X) rm ny := fun h => by rw [hR]; exact h
  refine i_iload_n C dX12_waiting_0 rfl (q := 1) rfl ?_
  refine i_i2l C dX12_waiting_1 ?_
  refine i_lconst C dX12_waiting_2 kL_1 ?_
  refine i_ldc2 C dX12_waiting_3 k2_X12_396 kJ_255 ?_
  refine i_cI (kc' := 0) (ks' := 0) 0 0 3 (fun q hq hM hS => crS C (as := [aL x1, aL 1, aL 255]) dX12_waiting_6.1 ml_X12_78 cal_X12_isIn st_X12_isIn (hRm ⟨Nat.le_of_ble_eq_true rfl, Nat.le_of_ble_eq_true rfl⟩) rfl (Nat.le_of_ble_eq_true rfl) (c_X12_isIn (xl X) (xG X) hX hM ⟨hS.2.2.1, hS.2.1, hS.1, trivial⟩ hq)) (Nat.le_of_ble_eq_true rfl) (Nat.le_of_ble_eq_true rfl) rfl rfl rfl (fun v2 M1 => ?_)
  refine i_if_eq (tgt := 20) C dX12_waiting_9 (by decide) ?_ ?_
  · refine i_ldc C dX12_waiting_20 kc_X12_102 kI_m1000000001 ?_
    exact i_iret C hq dX12_waiting_22
  · refine i_aload_n C dX12_waiting_12 rfl (q := 0) rfl ?_
    refine i_iload_n C dX12_waiting_13 rfl (q := 1) rfl ?_
    refine i_cI (kc' := 0) (ks' := 0) 0 0 2 (fun q hq hM hS => crV C (as := [aI x1]) dX12_waiting_14.1 kX12 (shR_0 hX) ml_X12_398 cal_X12_waitingOf cv_X12_waitingOf (hRm ⟨Nat.le_of_ble_eq_true rfl, Nat.le_of_ble_eq_true rfl⟩) rfl (Nat.le_of_ble_eq_true rfl) (c_X12_waitingOf (xl X) (xG X) hX hM ⟨hS.2.1, hS.1, trivial⟩ hq)) (Nat.le_of_ble_eq_true rfl) (Nat.le_of_ble_eq_true rfl) rfl rfl rfl (fun v4 M3 => ?_)
    refine i_goto (tgt := 22) C dX12_waiting_17 (by decide) ?_
    exact i_iret C hq dX12_waiting_22
set_option maxRecDepth 100000 in
set_option maxHeartbeats 4000000 in
theorem w_X12_ones_4 {X : Xc} (C : Cx X RX12 cX12_ones (some .int)) (hX : xK X = kR) (hN : xn X = 3) (hR : xR X = rmX12_ones) {res : Int × Mem} (hq : Rq X (some (aI res.1)) res.2) (y0 : Int) : ∀ (n : Nat) (u1 : Int) (u2 : Int) (M : Mem), Im X 0 0 4 [(0, aI y0), (1, aI u1), (2, aI u2)] [] M res (lpX12_ones_4 y0 n u1 u2 M) := by
  have hl1 : 1 < xn X := by rw [hN]; decide
  have hl2 : 2 < xn X := by rw [hN]; decide
  intro n
  induction n with
  | zero => intro _ _ _; exact i_none
  | succ n ih =>
    intro u1 u2 M
    unfold lpX12_ones_4
    refine i_iload_n C dX12_ones_4 rfl (q := 2) rfl ?_
    refine i_bipush C dX12_ones_5 kB_8 ?_
    refine i_icmp_ge (tgt := 24) C dX12_ones_7 (by decide) ?_ ?_
    · refine i_iload_n C dX12_ones_24 rfl (q := 1) rfl ?_
      exact i_iret C hq dX12_ones_25
    · refine i_iload_n C dX12_ones_10 rfl (q := 1) rfl ?_
      refine i_iload_n C dX12_ones_11 rfl (q := 0) rfl ?_
      refine i_iload_n C dX12_ones_12 rfl (q := 2) rfl ?_
      refine i_ishr C dX12_ones_13 ?_
      refine i_iconst C dX12_ones_14 kI_1 ?_
      refine i_iand C dX12_ones_15 ?_
      refine i_iadd C dX12_ones_16 ?_
      refine i_nm (fun v1 => ?_)
      refine i_istore_n C dX12_ones_17 rfl hl1 (L' := [(0, aI y0), (1, aI v1), (2, aI u2)]) rfl ?_
      refine i_iincN (L' := fun v2 => [(0, aI y0), (1, aI v1), (2, aI v2)]) C dX12_ones_18 (q := 2) rfl hl2 (fun _ => rfl) (fun v2 => ?_)
      refine i_goto (tgt := 4) C dX12_ones_21 (by decide) ?_
      exact (ih v1 v2 M)
set_option maxRecDepth 100000 in
set_option maxHeartbeats 4000000 in
theorem c_X12_ones (l : Launch) (G : Gx) {K : Kx} (hK : K = kR) {x0 : Int} {M : Mem} {res : Int × Mem} (hM : OkM M) (ha : okS [aI x0]) (hF : rM_ones x0 M = some res) : Ct l G K yX12_ones (wsM yX12_ones cX12_ones 3 (some .int)) rmX12_ones [aI x0] M (some (aI res.1)) res.2 := by
  refine ct_of RX12 (by decide +kernel) rfl (hK ▸ kR_ok) hM ha (Nat.le_of_ble_eq_true rfl) hF ?_
  intro X C hl hG hX0 hN hR hq
  have hX : xK X = kR := hX0.trans hK
  show Im X 0 0 0 [(0, aI x0)] [] M res (rM_ones x0 M)
  unfold rM_ones
  have hl1 : 1 < xn X := by rw [hN]; decide
  have hl2 : 2 < xn X := by rw [hN]; decide
  refine i_iconst C dX12_ones_0 kI_0 ?_
  refine i_istore_n C dX12_ones_1 rfl hl1 (L' := [(0, aI x0), (1, aI 0)]) rfl ?_
  refine i_iconst C dX12_ones_2 kI_0 ?_
  refine i_istore_n C dX12_ones_3 rfl hl2 (L' := [(0, aI x0), (1, aI 0), (2, aI 0)]) rfl ?_
  exact (w_X12_ones_4 C hX hN hR hq x0 FU 0 0 M)
set_option maxRecDepth 100000 in
set_option maxHeartbeats 4000000 in
theorem w_X12_gates_26 {X : Xc} (C : Cx X RX12 cX12_gates (some .int)) (hX : xK X = kR) (hN : xn X = 6) (hR : xR X = rmX12_gates) {res : Int × Mem} (hq : Rq X (some (aI res.1)) res.2) (y1 : Int) : ∀ (n : Nat) (u2 : Int) (u3 : Int) (u4 : Int) (M : Mem), Im X 0 0 26 [(0, aR 0), (1, aI y1), (2, aI u2), (3, aI u3), (4, aI u4)] [] M res (lpX12_gates_26 y1 n u2 u3 u4 M) := by
  have hl2 : 2 < xn X := by rw [hN]; decide
  have hl3 : 3 < xn X := by rw [hN]; decide
  have hl4 : 4 < xn X := by rw [hN]; decide
  have hl5 : 5 < xn X := by rw [hN]; decide
  have hRm : ∀ {rm : Room} {ny : Nat}, RmOk rmX12_gates rm ny → RmOk (xR X) rm ny := fun h => by rw [hR]; exact h
  intro n
  induction n with
  | zero => intro _ _ _ _; exact i_none
  | succ n ih =>
    intro u2 u3 u4 M
    unfold lpX12_gates_26
    refine i_iload C dX12_gates_26 (q := 4) rfl ?_
    refine i_sipush C dX12_gates_28 kS_256 ?_
    refine i_icmp_ge (tgt := 93) C dX12_gates_31 (by decide) ?_ ?_
    · refine i_iload_n C dX12_gates_93 rfl (q := 2) rfl ?_
      exact i_iret C hq dX12_gates_94
    · refine i_iload C dX12_gates_34 (q := 4) rfl ?_
      refine i_cI (kc' := 0) (ks' := 0) 0 0 1 (fun q hq hM hS => crS C (as := [aI u4]) dX12_gates_36.1 ml_X12_403 cal_X12_ones st_X12_ones (hRm ⟨Nat.le_of_ble_eq_true rfl, Nat.le_of_ble_eq_true rfl⟩) rfl (Nat.le_of_ble_eq_true rfl) (c_X12_ones (xl X) (xG X) hX hM ⟨hS.1, trivial⟩ hq)) (Nat.le_of_ble_eq_true rfl) (Nat.le_of_ble_eq_true rfl) rfl rfl rfl (fun v6 M5 => ?_)
      refine i_iload_n C dX12_gates_39 rfl (q := 1) rfl ?_
      refine i_jn (fun j => ∀ (p7 : Int) (M9 : Mem), Im X 0 0 55 [(0, aR 0), (1, aI y1), (2, aI u2), (3, aI u3), (4, aI u4)] [aI p7] M9 res (j p7 M9)) ?_ (fun j8 hj8 => ?_)
      · intro p7 M9
        refine i_istore C dX12_gates_55 hl5 (L' := [(0, aR 0), (1, aI y1), (2, aI u2), (3, aI u3), (4, aI u4), (5, aI p7)]) rfl ?_
        refine i_iload C dX12_gates_57 (q := 5) rfl ?_
        refine i_iload_n C dX12_gates_59 rfl (q := 3) rfl ?_
        refine i_jn (fun j => ∀ (p10 : Int) (p11 : Int) (M13 : Mem), Im X 0 0 87 [(0, aR 0), (1, aI y1), (2, aI p10), (3, aI p11), (4, aI u4)] [] M13 res (j p10 p11 M13)) ?_ (fun j12 hj12 => ?_)
        · intro p10 p11 M13
          refine i_iincN (L' := fun v14 => [(0, aR 0), (1, aI y1), (2, aI p10), (3, aI p11), (4, aI v14)]) C dX12_gates_87 (q := 4) rfl hl4 (fun _ => rfl) (fun v14 => ?_)
          refine i_goto (tgt := 26) C dX12_gates_90 (by decide) ?_
          exact (ih p10 p11 v14 M13)
        refine i_jn (fun j => ∀  (M16 : Mem), Im X 0 0 81 [(0, aR 0), (1, aI y1), (4, aI u4), (5, aI p7)] [] M16 res (j  M16)) ?_ (fun j15 hj15 => ?_)
        · intro  M16
          refine i_iload C dX12_gates_81 (q := 2) rfl ?_
          refine i_istore_n C dX12_gates_83 rfl hl2 (L' := [(0, aR 0), (1, aI y1), (2, aI u4), (4, aI u4), (5, aI p7)]) rfl ?_
          refine i_iload C dX12_gates_84 (q := 4) rfl ?_
          refine i_istore_n C dX12_gates_86 rfl hl3 (L' := [(0, aR 0), (1, aI y1), (2, aI u4), (3, aI p7), (4, aI u4), (5, aI p7)]) rfl ?_
          exact i_sub [0, 1, 2, 3, 4] rfl (hj12 u4 p7 M16)
        refine i_icmp_lt (tgt := 81) C dX12_gates_60 (by decide) ?_ ?_
        · exact i_sub [0, 1, 4, 5] rfl (hj15  M9)
        · refine i_iload C dX12_gates_63 (q := 5) rfl ?_
          refine i_iload_n C dX12_gates_65 rfl (q := 3) rfl ?_
          refine i_icmp_ne (tgt := 87) C dX12_gates_66 (by decide) ?_ ?_
          · exact i_sub [0, 1, 2, 3, 4] rfl (hj12 u2 u3 M9)
          · refine i_iload C dX12_gates_69 (q := 4) rfl ?_
            refine i_cI (kc' := 0) (ks' := 0) 0 0 1 (fun q hq hM hS => crS C (as := [aI u4]) dX12_gates_71.1 ml_X12_403 cal_X12_ones st_X12_ones (hRm ⟨Nat.le_of_ble_eq_true rfl, Nat.le_of_ble_eq_true rfl⟩) rfl (Nat.le_of_ble_eq_true rfl) (c_X12_ones (xl X) (xG X) hX hM ⟨hS.1, trivial⟩ hq)) (Nat.le_of_ble_eq_true rfl) (Nat.le_of_ble_eq_true rfl) rfl rfl rfl (fun v18 M17 => ?_)
            refine i_iload_n C dX12_gates_74 rfl (q := 2) rfl ?_
            refine i_cI (kc' := 0) (ks' := 0) 0 0 1 (fun q hq hM hS => crS C (as := [aI u2]) dX12_gates_75.1 ml_X12_403 cal_X12_ones st_X12_ones (hRm ⟨Nat.le_of_ble_eq_true rfl, Nat.le_of_ble_eq_true rfl⟩) rfl (Nat.le_of_ble_eq_true rfl) (c_X12_ones (xl X) (xG X) hX hM ⟨hS.1, trivial⟩ hq)) (Nat.le_of_ble_eq_true rfl) (Nat.le_of_ble_eq_true rfl) rfl rfl rfl (fun v20 M19 => ?_)
            refine i_icmp_ge (tgt := 87) C dX12_gates_78 (by decide) ?_ ?_
            · exact i_sub [0, 1, 2, 3, 4] rfl (hj12 u2 u3 M19)
            · exact i_sub [0, 1, 4, 5] rfl (hj15  M19)
      refine i_icmp_le (tgt := 49) C dX12_gates_40 (by decide) ?_ ?_
      · refine i_aload_n C dX12_gates_49 rfl (q := 0) rfl ?_
        refine i_iload C dX12_gates_50 (q := 4) rfl ?_
        refine i_cI (kc' := 0) (ks' := 0) 0 0 2 (fun q hq hM hS => crV C (as := [aI u4]) dX12_gates_52.1 kX12 (shR_0 hX) ml_X12_398 cal_X12_waitingOf cv_X12_waitingOf (hRm ⟨Nat.le_of_ble_eq_true rfl, Nat.le_of_ble_eq_true rfl⟩) rfl (Nat.le_of_ble_eq_true rfl) (c_X12_waitingOf (xl X) (xG X) hX hM ⟨hS.2.1, hS.1, trivial⟩ hq)) (Nat.le_of_ble_eq_true rfl) (Nat.le_of_ble_eq_true rfl) rfl rfl rfl (fun v22 M21 => ?_)
        exact (hj8 v22 M21)
      · refine i_iload_n C dX12_gates_43 rfl (q := 3) rfl ?_
        refine i_iconst C dX12_gates_44 kI_1 ?_
        refine i_iadd C dX12_gates_45 ?_
        refine i_goto (tgt := 55) C dX12_gates_46 (by decide) ?_
        exact (hj8 (w32 (u3 + 1)) M5)
set_option maxRecDepth 100000 in
set_option maxHeartbeats 4000000 in
theorem c_X12_gates (l : Launch) (G : Gx) {K : Kx} (hK : K = kR) {x1 : Int} {M : Mem} {res : Int × Mem} (hM : OkM M) (ha : okS [aR 0, aI x1]) (hF : rM_gates x1 M = some res) : Ct l G K yX12_gates (wsM yX12_gates cX12_gates 6 (some .int)) rmX12_gates [aR 0, aI x1] M (some (aI res.1)) res.2 := by
  refine ct_of RX12 (by decide +kernel) rfl (hK ▸ kR_ok) hM ha (Nat.le_of_ble_eq_true rfl) hF ?_
  intro X C hl hG hX0 hN hR hq
  have hX : xK X = kR := hX0.trans hK
  show Im X 0 0 0 [(0, aR 0), (1, aI x1)] [] M res (rM_gates x1 M)
  unfold rM_gates
  have hl2 : 2 < xn X := by rw [hN]; decide
  have hl3 : 3 < xn X := by rw [hN]; decide
  have hl4 : 4 < xn X := by rw [hN]; decide
  have hl5 : 5 < xn X := by rw [hN]; decide
  have hRm : ∀ {rm : Room} {ny : Nat}, RmOk rmX12_gates rm ny → RmOk (xR X) rm ny := fun h => by rw [hR]; exact h
  refine i_iload_n C dX12_gates_0 rfl (q := 1) rfl ?_
  refine i_i2l C dX12_gates_1 ?_
  refine i_lconst C dX12_gates_2 kL_1 ?_
  refine i_ldc2 C dX12_gates_3 k2_X12_401 kJ_8 ?_
  refine i_cI (kc' := 0) (ks' := 0) 0 0 3 (fun q hq hM hS => crS C (as := [aL x1, aL 1, aL 8]) dX12_gates_6.1 ml_X12_78 cal_X12_isIn st_X12_isIn (hRm ⟨Nat.le_of_ble_eq_true rfl, Nat.le_of_ble_eq_true rfl⟩) rfl (Nat.le_of_ble_eq_true rfl) (c_X12_isIn (xl X) (xG X) hX hM ⟨hS.2.2.1, hS.2.1, hS.1, trivial⟩ hq)) (Nat.le_of_ble_eq_true rfl) (Nat.le_of_ble_eq_true rfl) rfl rfl rfl (fun v2 M1 => ?_)
  refine i_if_ne (tgt := 15) C dX12_gates_9 (by decide) ?_ ?_
  · refine i_iconst C dX12_gates_15 kI_1 ?_
    refine i_istore_n C dX12_gates_16 rfl hl2 (L' := [(0, aR 0), (1, aI x1), (2, aI 1)]) rfl ?_
    refine i_aload_n C dX12_gates_17 rfl (q := 0) rfl ?_
    refine i_iconst C dX12_gates_18 kI_1 ?_
    refine i_cI (kc' := 0) (ks' := 0) 0 0 2 (fun q hq hM hS => crV C (as := [aI 1]) dX12_gates_19.1 kX12 (shR_0 hX) ml_X12_398 cal_X12_waitingOf cv_X12_waitingOf (hRm ⟨Nat.le_of_ble_eq_true rfl, Nat.le_of_ble_eq_true rfl⟩) rfl (Nat.le_of_ble_eq_true rfl) (c_X12_waitingOf (xl X) (xG X) hX hM ⟨hS.2.1, hS.1, trivial⟩ hq)) (Nat.le_of_ble_eq_true rfl) (Nat.le_of_ble_eq_true rfl) rfl rfl rfl (fun v4 M3 => ?_)
    refine i_istore_n C dX12_gates_22 rfl hl3 (L' := [(0, aR 0), (1, aI x1), (2, aI 1), (3, aI v4)]) rfl ?_
    refine i_iconst C dX12_gates_23 kI_2 ?_
    refine i_istore C dX12_gates_24 hl4 (L' := [(0, aR 0), (1, aI x1), (2, aI 1), (3, aI v4), (4, aI 2)]) rfl ?_
    exact (w_X12_gates_26 C hX hN hR hq x1 FU 1 v4 2 M3)
  · refine i_ldc C dX12_gates_12 kc_X12_102 kI_m1000000001 ?_
    exact i_iret C hq dX12_gates_14
set_option maxRecDepth 100000 in
set_option maxHeartbeats 4000000 in
theorem c_X12_clause (l : Launch) (G : Gx) {K : Kx} (hK : K = kR) {x1 : Int} {x2 : Int} {x3 : Int} {M : Mem} {res : Int × Mem} (hM : OkM M) (ha : okS [aR 0, aI x1, aI x2, aI x3]) (hF : rM_clause x1 x2 x3 M = some res) : Ct l G K yX12_clause (wsM yX12_clause cX12_clause 5 (some .int)) rmX12_clause [aR 0, aI x1, aI x2, aI x3] M (some (aI res.1)) res.2 := by
  refine ct_of RX12 (by decide +kernel) rfl (hK ▸ kR_ok) hM ha (Nat.le_of_ble_eq_true rfl) hF ?_
  intro X C hl hG hX0 hN hR hq
  have hX : xK X = kR := hX0.trans hK
  show Im X 0 0 0 [(0, aR 0), (1, aI x1), (2, aI x2), (3, aI x3)] [] M res (rM_clause x1 x2 x3 M)
  unfold rM_clause
  have hl4 : 4 < xn X := by rw [hN]; decide
  have hRm : ∀ {rm : Room} {ny : Nat}, RmOk rmX12_clause rm ny → RmOk (xR X) rm ny := fun h => by rw [hR]; exact h
  refine i_iload_n C dX12_clause_0 rfl (q := 1) rfl ?_
  refine i_i2l C dX12_clause_1 ?_
  refine i_ldc2 C dX12_clause_2 k2_X12_406 kJ_m99 ?_
  refine i_ldc2 C dX12_clause_5 k2_X12_115 kJ_99 ?_
  refine i_cI (kc' := 0) (ks' := 0) 0 0 3 (fun q hq hM hS => crS C (as := [aL x1, aL (-99), aL 99]) dX12_clause_8.1 ml_X12_78 cal_X12_isIn st_X12_isIn (hRm ⟨Nat.le_of_ble_eq_true rfl, Nat.le_of_ble_eq_true rfl⟩) rfl (Nat.le_of_ble_eq_true rfl) (c_X12_isIn (xl X) (xG X) hX hM ⟨hS.2.2.1, hS.2.1, hS.1, trivial⟩ hq)) (Nat.le_of_ble_eq_true rfl) (Nat.le_of_ble_eq_true rfl) rfl rfl rfl (fun v2 M1 => ?_)
  refine i_if_eq (tgt := 40) C dX12_clause_11 (by decide) ?_ ?_
  · refine i_ldc C dX12_clause_40 kc_X12_102 kI_m1000000001 ?_
    exact i_iret C hq dX12_clause_42
  · refine i_iload_n C dX12_clause_14 rfl (q := 2) rfl ?_
    refine i_i2l C dX12_clause_15 ?_
    refine i_ldc2 C dX12_clause_16 k2_X12_406 kJ_m99 ?_
    refine i_ldc2 C dX12_clause_19 k2_X12_115 kJ_99 ?_
    refine i_cI (kc' := 0) (ks' := 0) 0 0 3 (fun q hq hM hS => crS C (as := [aL x2, aL (-99), aL 99]) dX12_clause_22.1 ml_X12_78 cal_X12_isIn st_X12_isIn (hRm ⟨Nat.le_of_ble_eq_true rfl, Nat.le_of_ble_eq_true rfl⟩) rfl (Nat.le_of_ble_eq_true rfl) (c_X12_isIn (xl X) (xG X) hX hM ⟨hS.2.2.1, hS.2.1, hS.1, trivial⟩ hq)) (Nat.le_of_ble_eq_true rfl) (Nat.le_of_ble_eq_true rfl) rfl rfl rfl (fun v4 M3 => ?_)
    refine i_if_eq (tgt := 40) C dX12_clause_25 (by decide) ?_ ?_
    · refine i_ldc C dX12_clause_40 kc_X12_102 kI_m1000000001 ?_
      exact i_iret C hq dX12_clause_42
    · refine i_iload_n C dX12_clause_28 rfl (q := 3) rfl ?_
      refine i_i2l C dX12_clause_29 ?_
      refine i_lconst C dX12_clause_30 kL_0 ?_
      refine i_ldc2 C dX12_clause_31 k2_X12_115 kJ_99 ?_
      refine i_cI (kc' := 0) (ks' := 0) 0 0 3 (fun q hq hM hS => crS C (as := [aL x3, aL 0, aL 99]) dX12_clause_34.1 ml_X12_78 cal_X12_isIn st_X12_isIn (hRm ⟨Nat.le_of_ble_eq_true rfl, Nat.le_of_ble_eq_true rfl⟩) rfl (Nat.le_of_ble_eq_true rfl) (c_X12_isIn (xl X) (xG X) hX hM ⟨hS.2.2.1, hS.2.1, hS.1, trivial⟩ hq)) (Nat.le_of_ble_eq_true rfl) (Nat.le_of_ble_eq_true rfl) rfl rfl rfl (fun v6 M5 => ?_)
      refine i_if_ne (tgt := 43) C dX12_clause_37 (by decide) ?_ ?_
      · refine i_aload_n C dX12_clause_43 rfl (q := 0) rfl ?_
        refine i_getR C (k := 0) kX12 dX12_clause_44 (shR_0 hX) rfl (by decide) fl_X12_7 ?_
        refine i_bipush C dX12_clause_47 kB_7 ?_
        refine i_ald C dX12_clause_49 (shR_1 hX) (fun v7 => ?_)
        refine i_bipush C dX12_clause_50 kB_7 ?_
        refine i_icmp_ne (tgt := 58) C dX12_clause_52 (by decide) ?_ ?_
        · refine i_sipush C dX12_clause_58 kS_3830 ?_
          refine i_iconst C dX12_clause_61 kI_3 ?_
          refine i_aload_n C dX12_clause_62 rfl (q := 0) rfl ?_
          refine i_getR C (k := 0) kX12 dX12_clause_63 (shR_0 hX) rfl (by decide) fl_X12_7 ?_
          refine i_bipush C dX12_clause_66 kB_7 ?_
          refine i_ald C dX12_clause_68 (shR_1 hX) (fun v8 => ?_)
          refine i_imul C dX12_clause_69 ?_
          refine i_iadd C dX12_clause_70 ?_
          refine i_nm (fun v9 => ?_)
          refine i_istore C dX12_clause_71 hl4 (L' := [(0, aR 0), (1, aI x1), (2, aI x2), (3, aI x3), (4, aI v9)]) rfl ?_
          refine i_aload_n C dX12_clause_73 rfl (q := 0) rfl ?_
          refine i_getR C (k := 0) kX12 dX12_clause_74 (shR_0 hX) rfl (by decide) fl_X12_7 ?_
          refine i_iload C dX12_clause_77 (q := 4) rfl ?_
          refine i_iload_n C dX12_clause_79 rfl (q := 1) rfl ?_
          refine i_ast C dX12_clause_80 (shR_1 hX) (fun M10 => ?_)
          refine i_aload_n C dX12_clause_81 rfl (q := 0) rfl ?_
          refine i_getR C (k := 0) kX12 dX12_clause_82 (shR_0 hX) rfl (by decide) fl_X12_7 ?_
          refine i_iload C dX12_clause_85 (q := 4) rfl ?_
          refine i_iconst C dX12_clause_87 kI_1 ?_
          refine i_iadd C dX12_clause_88 ?_
          refine i_iload_n C dX12_clause_89 rfl (q := 2) rfl ?_
          refine i_ast C dX12_clause_90 (shR_1 hX) (fun M11 => ?_)
          refine i_aload_n C dX12_clause_91 rfl (q := 0) rfl ?_
          refine i_getR C (k := 0) kX12 dX12_clause_92 (shR_0 hX) rfl (by decide) fl_X12_7 ?_
          refine i_iload C dX12_clause_95 (q := 4) rfl ?_
          refine i_iconst C dX12_clause_97 kI_2 ?_
          refine i_iadd C dX12_clause_98 ?_
          refine i_iload_n C dX12_clause_99 rfl (q := 3) rfl ?_
          refine i_ast C dX12_clause_100 (shR_1 hX) (fun M12 => ?_)
          refine i_aload_n C dX12_clause_101 rfl (q := 0) rfl ?_
          refine i_getR C (k := 0) kX12 dX12_clause_102 (shR_0 hX) rfl (by decide) fl_X12_7 ?_
          refine i_bipush C dX12_clause_105 kB_7 ?_
          refine i_dup2 C dX12_clause_107 rfl rfl ?_
          refine i_ald C dX12_clause_108 (shR_1 hX) (fun v13 => ?_)
          refine i_iconst C dX12_clause_109 kI_1 ?_
          refine i_iadd C dX12_clause_110 ?_
          refine i_ast C dX12_clause_111 (shR_1 hX) (fun M14 => ?_)
          refine i_aload_n C dX12_clause_112 rfl (q := 0) rfl ?_
          refine i_getR C (k := 0) kX12 dX12_clause_113 (shR_0 hX) rfl (by decide) fl_X12_7 ?_
          refine i_bipush C dX12_clause_116 kB_7 ?_
          refine i_ald C dX12_clause_118 (shR_1 hX) (fun v15 => ?_)
          refine i_iconst C dX12_clause_119 kI_1 ?_
          refine i_isub C dX12_clause_120 ?_
          exact i_iret C hq dX12_clause_121
        · refine i_ldc C dX12_clause_55 kc_X12_103 kI_m1000000003 ?_
          exact i_iret C hq dX12_clause_57
      · refine i_ldc C dX12_clause_40 kc_X12_102 kI_m1000000001 ?_
        exact i_iret C hq dX12_clause_42
set_option maxRecDepth 100000 in
set_option maxHeartbeats 4000000 in
theorem w_X12_seek_59 {X : Xc} {rc : Int → Int → Int → Int → Int → Int → Mem → Option (Mem)} {d : Nat} (C : Cx X RX12 cX12_seek none) (hX : xK X = kR) (hN : xn X = 10) (hR : xR X = (rmX12_seek (d + 1))) (hrc : RcX12_seek (xl X) (xG X) (xK X) rc d) {res : Mem} (hq : Rq X none res) (y1 : Int) (y2 : Int) (y3 : Int) (y4 : Int) (y5 : Int) (y6 : Int) : ∀ (n : Nat) (u7 : Int) (M : Mem), Im X 0 0 59 [(0, aR 0), (1, aI y1), (2, aI y2), (3, aI y3), (4, aI y4), (5, aI y5), (6, aI y6), (7, aI u7)] [] M res (lpX12_seek_59 rc y1 y2 y3 y4 y5 y6 n u7 M) := by
  have hl7 : 7 < xn X := by rw [hN]; decide
  have hl8 : 8 < xn X := by rw [hN]; decide
  have hl9 : 9 < xn X := by rw [hN]; decide
  have hRm : ∀ {rm : Room} {ny : Nat}, RmOk (rmX12_seek (d + 1)) rm ny → RmOk (xR X) rm ny := fun h => by rw [hR]; exact h
  intro n
  induction n with
  | zero => intro _ _; exact i_none
  | succ n ih =>
    intro u7 M
    unfold lpX12_seek_59
    refine i_iload C dX12_seek_59 (q := 7) rfl ?_
    refine i_aload_n C dX12_seek_61 rfl (q := 0) rfl ?_
    refine i_getR C (k := 0) kX12 dX12_seek_62 (shR_0 hX) rfl (by decide) fl_X12_7 ?_
    refine i_bipush C dX12_seek_65 kB_7 ?_
    refine i_ald C dX12_seek_67 (shR_1 hX) (fun v1 => ?_)
    refine i_icmp_ge (tgt := 251) C dX12_seek_68 (by decide) ?_ ?_
    · exact i_vret C hq dX12_seek_251
    · refine i_aload_n C dX12_seek_71 rfl (q := 0) rfl ?_
      refine i_getI C (k := 34) kX12 dX12_seek_72 (shR_0 hX) rfl (by decide) fl_X12_411 rfl ?_
      refine i_if_ne (tgt := 251) C dX12_seek_75 (by decide) ?_ ?_
      · exact i_vret C hq dX12_seek_251
      · refine i_sipush C dX12_seek_78 kS_3830 ?_
        refine i_iconst C dX12_seek_81 kI_3 ?_
        refine i_iload C dX12_seek_82 (q := 7) rfl ?_
        refine i_imul C dX12_seek_84 ?_
        refine i_iadd C dX12_seek_85 ?_
        refine i_nm (fun v2 => ?_)
        refine i_istore C dX12_seek_86 hl8 (L' := [(0, aR 0), (1, aI y1), (2, aI y2), (3, aI y3), (4, aI y4), (5, aI y5), (6, aI y6), (7, aI u7), (8, aI v2)]) rfl ?_
        refine i_iload_n C dX12_seek_88 rfl (q := 3) rfl ?_
        refine i_iload C dX12_seek_89 (q := 7) rfl ?_
        refine i_ishr C dX12_seek_91 ?_
        refine i_iconst C dX12_seek_92 kI_1 ?_
        refine i_iand C dX12_seek_93 ?_
        refine i_jn (fun j => ∀ (p3 : Int) (M5 : Mem), Im X 0 0 146 [(0, aR 0), (1, aI y1), (2, aI y2), (3, aI y3), (4, aI y4), (5, aI y5), (6, aI y6), (7, aI u7), (8, aI v2)] [aI p3] M5 res (j p3 M5)) ?_ (fun j4 hj4 => ?_)
        · intro p3 M5
          refine i_istore C dX12_seek_146 hl9 (L' := [(0, aR 0), (1, aI y1), (2, aI y2), (3, aI y3), (4, aI y4), (5, aI y5), (6, aI y6), (7, aI u7), (8, aI v2), (9, aI p3)]) rfl ?_
          refine i_iload C dX12_seek_148 (q := 9) rfl ?_
          refine i_jn (fun j => ∀  (M7 : Mem), Im X 0 0 245 [(0, aR 0), (1, aI y1), (2, aI y2), (3, aI y3), (4, aI y4), (5, aI y5), (6, aI y6), (7, aI u7)] [] M7 res (j  M7)) ?_ (fun j6 hj6 => ?_)
          · intro  M7
            refine i_iincN (L' := fun v8 => [(0, aR 0), (1, aI y1), (2, aI y2), (3, aI y3), (4, aI y4), (5, aI y5), (6, aI y6), (7, aI v8)]) C dX12_seek_245 (q := 7) rfl hl7 (fun _ => rfl) (fun v8 => ?_)
            refine i_goto (tgt := 59) C dX12_seek_248 (by decide) ?_
            exact (ih v8 M7)
          refine i_if_ne (tgt := 156) C dX12_seek_150 (by decide) ?_ ?_
          · refine i_aload_n C dX12_seek_156 rfl (q := 0) rfl ?_
            refine i_aload_n C dX12_seek_157 rfl (q := 0) rfl ?_
            refine i_getI C (k := 33) kX12 dX12_seek_158 (shR_0 hX) rfl (by decide) fl_X12_415 rfl ?_
            refine i_jn (fun j => ∀ (p9 : Int) (M11 : Mem), Im X 0 0 169 [(0, aR 0), (1, aI y1), (2, aI y2), (3, aI y3), (4, aI y4), (5, aI y5), (6, aI y6), (7, aI u7), (8, aI v2)] [aI p9, aR 0] M11 res (j p9 M11)) ?_ (fun j10 hj10 => ?_)
            · intro p9 M11
              refine i_putZ C (k := 34) kX12 dX12_seek_169 (shR_0 hX) rfl (by decide) fl_X12_411 rfl rfl rfl (fun M12 => ?_)
              refine i_aload_n C dX12_seek_172 rfl (q := 0) rfl ?_
              refine i_getI C (k := 34) kX12 dX12_seek_173 (shR_0 hX) rfl (by decide) fl_X12_411 rfl ?_
              refine i_if_ne (tgt := 245) C dX12_seek_176 (by decide) ?_ ?_
              · exact i_sub [0, 1, 2, 3, 4, 5, 6, 7] rfl (hj6  M12)
              · refine i_aload_n C dX12_seek_179 rfl (q := 0) rfl ?_
                refine i_dup C dX12_seek_180 rfl ?_
                refine i_getI C (k := 33) kX12 dX12_seek_181 (shR_0 hX) rfl (by decide) fl_X12_415 rfl ?_
                refine i_iconst C dX12_seek_184 kI_1 ?_
                refine i_isub C dX12_seek_185 ?_
                refine i_putI C (k := 33) kX12 dX12_seek_186 (shR_0 hX) rfl (by decide) fl_X12_415 rfl rfl rfl rfl (fun M13 => ?_)
                refine i_aload_n C dX12_seek_189 rfl (q := 0) rfl ?_
                refine i_getR C (k := 30) kX12 dX12_seek_190 (shR_0 hX) rfl (by decide) fl_X12_65 ?_
                refine i_iload_n C dX12_seek_193 rfl (q := 2) rfl ?_
                refine i_iload C dX12_seek_194 (q := 7) rfl ?_
                refine i_ast C dX12_seek_196 (shR_18 hX) (fun M14 => ?_)
                refine i_aload_n C dX12_seek_197 rfl (q := 0) rfl ?_
                refine i_iload_n C dX12_seek_198 rfl (q := 1) rfl ?_
                refine i_iload_n C dX12_seek_199 rfl (q := 2) rfl ?_
                refine i_iconst C dX12_seek_200 kI_1 ?_
                refine i_iadd C dX12_seek_201 ?_
                refine i_iload_n C dX12_seek_202 rfl (q := 3) rfl ?_
                refine i_iconst C dX12_seek_203 kI_1 ?_
                refine i_iload C dX12_seek_204 (q := 7) rfl ?_
                refine i_ishl C dX12_seek_206 ?_
                refine i_ior C dX12_seek_207 ?_
                refine i_iload C dX12_seek_208 (q := 4) rfl ?_
                refine i_aload_n C dX12_seek_210 rfl (q := 0) rfl ?_
                refine i_getR C (k := 0) kX12 dX12_seek_211 (shR_0 hX) rfl (by decide) fl_X12_7 ?_
                refine i_iload C dX12_seek_214 (q := 8) rfl ?_
                refine i_ald C dX12_seek_216 (shR_1 hX) (fun v15 => ?_)
                refine i_iadd C dX12_seek_217 ?_
                refine i_iload C dX12_seek_218 (q := 5) rfl ?_
                refine i_aload_n C dX12_seek_220 rfl (q := 0) rfl ?_
                refine i_getR C (k := 0) kX12 dX12_seek_221 (shR_0 hX) rfl (by decide) fl_X12_7 ?_
                refine i_iload C dX12_seek_224 (q := 8) rfl ?_
                refine i_iconst C dX12_seek_226 kI_1 ?_
                refine i_iadd C dX12_seek_227 ?_
                refine i_ald C dX12_seek_228 (shR_1 hX) (fun v16 => ?_)
                refine i_iadd C dX12_seek_229 ?_
                refine i_iload C dX12_seek_230 (q := 6) rfl ?_
                refine i_aload_n C dX12_seek_232 rfl (q := 0) rfl ?_
                refine i_getR C (k := 0) kX12 dX12_seek_233 (shR_0 hX) rfl (by decide) fl_X12_7 ?_
                refine i_iload C dX12_seek_236 (q := 8) rfl ?_
                refine i_iconst C dX12_seek_238 kI_2 ?_
                refine i_iadd C dX12_seek_239 ?_
                refine i_ald C dX12_seek_240 (shR_1 hX) (fun v17 => ?_)
                refine i_iadd C dX12_seek_241 ?_
                refine i_cV (kc' := 0) (ks' := 0) 0 0 7 (fun q hq hM hS => crV C (as := [aI y1, aI (w32 (y2 + 1)), aI (bOr y3 (bShl 1 u7)), aI (w32 (y4 + v15)), aI (w32 (y5 + v16)), aI (w32 (y6 + v17))]) dX12_seek_242.1 kX12 (shR_0 hX) ml_X12_418 cal_X12_seek cv_X12_seek (hRm rk_X12_seek_X12_seek) rfl (Nat.le_of_ble_eq_true rfl) (hrc _ _ _ _ _ _ _ _ hM ⟨hS.2.2.2.2.2.2.1, hS.2.2.2.2.2.1, hS.2.2.2.2.1, hS.2.2.2.1, hS.2.2.1, hS.2.1, hS.1, trivial⟩ hq)) (Nat.le_of_ble_eq_true rfl) (Nat.le_of_ble_eq_true rfl) rfl rfl rfl (fun M18 => ?_)
                exact i_sub [0, 1, 2, 3, 4, 5, 6, 7] rfl (hj6  M18)
            refine i_if_ne (tgt := 168) C dX12_seek_161 (by decide) ?_ ?_
            · refine i_iconst C dX12_seek_168 kI_0 ?_
              exact i_sub [0, 1, 2, 3, 4, 5, 6, 7, 8] rfl (hj10 0 M5)
            · refine i_iconst C dX12_seek_164 kI_1 ?_
              refine i_goto (tgt := 169) C dX12_seek_165 (by decide) ?_
              exact i_sub [0, 1, 2, 3, 4, 5, 6, 7, 8] rfl (hj10 1 M5)
          · refine i_goto (tgt := 245) C dX12_seek_153 (by decide) ?_
            exact i_sub [0, 1, 2, 3, 4, 5, 6, 7] rfl (hj6  M5)
        refine i_jn (fun j => ∀  (M20 : Mem), Im X 0 0 145 [(0, aR 0), (1, aI y1), (2, aI y2), (3, aI y3), (4, aI y4), (5, aI y5), (6, aI y6), (7, aI u7), (8, aI v2)] [] M20 res (j  M20)) ?_ (fun j19 hj19 => ?_)
        · intro  M20
          refine i_iconst C dX12_seek_145 kI_0 ?_
          exact (hj4 0 M20)
        refine i_if_ne (tgt := 145) C dX12_seek_94 (by decide) ?_ ?_
        · exact (hj19  M)
        · refine i_iload C dX12_seek_97 (q := 4) rfl ?_
          refine i_aload_n C dX12_seek_99 rfl (q := 0) rfl ?_
          refine i_getR C (k := 0) kX12 dX12_seek_100 (shR_0 hX) rfl (by decide) fl_X12_7 ?_
          refine i_iload C dX12_seek_103 (q := 8) rfl ?_
          refine i_ald C dX12_seek_105 (shR_1 hX) (fun v21 => ?_)
          refine i_iadd C dX12_seek_106 ?_
          refine i_aload_n C dX12_seek_107 rfl (q := 0) rfl ?_
          refine i_getR C (k := 0) kX12 dX12_seek_108 (shR_0 hX) rfl (by decide) fl_X12_7 ?_
          refine i_bipush C dX12_seek_111 kB_12 ?_
          refine i_ald C dX12_seek_113 (shR_1 hX) (fun v22 => ?_)
          refine i_ineg C dX12_seek_114 ?_
          refine i_icmp_lt (tgt := 145) C dX12_seek_115 (by decide) ?_ ?_
          · exact (hj19  M)
          · refine i_iload C dX12_seek_118 (q := 5) rfl ?_
            refine i_aload_n C dX12_seek_120 rfl (q := 0) rfl ?_
            refine i_getR C (k := 0) kX12 dX12_seek_121 (shR_0 hX) rfl (by decide) fl_X12_7 ?_
            refine i_iload C dX12_seek_124 (q := 8) rfl ?_
            refine i_iconst C dX12_seek_126 kI_1 ?_
            refine i_iadd C dX12_seek_127 ?_
            refine i_ald C dX12_seek_128 (shR_1 hX) (fun v23 => ?_)
            refine i_iadd C dX12_seek_129 ?_
            refine i_aload_n C dX12_seek_130 rfl (q := 0) rfl ?_
            refine i_getR C (k := 0) kX12 dX12_seek_131 (shR_0 hX) rfl (by decide) fl_X12_7 ?_
            refine i_bipush C dX12_seek_134 kB_12 ?_
            refine i_ald C dX12_seek_136 (shR_1 hX) (fun v24 => ?_)
            refine i_ineg C dX12_seek_137 ?_
            refine i_icmp_lt (tgt := 145) C dX12_seek_138 (by decide) ?_ ?_
            · exact (hj19  M)
            · refine i_iconst C dX12_seek_141 kI_1 ?_
              refine i_goto (tgt := 146) C dX12_seek_142 (by decide) ?_
              exact (hj4 1 M)
set_option maxRecDepth 100000 in
set_option maxHeartbeats 4000000 in
theorem w_X12_seek_29 {X : Xc} {rc : Int → Int → Int → Int → Int → Int → Mem → Option (Mem)} {d : Nat} (C : Cx X RX12 cX12_seek none) (hX : xK X = kR) (hN : xn X = 10) (hR : xR X = (rmX12_seek (d + 1))) (hrc : RcX12_seek (xl X) (xG X) (xK X) rc d) {res : Mem} (hq : Rq X none res) (y2 : Int) : ∀ (n : Nat) (u7 : Int) (M : Mem), Im X 0 0 29 [(0, aR 0), (2, aI y2), (7, aI u7)] [] M res (lpX12_seek_29 rc y2 n u7 M) := by
  have hl7 : 7 < xn X := by rw [hN]; decide
  have hl8 : 8 < xn X := by rw [hN]; decide
  have hl9 : 9 < xn X := by rw [hN]; decide
  have hRm : ∀ {rm : Room} {ny : Nat}, RmOk (rmX12_seek (d + 1)) rm ny → RmOk (xR X) rm ny := fun h => by rw [hR]; exact h
  intro n
  induction n with
  | zero => intro _ _; exact i_none
  | succ n ih =>
    intro u7 M
    unfold lpX12_seek_29
    refine i_iload C dX12_seek_29 (q := 2) rfl ?_
    refine i_iload_n C dX12_seek_31 rfl (q := 1) rfl ?_
    refine i_icmp_ge (tgt := 55) C dX12_seek_32 (by decide) ?_ ?_
    · exact i_vret C hq dX12_seek_55
    · refine i_aload_n C dX12_seek_35 rfl (q := 0) rfl ?_
      refine i_getR C (k := 31) kX12 dX12_seek_36 (shR_0 hX) rfl (by decide) fl_X12_68 ?_
      refine i_iload C dX12_seek_39 (q := 2) rfl ?_
      refine i_aload_n C dX12_seek_41 rfl (q := 0) rfl ?_
      refine i_getR C (k := 30) kX12 dX12_seek_42 (shR_0 hX) rfl (by decide) fl_X12_65 ?_
      refine i_iload C dX12_seek_45 (q := 2) rfl ?_
      refine i_ald C dX12_seek_47 (shR_18 hX) (fun v28 => ?_)
      refine i_ast C dX12_seek_48 (shR_19 hX) (fun M29 => ?_)
      refine i_iincN (L' := fun v30 => [(0, aR 0), (2, aI y2), (7, aI v30)]) C dX12_seek_49 (q := 2) rfl hl7 (fun _ => rfl) (fun v30 => ?_)
      refine i_goto (tgt := 29) C dX12_seek_52 (by decide) ?_
      exact (ih v30 M29)
set_option maxRecDepth 100000 in
set_option maxHeartbeats 4000000 in
theorem c_X12_seekb (l : Launch) (G : Gx) {K : Kx} (hK : K = kR) {x1 : Int} {x2 : Int} {x3 : Int} {x4 : Int} {x5 : Int} {x6 : Int} {rc : Int → Int → Int → Int → Int → Int → Mem → Option (Mem)} {d : Nat} (hrc : RcX12_seek l G K rc d) {M : Mem} {res : Mem} (hM : OkM M) (ha : okS [aR 0, aI x1, aI x2, aI x3, aI x4, aI x5, aI x6]) (hF : rM_seekb rc x1 x2 x3 x4 x5 x6 M = some res) : Ct l G K yX12_seek (wsM yX12_seek cX12_seek 10 none) (rmX12_seek (d + 1)) [aR 0, aI x1, aI x2, aI x3, aI x4, aI x5, aI x6] M none res := by
  refine ct_of RX12 (by decide +kernel) rfl (hK ▸ kR_ok) hM ha (Nat.le_of_ble_eq_true rfl) hF ?_
  intro X C hl hG hX0 hN hR hq
  have hX : xK X = kR := hX0.trans hK
  have hrc : RcX12_seek (xl X) (xG X) (xK X) rc d := by rw [hl, hG, hX0]; exact hrc
  show Im X 0 0 0 [(0, aR 0), (1, aI x1), (2, aI x2), (3, aI x3), (4, aI x4), (5, aI x5), (6, aI x6)] [] M res (rM_seekb rc x1 x2 x3 x4 x5 x6 M)
  unfold rM_seekb
  have hl7 : 7 < xn X := by rw [hN]; decide
  have hl8 : 8 < xn X := by rw [hN]; decide
  have hl9 : 9 < xn X := by rw [hN]; decide
  have hRm : ∀ {rm : Room} {ny : Nat}, RmOk (rmX12_seek (d + 1)) rm ny → RmOk (xR X) rm ny := fun h => by rw [hR]; exact h
  refine i_iload C dX12_seek_0 (q := 6) rfl ?_
  refine i_iload_n C dX12_seek_2 rfl (q := 1) rfl ?_
  refine i_icmp_lt (tgt := 56) C dX12_seek_3 (by decide) ?_ ?_
  · refine i_iconst C dX12_seek_56 kI_0 ?_
    refine i_istore C dX12_seek_57 hl7 (L' := [(0, aR 0), (1, aI x1), (2, aI x2), (3, aI x3), (4, aI x4), (5, aI x5), (6, aI x6), (7, aI 0)]) rfl ?_
    exact (w_X12_seek_59 C hX hN hR hrc hq x1 x2 x3 x4 x5 x6 FU 0 M)
  · refine i_aload_n C dX12_seek_6 rfl (q := 0) rfl ?_
    refine i_getI C (k := 32) kX12 dX12_seek_7 (shR_0 hX) rfl (by decide) fl_X12_408 rfl ?_
    refine i_jn (fun j => ∀  (M26 : Mem), Im X 0 0 21 [(0, aR 0), (2, aI x2)] [] M26 res (j  M26)) ?_ (fun j25 hj25 => ?_)
    · intro  M26
      refine i_aload_n C dX12_seek_21 rfl (q := 0) rfl ?_
      refine i_iload_n C dX12_seek_22 rfl (q := 1) rfl ?_
      refine i_putI C (k := 32) kX12 dX12_seek_23 (shR_0 hX) rfl (by decide) fl_X12_408 rfl rfl rfl rfl (fun M27 => ?_)
      refine i_iconst C dX12_seek_26 kI_0 ?_
      refine i_istore C dX12_seek_27 hl7 (L' := [(0, aR 0), (2, aI x2), (7, aI 0)]) rfl ?_
      exact (w_X12_seek_29 C hX hN hR hrc hq x2 FU 0 M27)
    refine i_if_lt (tgt := 21) C dX12_seek_10 (by decide) ?_ ?_
    · exact i_sub [0, 2] rfl (hj25  M)
    · refine i_iload_n C dX12_seek_13 rfl (q := 2) rfl ?_
      refine i_aload_n C dX12_seek_14 rfl (q := 0) rfl ?_
      refine i_getI C (k := 32) kX12 dX12_seek_15 (shR_0 hX) rfl (by decide) fl_X12_408 rfl ?_
      refine i_icmp_ge (tgt := 55) C dX12_seek_18 (by decide) ?_ ?_
      · exact i_vret C hq dX12_seek_55
      · exact i_sub [0, 2] rfl (hj25  M)
theorem c_X12_seek (l : Launch) (G : Gx) {K : Kx} (hK : K = kR) : ∀ d, RcX12_seek l G K (fun x1 x2 x3 x4 x5 x6 M => rM_seek d x1 x2 x3 x4 x5 x6 M) d := by
  intro d
  induction d with
  | zero =>
    intro x1 x2 x3 x4 x5 x6 M res _ _ h
    exact absurd (show (none : Option (Mem)) = some res from h) (by simp)
  | succ d ih =>
    intro x1 x2 x3 x4 x5 x6 M res hM ha hF
    exact c_X12_seekb l G hK  ih hM ha hF
set_option maxRecDepth 100000 in
set_option maxHeartbeats 4000000 in
theorem c_X12_findOrder (l : Launch) (G : Gx) {K : Kx} (hK : K = kR) {x1 : Int} {x2 : Int} {M : Mem} {res : Int × Mem} (hM : OkM M) (ha : okS [aR 0, aI x1, aI x2]) (hF : rM_findOrder x1 x2 M = some res) : Ct l G K yX12_findOrder (wsM yX12_findOrder cX12_findOrder 3 (some .int)) rmX12_findOrder [aR 0, aI x1, aI x2] M (some (aI res.1)) res.2 := by
  refine ct_of RX12 (by decide +kernel) rfl (hK ▸ kR_ok) hM ha (Nat.le_of_ble_eq_true rfl) hF ?_
  intro X C hl hG hX0 hN hR hq
  have hX : xK X = kR := hX0.trans hK
  show Im X 0 0 0 [(0, aR 0), (1, aI x1), (2, aI x2)] [] M res (rM_findOrder x1 x2 M)
  unfold rM_findOrder
  have hRm : ∀ {rm : Room} {ny : Nat}, RmOk rmX12_findOrder rm ny → RmOk (xR X) rm ny := fun h => by rw [hR]; exact h
  refine i_aload_n C dX12_findOrder_0 rfl (q := 0) rfl ?_
  refine i_iconst C dX12_findOrder_1 kI_m1 ?_
  refine i_putI C (k := 32) kX12 dX12_findOrder_2 (shR_0 hX) rfl (by decide) fl_X12_408 rfl rfl rfl rfl (fun M1 => ?_)
  refine i_aload_n C dX12_findOrder_5 rfl (q := 0) rfl ?_
  refine i_iload_n C dX12_findOrder_6 rfl (q := 2) rfl ?_
  refine i_putI C (k := 33) kX12 dX12_findOrder_7 (shR_0 hX) rfl (by decide) fl_X12_415 rfl rfl rfl rfl (fun M2 => ?_)
  refine i_aload_n C dX12_findOrder_10 rfl (q := 0) rfl ?_
  refine i_iconst C dX12_findOrder_11 kI_0 ?_
  refine i_putI C (k := 34) kX12 dX12_findOrder_12 (shR_0 hX) rfl (by decide) fl_X12_411 rfl (by decide) (by decide) rfl (fun M3 => ?_)
  refine i_aload_n C dX12_findOrder_15 rfl (q := 0) rfl ?_
  refine i_iload_n C dX12_findOrder_16 rfl (q := 1) rfl ?_
  refine i_iconst C dX12_findOrder_17 kI_0 ?_
  refine i_iconst C dX12_findOrder_18 kI_0 ?_
  refine i_iconst C dX12_findOrder_19 kI_0 ?_
  refine i_iconst C dX12_findOrder_20 kI_0 ?_
  refine i_iconst C dX12_findOrder_21 kI_0 ?_
  refine i_cV (kc' := 0) (ks' := 0) 0 0 7 (fun q hq hM hS => crV C (as := [aI x1, aI 0, aI 0, aI 0, aI 0, aI 0]) dX12_findOrder_22.1 kX12 (shR_0 hX) ml_X12_418 cal_X12_seek cv_X12_seek (hRm ⟨Nat.le_of_ble_eq_true rfl, Nat.le_of_ble_eq_true rfl⟩) rfl (Nat.le_of_ble_eq_true rfl) (c_X12_seek (xl X) (xG X) hX 9 _ _ _ _ _ _ _ _ hM ⟨hS.2.2.2.2.2.2.1, hS.2.2.2.2.2.1, hS.2.2.2.2.1, hS.2.2.2.1, hS.2.2.1, hS.2.1, hS.1, trivial⟩ hq)) (Nat.le_of_ble_eq_true rfl) (Nat.le_of_ble_eq_true rfl) rfl rfl rfl (fun M4 => ?_)
  refine i_aload_n C dX12_findOrder_25 rfl (q := 0) rfl ?_
  refine i_getI C (k := 34) kX12 dX12_findOrder_26 (shR_0 hX) rfl (by decide) fl_X12_411 rfl ?_
  refine i_if_eq (tgt := 38) C dX12_findOrder_29 (by decide) ?_ ?_
  · refine i_aload_n C dX12_findOrder_38 rfl (q := 0) rfl ?_
    refine i_getI C (k := 32) kX12 dX12_findOrder_39 (shR_0 hX) rfl (by decide) fl_X12_408 rfl ?_
    refine i_if_ge (tgt := 50) C dX12_findOrder_42 (by decide) ?_ ?_
    · refine i_aload_n C dX12_findOrder_50 rfl (q := 0) rfl ?_
      refine i_getI C (k := 32) kX12 dX12_findOrder_51 (shR_0 hX) rfl (by decide) fl_X12_408 rfl ?_
      exact i_iret C hq dX12_findOrder_54
    · refine i_ldc C dX12_findOrder_45 kc_X12_132 kI_m1000000002 ?_
      refine i_goto (tgt := 54) C dX12_findOrder_47 (by decide) ?_
      exact i_iret C hq dX12_findOrder_54
  · refine i_ldc_w C dX12_findOrder_32 kc_X12_422 kI_m1000000004 ?_
    refine i_goto (tgt := 54) C dX12_findOrder_35 (by decide) ?_
    exact i_iret C hq dX12_findOrder_54
set_option maxRecDepth 100000 in
set_option maxHeartbeats 4000000 in
theorem c_X12_plan (l : Launch) (G : Gx) {K : Kx} (hK : K = kR) {x1 : Int} {x2 : Int} {M : Mem} {res : Int × Mem} (hM : OkM M) (ha : okS [aR 0, aI x1, aI x2]) (hF : rM_plan x1 x2 M = some res) : Ct l G K yX12_plan (wsM yX12_plan cX12_plan 3 (some .int)) rmX12_plan [aR 0, aI x1, aI x2] M (some (aI res.1)) res.2 := by
  refine ct_of RX12 (by decide +kernel) rfl (hK ▸ kR_ok) hM ha (Nat.le_of_ble_eq_true rfl) hF ?_
  intro X C hl hG hX0 hN hR hq
  have hX : xK X = kR := hX0.trans hK
  show Im X 0 0 0 [(0, aR 0), (1, aI x1), (2, aI x2)] [] M res (rM_plan x1 x2 M)
  unfold rM_plan
  have hRm : ∀ {rm : Room} {ny : Nat}, RmOk rmX12_plan rm ny → RmOk (xR X) rm ny := fun h => by rw [hR]; exact h
  refine i_iload_n C dX12_plan_0 rfl (q := 1) rfl ?_
  refine i_i2l C dX12_plan_1 ?_
  refine i_lconst C dX12_plan_2 kL_1 ?_
  refine i_ldc2 C dX12_plan_3 k2_X12_107 kJ_999 ?_
  refine i_cI (kc' := 0) (ks' := 0) 0 0 3 (fun q hq hM hS => crS C (as := [aL x1, aL 1, aL 999]) dX12_plan_6.1 ml_X12_78 cal_X12_isIn st_X12_isIn (hRm ⟨Nat.le_of_ble_eq_true rfl, Nat.le_of_ble_eq_true rfl⟩) rfl (Nat.le_of_ble_eq_true rfl) (c_X12_isIn (xl X) (xG X) hX hM ⟨hS.2.2.1, hS.2.1, hS.1, trivial⟩ hq)) (Nat.le_of_ble_eq_true rfl) (Nat.le_of_ble_eq_true rfl) rfl rfl rfl (fun v2 M1 => ?_)
  refine i_if_eq (tgt := 33) C dX12_plan_9 (by decide) ?_ ?_
  · refine i_ldc C dX12_plan_33 kc_X12_102 kI_m1000000001 ?_
    exact i_iret C hq dX12_plan_35
  · refine i_iload_n C dX12_plan_12 rfl (q := 2) rfl ?_
    refine i_i2l C dX12_plan_13 ?_
    refine i_lconst C dX12_plan_14 kL_1 ?_
    refine i_ldc2 C dX12_plan_15 k2_X12_423 kJ_20000 ?_
    refine i_cI (kc' := 0) (ks' := 0) 0 0 3 (fun q hq hM hS => crS C (as := [aL x2, aL 1, aL 20000]) dX12_plan_18.1 ml_X12_78 cal_X12_isIn st_X12_isIn (hRm ⟨Nat.le_of_ble_eq_true rfl, Nat.le_of_ble_eq_true rfl⟩) rfl (Nat.le_of_ble_eq_true rfl) (c_X12_isIn (xl X) (xG X) hX hM ⟨hS.2.2.1, hS.2.1, hS.1, trivial⟩ hq)) (Nat.le_of_ble_eq_true rfl) (Nat.le_of_ble_eq_true rfl) rfl rfl rfl (fun v4 M3 => ?_)
    refine i_if_eq (tgt := 33) C dX12_plan_21 (by decide) ?_ ?_
    · refine i_ldc C dX12_plan_33 kc_X12_102 kI_m1000000001 ?_
      exact i_iret C hq dX12_plan_35
    · refine i_aload_n C dX12_plan_24 rfl (q := 0) rfl ?_
      refine i_iload_n C dX12_plan_25 rfl (q := 1) rfl ?_
      refine i_iload_n C dX12_plan_26 rfl (q := 2) rfl ?_
      refine i_cI (kc' := 0) (ks' := 0) 0 0 3 (fun q hq hM hS => crV C (as := [aI x1, aI x2]) dX12_plan_27.1 kX12 (shR_0 hX) ml_X12_425 cal_X12_findOrder cv_X12_findOrder (hRm ⟨Nat.le_of_ble_eq_true rfl, Nat.le_of_ble_eq_true rfl⟩) rfl (Nat.le_of_ble_eq_true rfl) (c_X12_findOrder (xl X) (xG X) hX hM ⟨hS.2.2.1, hS.2.1, hS.1, trivial⟩ hq)) (Nat.le_of_ble_eq_true rfl) (Nat.le_of_ble_eq_true rfl) rfl rfl rfl (fun v6 M5 => ?_)
      refine i_goto (tgt := 35) C dX12_plan_30 (by decide) ?_
      exact i_iret C hq dX12_plan_35
set_option maxRecDepth 100000 in
set_option maxHeartbeats 4000000 in
theorem c_X12_planned (l : Launch) (G : Gx) {K : Kx} (hK : K = kR) {x1 : Int} {x2 : Int} {M : Mem} {res : Int × Mem} (hM : OkM M) (ha : okS [aR 0, aI x1, aI x2]) (hF : rM_planned x1 x2 M = some res) : Ct l G K yX12_planned (wsM yX12_planned cX12_planned 4 (some .int)) rmX12_planned [aR 0, aI x1, aI x2] M (some (aI res.1)) res.2 := by
  refine ct_of RX12 (by decide +kernel) rfl (hK ▸ kR_ok) hM ha (Nat.le_of_ble_eq_true rfl) hF ?_
  intro X C hl hG hX0 hN hR hq
  have hX : xK X = kR := hX0.trans hK
  show Im X 0 0 0 [(0, aR 0), (1, aI x1), (2, aI x2)] [] M res (rM_planned x1 x2 M)
  unfold rM_planned
  have hl3 : 3 < xn X := by rw [hN]; decide
  have hRm : ∀ {rm : Room} {ny : Nat}, RmOk rmX12_planned rm ny → RmOk (xR X) rm ny := fun h => by rw [hR]; exact h
  refine i_iload_n C dX12_planned_0 rfl (q := 1) rfl ?_
  refine i_i2l C dX12_planned_1 ?_
  refine i_lconst C dX12_planned_2 kL_1 ?_
  refine i_ldc2 C dX12_planned_3 k2_X12_107 kJ_999 ?_
  refine i_cI (kc' := 0) (ks' := 0) 0 0 3 (fun q hq hM hS => crS C (as := [aL x1, aL 1, aL 999]) dX12_planned_6.1 ml_X12_78 cal_X12_isIn st_X12_isIn (hRm ⟨Nat.le_of_ble_eq_true rfl, Nat.le_of_ble_eq_true rfl⟩) rfl (Nat.le_of_ble_eq_true rfl) (c_X12_isIn (xl X) (xG X) hX hM ⟨hS.2.2.1, hS.2.1, hS.1, trivial⟩ hq)) (Nat.le_of_ble_eq_true rfl) (Nat.le_of_ble_eq_true rfl) rfl rfl rfl (fun v2 M1 => ?_)
  refine i_if_eq (tgt := 16) C dX12_planned_9 (by decide) ?_ ?_
  · refine i_ldc C dX12_planned_16 kc_X12_102 kI_m1000000001 ?_
    exact i_iret C hq dX12_planned_18
  · refine i_iload_n C dX12_planned_12 rfl (q := 2) rfl ?_
    refine i_if_ge (tgt := 19) C dX12_planned_13 (by decide) ?_ ?_
    · refine i_aload_n C dX12_planned_19 rfl (q := 0) rfl ?_
      refine i_iload_n C dX12_planned_20 rfl (q := 1) rfl ?_
      refine i_sipush C dX12_planned_21 kS_20000 ?_
      refine i_cI (kc' := 0) (ks' := 0) 0 0 3 (fun q hq hM hS => crV C (as := [aI x1, aI 20000]) dX12_planned_24.1 kX12 (shR_0 hX) ml_X12_425 cal_X12_findOrder cv_X12_findOrder (hRm ⟨Nat.le_of_ble_eq_true rfl, Nat.le_of_ble_eq_true rfl⟩) rfl (Nat.le_of_ble_eq_true rfl) (c_X12_findOrder (xl X) (xG X) hX hM ⟨hS.2.2.1, hS.2.1, hS.1, trivial⟩ hq)) (Nat.le_of_ble_eq_true rfl) (Nat.le_of_ble_eq_true rfl) rfl rfl rfl (fun v4 M3 => ?_)
      refine i_istore_n C dX12_planned_27 rfl hl3 (L' := [(0, aR 0), (1, aI x1), (2, aI x2), (3, aI v4)]) rfl ?_
      refine i_iload_n C dX12_planned_28 rfl (q := 3) rfl ?_
      refine i_if_ge (tgt := 36) C dX12_planned_29 (by decide) ?_ ?_
      · refine i_iload_n C dX12_planned_36 rfl (q := 2) rfl ?_
        refine i_iload_n C dX12_planned_37 rfl (q := 3) rfl ?_
        refine i_icmp_ge (tgt := 50) C dX12_planned_38 (by decide) ?_ ?_
        · refine i_ldc C dX12_planned_50 kc_X12_77 kI_m1000000005 ?_
          exact i_iret C hq dX12_planned_52
        · refine i_aload_n C dX12_planned_41 rfl (q := 0) rfl ?_
          refine i_getR C (k := 31) kX12 dX12_planned_42 (shR_0 hX) rfl (by decide) fl_X12_68 ?_
          refine i_iload_n C dX12_planned_45 rfl (q := 2) rfl ?_
          refine i_ald C dX12_planned_46 (shR_19 hX) (fun v5 => ?_)
          refine i_goto (tgt := 52) C dX12_planned_47 (by decide) ?_
          exact i_iret C hq dX12_planned_52
      · refine i_iload_n C dX12_planned_32 rfl (q := 3) rfl ?_
        refine i_goto (tgt := 52) C dX12_planned_33 (by decide) ?_
        exact i_iret C hq dX12_planned_52
    · refine i_ldc C dX12_planned_16 kc_X12_102 kI_m1000000001 ?_
      exact i_iret C hq dX12_planned_18
set_option maxRecDepth 100000 in
set_option maxHeartbeats 4000000 in
theorem c_X12_tell (l : Launch) (G : Gx) {K : Kx} (hK : K = kR) {x1 : Int} {M : Mem} {res : Int × Mem} (hM : OkM M) (ha : okS [aR 0, aI x1]) (hF : rM_tell x1 M = some res) : Ct l G K yX12_tell (wsM yX12_tell cX12_tell 2 (some .int)) rmX12_tell [aR 0, aI x1] M (some (aI res.1)) res.2 := by
  refine ct_of RX12 (by decide +kernel) rfl (hK ▸ kR_ok) hM ha (Nat.le_of_ble_eq_true rfl) hF ?_
  intro X C hl hG hX0 hN hR hq
  have hX : xK X = kR := hX0.trans hK
  show Im X 0 0 0 [(0, aR 0), (1, aI x1)] [] M res (rM_tell x1 M)
  unfold rM_tell
  refine i_aload_n C dX12_tell_0 rfl (q := 0) rfl ?_
  refine i_getI C (k := 36) kX12 dX12_tell_1 (shR_0 hX) rfl (by decide) fl_X12_428 rfl ?_
  refine i_bipush C dX12_tell_4 kB_60 ?_
  refine i_icmp_ne (tgt := 12) C dX12_tell_6 (by decide) ?_ ?_
  · refine i_aload_n C dX12_tell_12 rfl (q := 0) rfl ?_
    refine i_getR C (k := 35) kX12 dX12_tell_13 (shR_0 hX) rfl (by decide) fl_X12_71 ?_
    refine i_aload_n C dX12_tell_16 rfl (q := 0) rfl ?_
    refine i_getI C (k := 36) kX12 dX12_tell_17 (shR_0 hX) rfl (by decide) fl_X12_428 rfl ?_
    refine i_iload_n C dX12_tell_20 rfl (q := 1) rfl ?_
    refine i_ast C dX12_tell_21 (shR_20 hX) (fun M1 => ?_)
    refine i_aload_n C dX12_tell_22 rfl (q := 0) rfl ?_
    refine i_dup C dX12_tell_23 rfl ?_
    refine i_getI C (k := 36) kX12 dX12_tell_24 (shR_0 hX) rfl (by decide) fl_X12_428 rfl ?_
    refine i_iconst C dX12_tell_27 kI_1 ?_
    refine i_iadd C dX12_tell_28 ?_
    refine i_putI C (k := 36) kX12 dX12_tell_29 (shR_0 hX) rfl (by decide) fl_X12_428 rfl rfl rfl rfl (fun M2 => ?_)
    refine i_aload_n C dX12_tell_32 rfl (q := 0) rfl ?_
    refine i_getI C (k := 36) kX12 dX12_tell_33 (shR_0 hX) rfl (by decide) fl_X12_428 rfl ?_
    exact i_iret C hq dX12_tell_36
  · refine i_ldc C dX12_tell_9 kc_X12_103 kI_m1000000003 ?_
    exact i_iret C hq dX12_tell_11
set_option maxRecDepth 100000 in
set_option maxHeartbeats 4000000 in
theorem c_X12_dueIs (l : Launch) (G : Gx) {K : Kx} (hK : K = kR) {x1 : Int} {x2 : Int} {M : Mem} {res : Mem} (hM : OkM M) (ha : okS [aR 0, aI x1, aI x2]) (hF : rM_dueIs x1 x2 M = some res) : Ct l G K yX12_dueIs (wsM yX12_dueIs cX12_dueIs 3 none) rmX12_dueIs [aR 0, aI x1, aI x2] M none res := by
  refine ct_of RX12 (by decide +kernel) rfl (hK ▸ kR_ok) hM ha (Nat.le_of_ble_eq_true rfl) hF ?_
  intro X C hl hG hX0 hN hR hq
  have hX : xK X = kR := hX0.trans hK
  show Im X 0 0 0 [(0, aR 0), (1, aI x1), (2, aI x2)] [] M res (rM_dueIs x1 x2 M)
  unfold rM_dueIs
  refine i_aload_n C dX12_dueIs_0 rfl (q := 0) rfl ?_
  refine i_getR C (k := 37) kX12 dX12_dueIs_1 (shR_0 hX) rfl (by decide) fl_X12_74 ?_
  refine i_aload_n C dX12_dueIs_4 rfl (q := 0) rfl ?_
  refine i_getI C (k := 38) kX12 dX12_dueIs_5 (shR_0 hX) rfl (by decide) fl_X12_431 rfl ?_
  refine i_iload_n C dX12_dueIs_8 rfl (q := 1) rfl ?_
  refine i_ast C dX12_dueIs_9 (shR_21 hX) (fun M1 => ?_)
  refine i_aload_n C dX12_dueIs_10 rfl (q := 0) rfl ?_
  refine i_getR C (k := 37) kX12 dX12_dueIs_11 (shR_0 hX) rfl (by decide) fl_X12_74 ?_
  refine i_aload_n C dX12_dueIs_14 rfl (q := 0) rfl ?_
  refine i_getI C (k := 38) kX12 dX12_dueIs_15 (shR_0 hX) rfl (by decide) fl_X12_431 rfl ?_
  refine i_iconst C dX12_dueIs_18 kI_1 ?_
  refine i_iadd C dX12_dueIs_19 ?_
  refine i_iload_n C dX12_dueIs_20 rfl (q := 2) rfl ?_
  refine i_ast C dX12_dueIs_21 (shR_21 hX) (fun M2 => ?_)
  refine i_aload_n C dX12_dueIs_22 rfl (q := 0) rfl ?_
  refine i_dup C dX12_dueIs_23 rfl ?_
  refine i_getI C (k := 38) kX12 dX12_dueIs_24 (shR_0 hX) rfl (by decide) fl_X12_431 rfl ?_
  refine i_iconst C dX12_dueIs_27 kI_2 ?_
  refine i_iadd C dX12_dueIs_28 ?_
  refine i_putI C (k := 38) kX12 dX12_dueIs_29 (shR_0 hX) rfl (by decide) fl_X12_431 rfl rfl rfl rfl (fun M3 => ?_)
  exact i_vret C hq dX12_dueIs_32
set_option maxRecDepth 100000 in
set_option maxHeartbeats 4000000 in
theorem w_X12_rowsOfOrder_29 {X : Xc} (C : Cx X RX12 cX12_rowsOfOrder (some .int)) (hX : xK X = kR) (hN : xn X = 5) (hR : xR X = rmX12_rowsOfOrder) {res : Int × Mem} (hq : Rq X (some (aI res.1)) res.2) (y2 : Int) {k76 : Mem → Option (Int × Mem)} (hk76 : ∀ (M : Mem), Im X 0 0 76 [(2, aI y2)] [] M res (k76 M)) : ∀ (n : Nat) (u3 : Int) (u4 : Int) (M : Mem), Im X 0 0 29 [(0, aR 0), (2, aI y2), (3, aI u3), (4, aI u4)] [] M res (lpX12_rowsOfOrder_29 y2 k76 n u3 u4 M) := by
  have hl2 : 2 < xn X := by rw [hN]; decide
  have hl3 : 3 < xn X := by rw [hN]; decide
  have hl4 : 4 < xn X := by rw [hN]; decide
  have hRm : ∀ {rm : Room} {ny : Nat}, RmOk rmX12_rowsOfOrder rm ny → RmOk (xR X) rm ny := fun h => by rw [hR]; exact h
  intro n
  induction n with
  | zero => intro _ _ _; exact i_none
  | succ n ih =>
    intro u3 u4 M
    unfold lpX12_rowsOfOrder_29
    refine i_iload C dX12_rowsOfOrder_29 (q := 3) rfl ?_
    refine i_iload_n C dX12_rowsOfOrder_31 rfl (q := 1) rfl ?_
    refine i_icmp_ge (tgt := 76) C dX12_rowsOfOrder_32 (by decide) ?_ ?_
    · exact i_sub [1] rfl (hk76  M)
    · refine i_iload_n C dX12_rowsOfOrder_35 rfl (q := 2) rfl ?_
      refine i_aload_n C dX12_rowsOfOrder_36 rfl (q := 0) rfl ?_
      refine i_getR C (k := 0) kX12 dX12_rowsOfOrder_37 (shR_0 hX) rfl (by decide) fl_X12_7 ?_
      refine i_sipush C dX12_rowsOfOrder_40 kS_3830 ?_
      refine i_iconst C dX12_rowsOfOrder_43 kI_3 ?_
      refine i_aload_n C dX12_rowsOfOrder_44 rfl (q := 0) rfl ?_
      refine i_getR C (k := 31) kX12 dX12_rowsOfOrder_45 (shR_0 hX) rfl (by decide) fl_X12_68 ?_
      refine i_iload C dX12_rowsOfOrder_48 (q := 3) rfl ?_
      refine i_ald C dX12_rowsOfOrder_50 (shR_19 hX) (fun v5 => ?_)
      refine i_imul C dX12_rowsOfOrder_51 ?_
      refine i_iadd C dX12_rowsOfOrder_52 ?_
      refine i_iconst C dX12_rowsOfOrder_53 kI_2 ?_
      refine i_iadd C dX12_rowsOfOrder_54 ?_
      refine i_ald C dX12_rowsOfOrder_55 (shR_1 hX) (fun v6 => ?_)
      refine i_iadd C dX12_rowsOfOrder_56 ?_
      refine i_nm (fun v7 => ?_)
      refine i_istore_n C dX12_rowsOfOrder_57 rfl hl3 (L' := [(0, aR 0), (2, aI y2), (3, aI v7), (4, aI u4)]) rfl ?_
      refine i_aload_n C dX12_rowsOfOrder_58 rfl (q := 0) rfl ?_
      refine i_aload_n C dX12_rowsOfOrder_59 rfl (q := 0) rfl ?_
      refine i_getR C (k := 31) kX12 dX12_rowsOfOrder_60 (shR_0 hX) rfl (by decide) fl_X12_68 ?_
      refine i_iload C dX12_rowsOfOrder_63 (q := 3) rfl ?_
      refine i_ald C dX12_rowsOfOrder_65 (shR_19 hX) (fun v8 => ?_)
      refine i_iload_n C dX12_rowsOfOrder_66 rfl (q := 2) rfl ?_
      refine i_cV (kc' := 0) (ks' := 0) 0 0 3 (fun q hq hM hS => crV C (as := [aI v8, aI v7]) dX12_rowsOfOrder_67.1 kX12 (shR_0 hX) ml_X12_434 cal_X12_dueIs cv_X12_dueIs (hRm ⟨Nat.le_of_ble_eq_true rfl, Nat.le_of_ble_eq_true rfl⟩) rfl (Nat.le_of_ble_eq_true rfl) (c_X12_dueIs (xl X) (xG X) hX hM ⟨hS.2.2.1, hS.2.1, hS.1, trivial⟩ hq)) (Nat.le_of_ble_eq_true rfl) (Nat.le_of_ble_eq_true rfl) rfl rfl rfl (fun M9 => ?_)
      refine i_iincN (L' := fun v10 => [(0, aR 0), (2, aI y2), (3, aI v7), (4, aI v10)]) C dX12_rowsOfOrder_70 (q := 3) rfl hl4 (fun _ => rfl) (fun v10 => ?_)
      refine i_goto (tgt := 29) C dX12_rowsOfOrder_73 (by decide) ?_
      exact (ih v7 v10 M9)
set_option maxRecDepth 100000 in
set_option maxHeartbeats 4000000 in
theorem c_X12_rowsOfOrder (l : Launch) (G : Gx) {K : Kx} (hK : K = kR) {x1 : Int} {M : Mem} {res : Int × Mem} (hM : OkM M) (ha : okS [aR 0, aI x1]) (hF : rM_rowsOfOrder x1 M = some res) : Ct l G K yX12_rowsOfOrder (wsM yX12_rowsOfOrder cX12_rowsOfOrder 5 (some .int)) rmX12_rowsOfOrder [aR 0, aI x1] M (some (aI res.1)) res.2 := by
  refine ct_of RX12 (by decide +kernel) rfl (hK ▸ kR_ok) hM ha (Nat.le_of_ble_eq_true rfl) hF ?_
  intro X C hl hG hX0 hN hR hq
  have hX : xK X = kR := hX0.trans hK
  show Im X 0 0 0 [(0, aR 0), (1, aI x1)] [] M res (rM_rowsOfOrder x1 M)
  unfold rM_rowsOfOrder
  have hl2 : 2 < xn X := by rw [hN]; decide
  have hl3 : 3 < xn X := by rw [hN]; decide
  have hl4 : 4 < xn X := by rw [hN]; decide
  have hRm : ∀ {rm : Room} {ny : Nat}, RmOk rmX12_rowsOfOrder rm ny → RmOk (xR X) rm ny := fun h => by rw [hR]; exact h
  refine i_iload_n C dX12_rowsOfOrder_0 rfl (q := 1) rfl ?_
  refine i_i2l C dX12_rowsOfOrder_1 ?_
  refine i_lconst C dX12_rowsOfOrder_2 kL_1 ?_
  refine i_ldc2 C dX12_rowsOfOrder_3 k2_X12_107 kJ_999 ?_
  refine i_cI (kc' := 0) (ks' := 0) 0 0 3 (fun q hq hM hS => crS C (as := [aL x1, aL 1, aL 999]) dX12_rowsOfOrder_6.1 ml_X12_78 cal_X12_isIn st_X12_isIn (hRm ⟨Nat.le_of_ble_eq_true rfl, Nat.le_of_ble_eq_true rfl⟩) rfl (Nat.le_of_ble_eq_true rfl) (c_X12_isIn (xl X) (xG X) hX hM ⟨hS.2.2.1, hS.2.1, hS.1, trivial⟩ hq)) (Nat.le_of_ble_eq_true rfl) (Nat.le_of_ble_eq_true rfl) rfl rfl rfl (fun v2 M1 => ?_)
  refine i_if_ne (tgt := 15) C dX12_rowsOfOrder_9 (by decide) ?_ ?_
  · refine i_aload_n C dX12_rowsOfOrder_15 rfl (q := 0) rfl ?_
    refine i_iload_n C dX12_rowsOfOrder_16 rfl (q := 1) rfl ?_
    refine i_sipush C dX12_rowsOfOrder_17 kS_20000 ?_
    refine i_cI (kc' := 0) (ks' := 0) 0 0 3 (fun q hq hM hS => crV C (as := [aI x1, aI 20000]) dX12_rowsOfOrder_20.1 kX12 (shR_0 hX) ml_X12_425 cal_X12_findOrder cv_X12_findOrder (hRm ⟨Nat.le_of_ble_eq_true rfl, Nat.le_of_ble_eq_true rfl⟩) rfl (Nat.le_of_ble_eq_true rfl) (c_X12_findOrder (xl X) (xG X) hX hM ⟨hS.2.2.1, hS.2.1, hS.1, trivial⟩ hq)) (Nat.le_of_ble_eq_true rfl) (Nat.le_of_ble_eq_true rfl) rfl rfl rfl (fun v4 M3 => ?_)
    refine i_istore_n C dX12_rowsOfOrder_23 rfl hl2 (L' := [(0, aR 0), (1, aI x1), (2, aI v4)]) rfl ?_
    refine i_iconst C dX12_rowsOfOrder_24 kI_0 ?_
    refine i_istore_n C dX12_rowsOfOrder_25 rfl hl3 (L' := [(0, aR 0), (1, aI x1), (2, aI v4), (3, aI 0)]) rfl ?_
    refine i_iconst C dX12_rowsOfOrder_26 kI_0 ?_
    refine i_istore C dX12_rowsOfOrder_27 hl4 (L' := [(0, aR 0), (1, aI x1), (2, aI v4), (3, aI 0), (4, aI 0)]) rfl ?_
    refine i_sub [0, 2, 3, 4] rfl (w_X12_rowsOfOrder_29 C hX hN hR hq v4 (fun M11 => ?_) FU 0 0 M3)
    refine i_iload_n C dX12_rowsOfOrder_76 rfl (q := 0) rfl ?_
    refine i_if_ge (tgt := 84) C dX12_rowsOfOrder_77 (by decide) ?_ ?_
    · refine i_iconst C dX12_rowsOfOrder_84 kI_0 ?_
      exact i_iret C hq dX12_rowsOfOrder_85
    · refine i_iload_n C dX12_rowsOfOrder_80 rfl (q := 0) rfl ?_
      refine i_goto (tgt := 85) C dX12_rowsOfOrder_81 (by decide) ?_
      exact i_iret C hq dX12_rowsOfOrder_85
  · refine i_ldc C dX12_rowsOfOrder_12 kc_X12_102 kI_m1000000001 ?_
    exact i_iret C hq dX12_rowsOfOrder_14
set_option maxRecDepth 100000 in
set_option maxHeartbeats 4000000 in
theorem w_X12_waiters_4 {X : Xc} (C : Cx X RX12 cX12_waiters (some .int)) (hX : xK X = kR) (hN : xn X = 3) (hR : xR X = rmX12_waiters) {res : Int × Mem} (hq : Rq X (some (aI res.1)) res.2) : ∀ (n : Nat) (u1 : Int) (u2 : Int) (M : Mem), Im X 0 0 4 [(0, aR 0), (1, aI u1), (2, aI u2)] [] M res (lpX12_waiters_4 n u1 u2 M) := by
  have hl1 : 1 < xn X := by rw [hN]; decide
  have hl2 : 2 < xn X := by rw [hN]; decide
  have hRm : ∀ {rm : Room} {ny : Nat}, RmOk rmX12_waiters rm ny → RmOk (xR X) rm ny := fun h => by rw [hR]; exact h
  intro n
  induction n with
  | zero => intro _ _ _; exact i_none
  | succ n ih =>
    intro u1 u2 M
    unfold lpX12_waiters_4
    refine i_iload_n C dX12_waiters_4 rfl (q := 2) rfl ?_
    refine i_aload_n C dX12_waiters_5 rfl (q := 0) rfl ?_
    refine i_getR C (k := 0) kX12 dX12_waiters_6 (shR_0 hX) rfl (by decide) fl_X12_7 ?_
    refine i_iconst C dX12_waiters_9 kI_2 ?_
    refine i_ald C dX12_waiters_10 (shR_1 hX) (fun v1 => ?_)
    refine i_icmp_ge (tgt := 36) C dX12_waiters_11 (by decide) ?_ ?_
    · refine i_iload_n C dX12_waiters_36 rfl (q := 1) rfl ?_
      exact i_iret C hq dX12_waiters_37
    · refine i_iload_n C dX12_waiters_14 rfl (q := 1) rfl ?_
      refine i_aload_n C dX12_waiters_15 rfl (q := 0) rfl ?_
      refine i_iload_n C dX12_waiters_16 rfl (q := 2) rfl ?_
      refine i_cI (kc' := 0) (ks' := 0) 0 0 2 (fun q hq hM hS => crV C (as := [aI u2]) dX12_waiters_17.1 kX12 (shR_0 hX) ml_X12_133 cal_X12_waits cv_X12_waits (hRm ⟨Nat.le_of_ble_eq_true rfl, Nat.le_of_ble_eq_true rfl⟩) rfl (Nat.le_of_ble_eq_true rfl) (c_X12_waits (xl X) (xG X) hX hM ⟨hS.2.1, hS.1, trivial⟩ hq)) (Nat.le_of_ble_eq_true rfl) (Nat.le_of_ble_eq_true rfl) rfl rfl rfl (fun v3 M2 => ?_)
      refine i_jn (fun j => ∀ (p4 : Int) (M6 : Mem), Im X 0 0 28 [(0, aR 0), (2, aI u2)] [aI p4, aI u1] M6 res (j p4 M6)) ?_ (fun j5 hj5 => ?_)
      · intro p4 M6
        refine i_iadd C dX12_waiters_28 ?_
        refine i_nm (fun v7 => ?_)
        refine i_istore_n C dX12_waiters_29 rfl hl1 (L' := [(0, aR 0), (1, aI v7), (2, aI u2)]) rfl ?_
        refine i_iincN (L' := fun v8 => [(0, aR 0), (1, aI v7), (2, aI v8)]) C dX12_waiters_30 (q := 2) rfl hl2 (fun _ => rfl) (fun v8 => ?_)
        refine i_goto (tgt := 4) C dX12_waiters_33 (by decide) ?_
        exact (ih v7 v8 M6)
      refine i_if_eq (tgt := 27) C dX12_waiters_20 (by decide) ?_ ?_
      · refine i_iconst C dX12_waiters_27 kI_0 ?_
        exact i_sub [0, 2] rfl (hj5 0 M2)
      · refine i_iconst C dX12_waiters_23 kI_1 ?_
        refine i_goto (tgt := 28) C dX12_waiters_24 (by decide) ?_
        exact i_sub [0, 2] rfl (hj5 1 M2)
set_option maxRecDepth 100000 in
set_option maxHeartbeats 4000000 in
theorem c_X12_waiters (l : Launch) (G : Gx) {K : Kx} (hK : K = kR) {M : Mem} {res : Int × Mem} (hM : OkM M) (ha : okS [aR 0]) (hF : rM_waiters M = some res) : Ct l G K yX12_waiters (wsM yX12_waiters cX12_waiters 3 (some .int)) rmX12_waiters [aR 0] M (some (aI res.1)) res.2 := by
  refine ct_of RX12 (by decide +kernel) rfl (hK ▸ kR_ok) hM ha (Nat.le_of_ble_eq_true rfl) hF ?_
  intro X C hl hG hX0 hN hR hq
  have hX : xK X = kR := hX0.trans hK
  show Im X 0 0 0 [(0, aR 0)] [] M res (rM_waiters  M)
  unfold rM_waiters
  have hl1 : 1 < xn X := by rw [hN]; decide
  have hl2 : 2 < xn X := by rw [hN]; decide
  have hRm : ∀ {rm : Room} {ny : Nat}, RmOk rmX12_waiters rm ny → RmOk (xR X) rm ny := fun h => by rw [hR]; exact h
  refine i_iconst C dX12_waiters_0 kI_0 ?_
  refine i_istore_n C dX12_waiters_1 rfl hl1 (L' := [(0, aR 0), (1, aI 0)]) rfl ?_
  refine i_iconst C dX12_waiters_2 kI_0 ?_
  refine i_istore_n C dX12_waiters_3 rfl hl2 (L' := [(0, aR 0), (1, aI 0), (2, aI 0)]) rfl ?_
  exact (w_X12_waiters_4 C hX hN hR hq FU 0 0 M)
set_option maxRecDepth 100000 in
set_option maxHeartbeats 4000000 in
theorem w_X12_away_4 {X : Xc} (C : Cx X RX12 cX12_away (some .int)) (hX : xK X = kR) (hN : xn X = 3) (hR : xR X = rmX12_away) {res : Int × Mem} (hq : Rq X (some (aI res.1)) res.2) : ∀ (n : Nat) (u1 : Int) (u2 : Int) (M : Mem), Im X 0 0 4 [(0, aR 0), (1, aI u1), (2, aI u2)] [] M res (lpX12_away_4 n u1 u2 M) := by
  have hl1 : 1 < xn X := by rw [hN]; decide
  have hl2 : 2 < xn X := by rw [hN]; decide
  have hRm : ∀ {rm : Room} {ny : Nat}, RmOk rmX12_away rm ny → RmOk (xR X) rm ny := fun h => by rw [hR]; exact h
  intro n
  induction n with
  | zero => intro _ _ _; exact i_none
  | succ n ih =>
    intro u1 u2 M
    unfold lpX12_away_4
    refine i_iload_n C dX12_away_4 rfl (q := 2) rfl ?_
    refine i_aload_n C dX12_away_5 rfl (q := 0) rfl ?_
    refine i_getR C (k := 0) kX12 dX12_away_6 (shR_0 hX) rfl (by decide) fl_X12_7 ?_
    refine i_iconst C dX12_away_9 kI_2 ?_
    refine i_ald C dX12_away_10 (shR_1 hX) (fun v1 => ?_)
    refine i_icmp_ge (tgt := 67) C dX12_away_11 (by decide) ?_ ?_
    · refine i_iload_n C dX12_away_67 rfl (q := 1) rfl ?_
      exact i_iret C hq dX12_away_68
    · refine i_iload_n C dX12_away_14 rfl (q := 1) rfl ?_
      refine i_aload_n C dX12_away_15 rfl (q := 0) rfl ?_
      refine i_getR C (k := 0) kX12 dX12_away_16 (shR_0 hX) rfl (by decide) fl_X12_7 ?_
      refine i_aload_n C dX12_away_19 rfl (q := 0) rfl ?_
      refine i_iload_n C dX12_away_20 rfl (q := 2) rfl ?_
      refine i_cI (kc' := 0) (ks' := 0) 0 0 2 (fun q hq hM hS => crV C (as := [aI u2]) dX12_away_21.1 kX12 (shR_0 hX) ml_X12_93 cal_X12_personAt cv_X12_personAt (hRm ⟨Nat.le_of_ble_eq_true rfl, Nat.le_of_ble_eq_true rfl⟩) rfl (Nat.le_of_ble_eq_true rfl) (c_X12_personAt (xl X) (xG X) hX hM ⟨hS.2.1, hS.1, trivial⟩ hq)) (Nat.le_of_ble_eq_true rfl) (Nat.le_of_ble_eq_true rfl) rfl rfl rfl (fun v3 M2 => ?_)
      refine i_iconst C dX12_away_24 kI_3 ?_
      refine i_iadd C dX12_away_25 ?_
      refine i_ald C dX12_away_26 (shR_1 hX) (fun v4 => ?_)
      refine i_jn (fun j => ∀ (p5 : Int) (M7 : Mem), Im X 0 0 59 [(0, aR 0), (2, aI u2)] [aI p5, aI u1] M7 res (j p5 M7)) ?_ (fun j6 hj6 => ?_)
      · intro p5 M7
        refine i_iadd C dX12_away_59 ?_
        refine i_nm (fun v8 => ?_)
        refine i_istore_n C dX12_away_60 rfl hl1 (L' := [(0, aR 0), (1, aI v8), (2, aI u2)]) rfl ?_
        refine i_iincN (L' := fun v9 => [(0, aR 0), (1, aI v8), (2, aI v9)]) C dX12_away_61 (q := 2) rfl hl2 (fun _ => rfl) (fun v9 => ?_)
        refine i_goto (tgt := 4) C dX12_away_64 (by decide) ?_
        exact (ih v8 v9 M7)
      refine i_jn (fun j => ∀  (M11 : Mem), Im X 0 0 58 [(0, aR 0), (2, aI u2)] [aI u1] M11 res (j  M11)) ?_ (fun j10 hj10 => ?_)
      · intro  M11
        refine i_iconst C dX12_away_58 kI_0 ?_
        exact (hj6 0 M11)
      refine i_if_lt (tgt := 58) C dX12_away_27 (by decide) ?_ ?_
      · exact i_sub [0, 2] rfl (hj10  M2)
      · refine i_aload_n C dX12_away_30 rfl (q := 0) rfl ?_
        refine i_aload_n C dX12_away_31 rfl (q := 0) rfl ?_
        refine i_getR C (k := 0) kX12 dX12_away_32 (shR_0 hX) rfl (by decide) fl_X12_7 ?_
        refine i_aload_n C dX12_away_35 rfl (q := 0) rfl ?_
        refine i_iload_n C dX12_away_36 rfl (q := 2) rfl ?_
        refine i_cI (kc' := 0) (ks' := 0) 0 0 2 (fun q hq hM hS => crV C (as := [aI u2]) dX12_away_37.1 kX12 (shR_0 hX) ml_X12_93 cal_X12_personAt cv_X12_personAt (hRm ⟨Nat.le_of_ble_eq_true rfl, Nat.le_of_ble_eq_true rfl⟩) rfl (Nat.le_of_ble_eq_true rfl) (c_X12_personAt (xl X) (xG X) hX hM ⟨hS.2.1, hS.1, trivial⟩ hq)) (Nat.le_of_ble_eq_true rfl) (Nat.le_of_ble_eq_true rfl) rfl rfl rfl (fun v13 M12 => ?_)
        refine i_iconst C dX12_away_40 kI_3 ?_
        refine i_iadd C dX12_away_41 ?_
        refine i_ald C dX12_away_42 (shR_1 hX) (fun v14 => ?_)
        refine i_cI (kc' := 0) (ks' := 0) 0 0 2 (fun q hq hM hS => crV C (as := [aI v14]) dX12_away_43.1 kX12 (shR_0 hX) ml_X12_96 cal_X12_sideOf cv_X12_sideOf (hRm ⟨Nat.le_of_ble_eq_true rfl, Nat.le_of_ble_eq_true rfl⟩) rfl (Nat.le_of_ble_eq_true rfl) (c_X12_sideOf (xl X) (xG X) hX hM ⟨hS.2.1, hS.1, trivial⟩ hq)) (Nat.le_of_ble_eq_true rfl) (Nat.le_of_ble_eq_true rfl) rfl rfl rfl (fun v16 M15 => ?_)
        refine i_aload_n C dX12_away_46 rfl (q := 0) rfl ?_
        refine i_iload_n C dX12_away_47 rfl (q := 2) rfl ?_
        refine i_cI (kc' := 0) (ks' := 0) 0 0 2 (fun q hq hM hS => crV C (as := [aI u2]) dX12_away_48.1 kX12 (shR_0 hX) ml_X12_135 cal_X12_ownSide cv_X12_ownSide (hRm ⟨Nat.le_of_ble_eq_true rfl, Nat.le_of_ble_eq_true rfl⟩) rfl (Nat.le_of_ble_eq_true rfl) (c_X12_ownSide (xl X) (xG X) hX hM ⟨hS.2.1, hS.1, trivial⟩ hq)) (Nat.le_of_ble_eq_true rfl) (Nat.le_of_ble_eq_true rfl) rfl rfl rfl (fun v18 M17 => ?_)
        refine i_icmp_eq (tgt := 58) C dX12_away_51 (by decide) ?_ ?_
        · exact i_sub [0, 2] rfl (hj10  M17)
        · refine i_iconst C dX12_away_54 kI_1 ?_
          refine i_goto (tgt := 59) C dX12_away_55 (by decide) ?_
          exact i_sub [0, 2] rfl (hj6 1 M17)
set_option maxRecDepth 100000 in
set_option maxHeartbeats 4000000 in
theorem c_X12_away (l : Launch) (G : Gx) {K : Kx} (hK : K = kR) {M : Mem} {res : Int × Mem} (hM : OkM M) (ha : okS [aR 0]) (hF : rM_away M = some res) : Ct l G K yX12_away (wsM yX12_away cX12_away 3 (some .int)) rmX12_away [aR 0] M (some (aI res.1)) res.2 := by
  refine ct_of RX12 (by decide +kernel) rfl (hK ▸ kR_ok) hM ha (Nat.le_of_ble_eq_true rfl) hF ?_
  intro X C hl hG hX0 hN hR hq
  have hX : xK X = kR := hX0.trans hK
  show Im X 0 0 0 [(0, aR 0)] [] M res (rM_away  M)
  unfold rM_away
  have hl1 : 1 < xn X := by rw [hN]; decide
  have hl2 : 2 < xn X := by rw [hN]; decide
  have hRm : ∀ {rm : Room} {ny : Nat}, RmOk rmX12_away rm ny → RmOk (xR X) rm ny := fun h => by rw [hR]; exact h
  refine i_iconst C dX12_away_0 kI_0 ?_
  refine i_istore_n C dX12_away_1 rfl hl1 (L' := [(0, aR 0), (1, aI 0)]) rfl ?_
  refine i_iconst C dX12_away_2 kI_0 ?_
  refine i_istore_n C dX12_away_3 rfl hl2 (L' := [(0, aR 0), (1, aI 0), (2, aI 0)]) rfl ?_
  exact (w_X12_away_4 C hX hN hR hq FU 0 0 M)
set_option maxRecDepth 100000 in
set_option maxHeartbeats 4000000 in
theorem w_X12_rowsOfDays_27 {X : Xc} (C : Cx X RX12 cX12_rowsOfDays (some .int)) (hX : xK X = kR) (hN : xn X = 3) (hR : xR X = rmX12_rowsOfDays) {res : Int × Mem} (hq : Rq X (some (aI res.1)) res.2) (y1 : Int) {k64 : Mem → Option (Int × Mem)} (hk64 : ∀ (M : Mem), Im X 0 0 64 [(0, aR 0), (1, aI y1)] [] M res (k64 M)) : ∀ (n : Nat) (u2 : Int) (M : Mem), Im X 0 0 27 [(0, aR 0), (1, aI y1), (2, aI u2)] [] M res (lpX12_rowsOfDays_27 y1 k64 n u2 M) := by
  have hl2 : 2 < xn X := by rw [hN]; decide
  have hRm : ∀ {rm : Room} {ny : Nat}, RmOk rmX12_rowsOfDays rm ny → RmOk (xR X) rm ny := fun h => by rw [hR]; exact h
  intro n
  induction n with
  | zero => intro _ _; exact i_none
  | succ n ih =>
    intro u2 M
    unfold lpX12_rowsOfDays_27
    refine i_iload_n C dX12_rowsOfDays_27 rfl (q := 2) rfl ?_
    refine i_sipush C dX12_rowsOfDays_28 kS_4210 ?_
    refine i_icmp_ge (tgt := 64) C dX12_rowsOfDays_31 (by decide) ?_ ?_
    · exact i_sub [0, 1] rfl (hk64  M)
    · refine i_aload_n C dX12_rowsOfDays_34 rfl (q := 0) rfl ?_
      refine i_getR C (k := 2) kX12 dX12_rowsOfDays_35 (shR_0 hX) rfl (by decide) fl_X12_16 ?_
      refine i_iload_n C dX12_rowsOfDays_38 rfl (q := 2) rfl ?_
      refine i_aload_n C dX12_rowsOfDays_39 rfl (q := 0) rfl ?_
      refine i_getR C (k := 0) kX12 dX12_rowsOfDays_40 (shR_0 hX) rfl (by decide) fl_X12_7 ?_
      refine i_iload_n C dX12_rowsOfDays_43 rfl (q := 2) rfl ?_
      refine i_ald C dX12_rowsOfDays_44 (shR_1 hX) (fun v3 => ?_)
      refine i_ast C dX12_rowsOfDays_45 (shR_3 hX) (fun M4 => ?_)
      refine i_aload_n C dX12_rowsOfDays_46 rfl (q := 0) rfl ?_
      refine i_getR C (k := 0) kX12 dX12_rowsOfDays_47 (shR_0 hX) rfl (by decide) fl_X12_7 ?_
      refine i_iload_n C dX12_rowsOfDays_50 rfl (q := 2) rfl ?_
      refine i_aload_n C dX12_rowsOfDays_51 rfl (q := 0) rfl ?_
      refine i_getR C (k := 1) kX12 dX12_rowsOfDays_52 (shR_0 hX) rfl (by decide) fl_X12_13 ?_
      refine i_iload_n C dX12_rowsOfDays_55 rfl (q := 2) rfl ?_
      refine i_ald C dX12_rowsOfDays_56 (shR_2 hX) (fun v5 => ?_)
      refine i_ast C dX12_rowsOfDays_57 (shR_1 hX) (fun M6 => ?_)
      refine i_iincN (L' := fun v7 => [(0, aR 0), (1, aI y1), (2, aI v7)]) C dX12_rowsOfDays_58 (q := 2) rfl hl2 (fun _ => rfl) (fun v7 => ?_)
      refine i_goto (tgt := 27) C dX12_rowsOfDays_61 (by decide) ?_
      exact (ih v7 M6)
set_option maxRecDepth 100000 in
set_option maxHeartbeats 4000000 in
theorem w_X12_rowsOfDays_66 {X : Xc} (C : Cx X RX12 cX12_rowsOfDays (some .int)) (hX : xK X = kR) (hN : xn X = 3) (hR : xR X = rmX12_rowsOfDays) {res : Int × Mem} (hq : Rq X (some (aI res.1)) res.2) (y1 : Int) {k93 : Mem → Option (Int × Mem)} (hk93 : ∀ (M : Mem), Im X 0 0 93 [(0, aR 0)] [] M res (k93 M)) : ∀ (n : Nat) (u2 : Int) (M : Mem), Im X 0 0 66 [(0, aR 0), (1, aI y1), (2, aI u2)] [] M res (lpX12_rowsOfDays_66 y1 k93 n u2 M) := by
  have hl2 : 2 < xn X := by rw [hN]; decide
  have hRm : ∀ {rm : Room} {ny : Nat}, RmOk rmX12_rowsOfDays rm ny → RmOk (xR X) rm ny := fun h => by rw [hR]; exact h
  intro n
  induction n with
  | zero => intro _ _; exact i_none
  | succ n ih =>
    intro u2 M
    unfold lpX12_rowsOfDays_66
    refine i_iload_n C dX12_rowsOfDays_66 rfl (q := 2) rfl ?_
    refine i_iload_n C dX12_rowsOfDays_67 rfl (q := 1) rfl ?_
    refine i_icmp_ge (tgt := 93) C dX12_rowsOfDays_68 (by decide) ?_ ?_
    · exact i_sub [0] rfl (hk93  M)
    · refine i_aload_n C dX12_rowsOfDays_71 rfl (q := 0) rfl ?_
      refine i_cV (kc' := 0) (ks' := 0) 0 0 1 (fun q hq hM hS => crV C (as := []) dX12_rowsOfDays_72.1 kX12 (shR_0 hX) ml_X12_217 cal_X12_hour cv_X12_hour (hRm ⟨Nat.le_of_ble_eq_true rfl, Nat.le_of_ble_eq_true rfl⟩) rfl (Nat.le_of_ble_eq_true rfl) (c_X12_hour (xl X) (xG X) hX hM ⟨hS.1, trivial⟩ hq)) (Nat.le_of_ble_eq_true rfl) (Nat.le_of_ble_eq_true rfl) rfl rfl rfl (fun M9 => ?_)
      refine i_aload_n C dX12_rowsOfDays_75 rfl (q := 0) rfl ?_
      refine i_aload_n C dX12_rowsOfDays_76 rfl (q := 0) rfl ?_
      refine i_cI (kc' := 0) (ks' := 0) 0 0 1 (fun q hq hM hS => crV C (as := []) dX12_rowsOfDays_77.1 kX12 (shR_0 hX) ml_X12_442 cal_X12_waiters cv_X12_waiters (hRm ⟨Nat.le_of_ble_eq_true rfl, Nat.le_of_ble_eq_true rfl⟩) rfl (Nat.le_of_ble_eq_true rfl) (c_X12_waiters (xl X) (xG X) hX hM ⟨hS.1, trivial⟩ hq)) (Nat.le_of_ble_eq_true rfl) (Nat.le_of_ble_eq_true rfl) rfl rfl rfl (fun v11 M10 => ?_)
      refine i_aload_n C dX12_rowsOfDays_80 rfl (q := 0) rfl ?_
      refine i_cI (kc' := 0) (ks' := 0) 0 0 1 (fun q hq hM hS => crV C (as := []) dX12_rowsOfDays_81.1 kX12 (shR_0 hX) ml_X12_445 cal_X12_away cv_X12_away (hRm ⟨Nat.le_of_ble_eq_true rfl, Nat.le_of_ble_eq_true rfl⟩) rfl (Nat.le_of_ble_eq_true rfl) (c_X12_away (xl X) (xG X) hX hM ⟨hS.1, trivial⟩ hq)) (Nat.le_of_ble_eq_true rfl) (Nat.le_of_ble_eq_true rfl) rfl rfl rfl (fun v13 M12 => ?_)
      refine i_cV (kc' := 0) (ks' := 0) 0 0 3 (fun q hq hM hS => crV C (as := [aI v11, aI v13]) dX12_rowsOfDays_84.1 kX12 (shR_0 hX) ml_X12_434 cal_X12_dueIs cv_X12_dueIs (hRm ⟨Nat.le_of_ble_eq_true rfl, Nat.le_of_ble_eq_true rfl⟩) rfl (Nat.le_of_ble_eq_true rfl) (c_X12_dueIs (xl X) (xG X) hX hM ⟨hS.2.2.1, hS.2.1, hS.1, trivial⟩ hq)) (Nat.le_of_ble_eq_true rfl) (Nat.le_of_ble_eq_true rfl) rfl rfl rfl (fun M14 => ?_)
      refine i_iincN (L' := fun v15 => [(0, aR 0), (1, aI y1), (2, aI v15)]) C dX12_rowsOfDays_87 (q := 2) rfl hl2 (fun _ => rfl) (fun v15 => ?_)
      refine i_goto (tgt := 66) C dX12_rowsOfDays_90 (by decide) ?_
      exact (ih v15 M14)
set_option maxRecDepth 100000 in
set_option maxHeartbeats 4000000 in
theorem w_X12_rowsOfDays_95 {X : Xc} (C : Cx X RX12 cX12_rowsOfDays (some .int)) (hX : xK X = kR) (hN : xn X = 3) (hR : xR X = rmX12_rowsOfDays) {res : Int × Mem} (hq : Rq X (some (aI res.1)) res.2) : ∀ (n : Nat) (u2 : Int) (M : Mem), Im X 0 0 95 [(0, aR 0), (2, aI u2)] [] M res (lpX12_rowsOfDays_95 n u2 M) := by
  have hl2 : 2 < xn X := by rw [hN]; decide
  have hRm : ∀ {rm : Room} {ny : Nat}, RmOk rmX12_rowsOfDays rm ny → RmOk (xR X) rm ny := fun h => by rw [hR]; exact h
  intro n
  induction n with
  | zero => intro _ _; exact i_none
  | succ n ih =>
    intro u2 M
    unfold lpX12_rowsOfDays_95
    refine i_iload_n C dX12_rowsOfDays_95 rfl (q := 1) rfl ?_
    refine i_sipush C dX12_rowsOfDays_96 kS_4210 ?_
    refine i_icmp_ge (tgt := 120) C dX12_rowsOfDays_99 (by decide) ?_ ?_
    · refine i_iconst C dX12_rowsOfDays_120 kI_0 ?_
      exact i_iret C hq dX12_rowsOfDays_121
    · refine i_aload_n C dX12_rowsOfDays_102 rfl (q := 0) rfl ?_
      refine i_getR C (k := 0) kX12 dX12_rowsOfDays_103 (shR_0 hX) rfl (by decide) fl_X12_7 ?_
      refine i_iload_n C dX12_rowsOfDays_106 rfl (q := 1) rfl ?_
      refine i_aload_n C dX12_rowsOfDays_107 rfl (q := 0) rfl ?_
      refine i_getR C (k := 2) kX12 dX12_rowsOfDays_108 (shR_0 hX) rfl (by decide) fl_X12_16 ?_
      refine i_iload_n C dX12_rowsOfDays_111 rfl (q := 1) rfl ?_
      refine i_ald C dX12_rowsOfDays_112 (shR_3 hX) (fun v17 => ?_)
      refine i_ast C dX12_rowsOfDays_113 (shR_1 hX) (fun M18 => ?_)
      refine i_iincN (L' := fun v19 => [(0, aR 0), (2, aI v19)]) C dX12_rowsOfDays_114 (q := 1) rfl hl2 (fun _ => rfl) (fun v19 => ?_)
      refine i_goto (tgt := 95) C dX12_rowsOfDays_117 (by decide) ?_
      exact (ih v19 M18)
set_option maxRecDepth 100000 in
set_option maxHeartbeats 4000000 in
theorem c_X12_rowsOfDays (l : Launch) (G : Gx) {K : Kx} (hK : K = kR) {x1 : Int} {M : Mem} {res : Int × Mem} (hM : OkM M) (ha : okS [aR 0, aI x1]) (hF : rM_rowsOfDays x1 M = some res) : Ct l G K yX12_rowsOfDays (wsM yX12_rowsOfDays cX12_rowsOfDays 3 (some .int)) rmX12_rowsOfDays [aR 0, aI x1] M (some (aI res.1)) res.2 := by
  refine ct_of RX12 (by decide +kernel) rfl (hK ▸ kR_ok) hM ha (Nat.le_of_ble_eq_true rfl) hF ?_
  intro X C hl hG hX0 hN hR hq
  have hX : xK X = kR := hX0.trans hK
  show Im X 0 0 0 [(0, aR 0), (1, aI x1)] [] M res (rM_rowsOfDays x1 M)
  unfold rM_rowsOfDays
  have hl2 : 2 < xn X := by rw [hN]; decide
  have hRm : ∀ {rm : Room} {ny : Nat}, RmOk rmX12_rowsOfDays rm ny → RmOk (xR X) rm ny := fun h => by rw [hR]; exact h
  refine i_iload_n C dX12_rowsOfDays_0 rfl (q := 1) rfl ?_
  refine i_i2l C dX12_rowsOfDays_1 ?_
  refine i_lconst C dX12_rowsOfDays_2 kL_1 ?_
  refine i_ldc2 C dX12_rowsOfDays_3 k2_X12_437 kJ_24 ?_
  refine i_cI (kc' := 0) (ks' := 0) 0 0 3 (fun q hq hM hS => crS C (as := [aL x1, aL 1, aL 24]) dX12_rowsOfDays_6.1 ml_X12_78 cal_X12_isIn st_X12_isIn (hRm ⟨Nat.le_of_ble_eq_true rfl, Nat.le_of_ble_eq_true rfl⟩) rfl (Nat.le_of_ble_eq_true rfl) (c_X12_isIn (xl X) (xG X) hX hM ⟨hS.2.2.1, hS.2.1, hS.1, trivial⟩ hq)) (Nat.le_of_ble_eq_true rfl) (Nat.le_of_ble_eq_true rfl) rfl rfl rfl (fun v2 M1 => ?_)
  refine i_if_ne (tgt := 15) C dX12_rowsOfDays_9 (by decide) ?_ ?_
  · refine i_aload_n C dX12_rowsOfDays_15 rfl (q := 0) rfl ?_
    refine i_getI C (k := 3) kX12 dX12_rowsOfDays_16 (shR_0 hX) rfl (by decide) fl_X12_439 rfl ?_
    refine i_if_ne (tgt := 25) C dX12_rowsOfDays_19 (by decide) ?_ ?_
    · refine i_iconst C dX12_rowsOfDays_25 kI_0 ?_
      refine i_istore_n C dX12_rowsOfDays_26 rfl hl2 (L' := [(0, aR 0), (1, aI x1), (2, aI 0)]) rfl ?_
      refine (w_X12_rowsOfDays_27 C hX hN hR hq x1 (fun M8 => ?_) FU 0 M1)
      refine i_iconst C dX12_rowsOfDays_64 kI_0 ?_
      refine i_istore_n C dX12_rowsOfDays_65 rfl hl2 (L' := [(0, aR 0), (1, aI x1), (2, aI 0)]) rfl ?_
      refine (w_X12_rowsOfDays_66 C hX hN hR hq x1 (fun M16 => ?_) FU 0 M8)
      refine i_iconst C dX12_rowsOfDays_93 kI_0 ?_
      refine i_istore_n C dX12_rowsOfDays_94 rfl hl2 (L' := [(0, aR 0), (2, aI 0)]) rfl ?_
      exact (w_X12_rowsOfDays_95 C hX hN hR hq FU 0 M16)
    · refine i_ldc C dX12_rowsOfDays_22 kc_X12_132 kI_m1000000002 ?_
      exact i_iret C hq dX12_rowsOfDays_24
  · refine i_ldc C dX12_rowsOfDays_12 kc_X12_102 kI_m1000000001 ?_
    exact i_iret C hq dX12_rowsOfDays_14
set_option maxRecDepth 100000 in
set_option maxHeartbeats 4000000 in
theorem w_X12_check_55 {X : Xc} (C : Cx X RX12 cX12_check (some .int)) (hX : xK X = kR) (hN : xn X = 6) (hR : xR X = rmX12_check) {res : Int × Mem} (hq : Rq X (some (aI res.1)) res.2) (y3 : Int) {k93 : Int → Mem → Option (Int × Mem)} (hk93 : ∀ (q5 : Int) (M : Mem), Im X 0 0 93 [(0, aR 0), (3, aI y3), (5, aI q5)] [] M res (k93 q5 M)) : ∀ (n : Nat) (u5 : Int) (M : Mem), Im X 0 0 55 [(0, aR 0), (3, aI y3), (5, aI u5)] [] M res (lpX12_check_55 y3 k93 n u5 M) := by
  have hl3 : 3 < xn X := by rw [hN]; decide
  have hl4 : 4 < xn X := by rw [hN]; decide
  have hl5 : 5 < xn X := by rw [hN]; decide
  intro n
  induction n with
  | zero => intro _ _; exact i_none
  | succ n ih =>
    intro u5 M
    unfold lpX12_check_55
    refine i_iload C dX12_check_55 (q := 2) rfl ?_
    refine i_iload_n C dX12_check_57 rfl (q := 1) rfl ?_
    refine i_icmp_ge (tgt := 93) C dX12_check_58 (by decide) ?_ ?_
    · exact (hk93 u5 M)
    · refine i_iload C dX12_check_61 (q := 2) rfl ?_
      refine i_aload_n C dX12_check_63 rfl (q := 0) rfl ?_
      refine i_getI C (k := 38) kX12 dX12_check_64 (shR_0 hX) rfl (by decide) fl_X12_431 rfl ?_
      refine i_icmp_ge (tgt := 93) C dX12_check_67 (by decide) ?_ ?_
      · exact (hk93 u5 M)
      · refine i_aload_n C dX12_check_70 rfl (q := 0) rfl ?_
        refine i_getR C (k := 35) kX12 dX12_check_71 (shR_0 hX) rfl (by decide) fl_X12_71 ?_
        refine i_iload C dX12_check_74 (q := 2) rfl ?_
        refine i_ald C dX12_check_76 (shR_20 hX) (fun v7 => ?_)
        refine i_aload_n C dX12_check_77 rfl (q := 0) rfl ?_
        refine i_getR C (k := 37) kX12 dX12_check_78 (shR_0 hX) rfl (by decide) fl_X12_74 ?_
        refine i_iload C dX12_check_81 (q := 2) rfl ?_
        refine i_ald C dX12_check_83 (shR_21 hX) (fun v8 => ?_)
        refine i_icmp_ne (tgt := 93) C dX12_check_84 (by decide) ?_ ?_
        · exact (hk93 u5 M)
        · refine i_iincN (L' := fun v9 => [(0, aR 0), (3, aI y3), (5, aI v9)]) C dX12_check_87 (q := 2) rfl hl5 (fun _ => rfl) (fun v9 => ?_)
          refine i_goto (tgt := 55) C dX12_check_90 (by decide) ?_
          exact (ih v9 M)
set_option maxRecDepth 100000 in
set_option maxHeartbeats 4000000 in
theorem c_X12_check (l : Launch) (G : Gx) {K : Kx} (hK : K = kR) {x1 : Int} {x2 : Int} {M : Mem} {res : Int × Mem} (hM : OkM M) (ha : okS [aR 0, aI x1, aI x2]) (hF : rM_check x1 x2 M = some res) : Ct l G K yX12_check (wsM yX12_check cX12_check 6 (some .int)) rmX12_check [aR 0, aI x1, aI x2] M (some (aI res.1)) res.2 := by
  refine ct_of RX12 (by decide +kernel) rfl (hK ▸ kR_ok) hM ha (Nat.le_of_ble_eq_true rfl) hF ?_
  intro X C hl hG hX0 hN hR hq
  have hX : xK X = kR := hX0.trans hK
  show Im X 0 0 0 [(0, aR 0), (1, aI x1), (2, aI x2)] [] M res (rM_check x1 x2 M)
  unfold rM_check
  have hl3 : 3 < xn X := by rw [hN]; decide
  have hl4 : 4 < xn X := by rw [hN]; decide
  have hl5 : 5 < xn X := by rw [hN]; decide
  have hRm : ∀ {rm : Room} {ny : Nat}, RmOk rmX12_check rm ny → RmOk (xR X) rm ny := fun h => by rw [hR]; exact h
  refine i_aload_n C dX12_check_0 rfl (q := 0) rfl ?_
  refine i_getI C (k := 36) kX12 dX12_check_1 (shR_0 hX) rfl (by decide) fl_X12_428 rfl ?_
  refine i_nm (fun v1 => ?_)
  refine i_istore_n C dX12_check_4 rfl hl3 (L' := [(0, aR 0), (1, aI x1), (2, aI x2), (3, aI v1)]) rfl ?_
  refine i_aload_n C dX12_check_5 rfl (q := 0) rfl ?_
  refine i_iconst C dX12_check_6 kI_0 ?_
  refine i_putI C (k := 36) kX12 dX12_check_7 (shR_0 hX) rfl (by decide) fl_X12_428 rfl rfl rfl rfl (fun M2 => ?_)
  refine i_aload_n C dX12_check_10 rfl (q := 0) rfl ?_
  refine i_iconst C dX12_check_11 kI_0 ?_
  refine i_putI C (k := 38) kX12 dX12_check_12 (shR_0 hX) rfl (by decide) fl_X12_431 rfl rfl rfl rfl (fun M3 => ?_)
  refine i_iload_n C dX12_check_15 rfl (q := 1) rfl ?_
  refine i_jn (fun j => ∀ (p4 : Int) (M6 : Mem), Im X 0 0 42 [(0, aR 0), (3, aI v1)] [aI p4] M6 res (j p4 M6)) ?_ (fun j5 hj5 => ?_)
  · intro p4 M6
    refine i_istore C dX12_check_42 hl4 (L' := [(0, aR 0), (3, aI v1), (4, aI p4)]) rfl ?_
    refine i_iload C dX12_check_44 (q := 2) rfl ?_
    refine i_if_eq (tgt := 52) C dX12_check_46 (by decide) ?_ ?_
    · refine i_iconst C dX12_check_52 kI_0 ?_
      refine i_istore C dX12_check_53 hl5 (L' := [(0, aR 0), (3, aI v1), (4, aI p4), (5, aI 0)]) rfl ?_
      refine i_sub [0, 1, 3] rfl (w_X12_check_55 C hX hN hR hq v1 (fun v10 M11 => ?_) FU 0 M6)
      refine i_iload C dX12_check_93 (q := 2) rfl ?_
      refine i_iload_n C dX12_check_95 rfl (q := 1) rfl ?_
      refine i_icmp_ne (tgt := 112) C dX12_check_96 (by decide) ?_ ?_
      · refine i_iconst C dX12_check_112 kI_1 ?_
        refine i_iload C dX12_check_113 (q := 2) rfl ?_
        refine i_iadd C dX12_check_115 ?_
        exact i_iret C hq dX12_check_116
      · refine i_iload C dX12_check_99 (q := 2) rfl ?_
        refine i_aload_n C dX12_check_101 rfl (q := 0) rfl ?_
        refine i_getI C (k := 38) kX12 dX12_check_102 (shR_0 hX) rfl (by decide) fl_X12_431 rfl ?_
        refine i_icmp_ne (tgt := 112) C dX12_check_105 (by decide) ?_ ?_
        · refine i_iconst C dX12_check_112 kI_1 ?_
          refine i_iload C dX12_check_113 (q := 2) rfl ?_
          refine i_iadd C dX12_check_115 ?_
          exact i_iret C hq dX12_check_116
        · refine i_iconst C dX12_check_108 kI_0 ?_
          refine i_goto (tgt := 116) C dX12_check_109 (by decide) ?_
          exact i_iret C hq dX12_check_116
    · refine i_iload C dX12_check_49 (q := 2) rfl ?_
      exact i_iret C hq dX12_check_51
  refine i_if_ne (tgt := 27) C dX12_check_16 (by decide) ?_ ?_
  · refine i_iload_n C dX12_check_27 rfl (q := 1) rfl ?_
    refine i_iconst C dX12_check_28 kI_1 ?_
    refine i_icmp_ne (tgt := 40) C dX12_check_29 (by decide) ?_ ?_
    · refine i_ldc C dX12_check_40 kc_X12_102 kI_m1000000001 ?_
      exact i_sub [0, 3] rfl (hj5 (-1000000001) M3)
    · refine i_aload_n C dX12_check_32 rfl (q := 0) rfl ?_
      refine i_iload_n C dX12_check_33 rfl (q := 2) rfl ?_
      refine i_cI (kc' := 0) (ks' := 0) 0 0 2 (fun q hq hM hS => crV C (as := [aI x2]) dX12_check_34.1 kX12 (shR_0 hX) ml_X12_451 cal_X12_rowsOfDays cv_X12_rowsOfDays (hRm ⟨Nat.le_of_ble_eq_true rfl, Nat.le_of_ble_eq_true rfl⟩) rfl (Nat.le_of_ble_eq_true rfl) (c_X12_rowsOfDays (xl X) (xG X) hX hM ⟨hS.2.1, hS.1, trivial⟩ hq)) (Nat.le_of_ble_eq_true rfl) (Nat.le_of_ble_eq_true rfl) rfl rfl rfl (fun v13 M12 => ?_)
      refine i_goto (tgt := 42) C dX12_check_37 (by decide) ?_
      exact i_sub [0, 3] rfl (hj5 v13 M12)
  · refine i_aload_n C dX12_check_19 rfl (q := 0) rfl ?_
    refine i_iload_n C dX12_check_20 rfl (q := 2) rfl ?_
    refine i_cI (kc' := 0) (ks' := 0) 0 0 2 (fun q hq hM hS => crV C (as := [aI x2]) dX12_check_21.1 kX12 (shR_0 hX) ml_X12_448 cal_X12_rowsOfOrder cv_X12_rowsOfOrder (hRm ⟨Nat.le_of_ble_eq_true rfl, Nat.le_of_ble_eq_true rfl⟩) rfl (Nat.le_of_ble_eq_true rfl) (c_X12_rowsOfOrder (xl X) (xG X) hX hM ⟨hS.2.1, hS.1, trivial⟩ hq)) (Nat.le_of_ble_eq_true rfl) (Nat.le_of_ble_eq_true rfl) rfl rfl rfl (fun v15 M14 => ?_)
    refine i_goto (tgt := 42) C dX12_check_24 (by decide) ?_
    exact i_sub [0, 3] rfl (hj5 v15 M14)
set_option maxRecDepth 100000 in
set_option maxHeartbeats 4000000 in
theorem w_X12_keep_7 {X : Xc} (C : Cx X RX12 cX12_keep (some .int)) (hX : xK X = kR) (hN : xn X = 2) (hR : xR X = rmX12_keep) {res : Int × Mem} (hq : Rq X (some (aI res.1)) res.2) : ∀ (n : Nat) (u1 : Int) (M : Mem), Im X 0 0 7 [(0, aR 0), (1, aI u1)] [] M res (lpX12_keep_7 n u1 M) := by
  have hl1 : 1 < xn X := by rw [hN]; decide
  intro n
  induction n with
  | zero => intro _ _; exact i_none
  | succ n ih =>
    intro u1 M
    unfold lpX12_keep_7
    refine i_iload_n C dX12_keep_7 rfl (q := 1) rfl ?_
    refine i_sipush C dX12_keep_8 kS_4210 ?_
    refine i_icmp_ge (tgt := 32) C dX12_keep_11 (by decide) ?_ ?_
    · refine i_aload_n C dX12_keep_32 rfl (q := 0) rfl ?_
      refine i_getR C (k := 0) kX12 dX12_keep_33 (shR_0 hX) rfl (by decide) fl_X12_7 ?_
      refine i_iconst C dX12_keep_36 kI_0 ?_
      refine i_ald C dX12_keep_37 (shR_1 hX) (fun v2 => ?_)
      exact i_iret C hq dX12_keep_38
    · refine i_aload_n C dX12_keep_14 rfl (q := 0) rfl ?_
      refine i_getR C (k := 1) kX12 dX12_keep_15 (shR_0 hX) rfl (by decide) fl_X12_13 ?_
      refine i_iload_n C dX12_keep_18 rfl (q := 1) rfl ?_
      refine i_aload_n C dX12_keep_19 rfl (q := 0) rfl ?_
      refine i_getR C (k := 0) kX12 dX12_keep_20 (shR_0 hX) rfl (by decide) fl_X12_7 ?_
      refine i_iload_n C dX12_keep_23 rfl (q := 1) rfl ?_
      refine i_ald C dX12_keep_24 (shR_1 hX) (fun v3 => ?_)
      refine i_ast C dX12_keep_25 (shR_2 hX) (fun M4 => ?_)
      refine i_iincN (L' := fun v5 => [(0, aR 0), (1, aI v5)]) C dX12_keep_26 (q := 1) rfl hl1 (fun _ => rfl) (fun v5 => ?_)
      refine i_goto (tgt := 7) C dX12_keep_29 (by decide) ?_
      exact (ih v5 M4)
set_option maxRecDepth 100000 in
set_option maxHeartbeats 4000000 in
theorem c_X12_keep (l : Launch) (G : Gx) {K : Kx} (hK : K = kR) {M : Mem} {res : Int × Mem} (hM : OkM M) (ha : okS [aR 0]) (hF : rM_keep M = some res) : Ct l G K yX12_keep (wsM yX12_keep cX12_keep 2 (some .int)) rmX12_keep [aR 0] M (some (aI res.1)) res.2 := by
  refine ct_of RX12 (by decide +kernel) rfl (hK ▸ kR_ok) hM ha (Nat.le_of_ble_eq_true rfl) hF ?_
  intro X C hl hG hX0 hN hR hq
  have hX : xK X = kR := hX0.trans hK
  show Im X 0 0 0 [(0, aR 0)] [] M res (rM_keep  M)
  unfold rM_keep
  have hl1 : 1 < xn X := by rw [hN]; decide
  refine i_aload_n C dX12_keep_0 rfl (q := 0) rfl ?_
  refine i_iconst C dX12_keep_1 kI_1 ?_
  refine i_putI C (k := 3) kX12 dX12_keep_2 (shR_0 hX) rfl (by decide) fl_X12_439 rfl (by decide) (by decide) rfl (fun M1 => ?_)
  refine i_iconst C dX12_keep_5 kI_0 ?_
  refine i_istore_n C dX12_keep_6 rfl hl1 (L' := [(0, aR 0), (1, aI 0)]) rfl ?_
  exact (w_X12_keep_7 C hX hN hR hq FU 0 M1)
set_option maxRecDepth 100000 in
set_option maxHeartbeats 4000000 in
theorem w_X12_back_12 {X : Xc} (C : Cx X RX12 cX12_back (some .int)) (hX : xK X = kR) (hN : xn X = 2) (hR : xR X = rmX12_back) {res : Int × Mem} (hq : Rq X (some (aI res.1)) res.2) : ∀ (n : Nat) (u1 : Int) (M : Mem), Im X 0 0 12 [(0, aR 0), (1, aI u1)] [] M res (lpX12_back_12 n u1 M) := by
  have hl1 : 1 < xn X := by rw [hN]; decide
  intro n
  induction n with
  | zero => intro _ _; exact i_none
  | succ n ih =>
    intro u1 M
    unfold lpX12_back_12
    refine i_iload_n C dX12_back_12 rfl (q := 1) rfl ?_
    refine i_sipush C dX12_back_13 kS_4210 ?_
    refine i_icmp_ge (tgt := 37) C dX12_back_16 (by decide) ?_ ?_
    · refine i_aload_n C dX12_back_37 rfl (q := 0) rfl ?_
      refine i_getR C (k := 0) kX12 dX12_back_38 (shR_0 hX) rfl (by decide) fl_X12_7 ?_
      refine i_iconst C dX12_back_41 kI_0 ?_
      refine i_ald C dX12_back_42 (shR_1 hX) (fun v1 => ?_)
      exact i_iret C hq dX12_back_43
    · refine i_aload_n C dX12_back_19 rfl (q := 0) rfl ?_
      refine i_getR C (k := 0) kX12 dX12_back_20 (shR_0 hX) rfl (by decide) fl_X12_7 ?_
      refine i_iload_n C dX12_back_23 rfl (q := 1) rfl ?_
      refine i_aload_n C dX12_back_24 rfl (q := 0) rfl ?_
      refine i_getR C (k := 1) kX12 dX12_back_25 (shR_0 hX) rfl (by decide) fl_X12_13 ?_
      refine i_iload_n C dX12_back_28 rfl (q := 1) rfl ?_
      refine i_ald C dX12_back_29 (shR_2 hX) (fun v2 => ?_)
      refine i_ast C dX12_back_30 (shR_1 hX) (fun M3 => ?_)
      refine i_iincN (L' := fun v4 => [(0, aR 0), (1, aI v4)]) C dX12_back_31 (q := 1) rfl hl1 (fun _ => rfl) (fun v4 => ?_)
      refine i_goto (tgt := 12) C dX12_back_34 (by decide) ?_
      exact (ih v4 M3)
set_option maxRecDepth 100000 in
set_option maxHeartbeats 4000000 in
theorem c_X12_back (l : Launch) (G : Gx) {K : Kx} (hK : K = kR) {M : Mem} {res : Int × Mem} (hM : OkM M) (ha : okS [aR 0]) (hF : rM_back M = some res) : Ct l G K yX12_back (wsM yX12_back cX12_back 2 (some .int)) rmX12_back [aR 0] M (some (aI res.1)) res.2 := by
  refine ct_of RX12 (by decide +kernel) rfl (hK ▸ kR_ok) hM ha (Nat.le_of_ble_eq_true rfl) hF ?_
  intro X C hl hG hX0 hN hR hq
  have hX : xK X = kR := hX0.trans hK
  show Im X 0 0 0 [(0, aR 0)] [] M res (rM_back  M)
  unfold rM_back
  have hl1 : 1 < xn X := by rw [hN]; decide
  refine i_aload_n C dX12_back_0 rfl (q := 0) rfl ?_
  refine i_getI C (k := 3) kX12 dX12_back_1 (shR_0 hX) rfl (by decide) fl_X12_439 rfl ?_
  refine i_if_ne (tgt := 10) C dX12_back_4 (by decide) ?_ ?_
  · refine i_iconst C dX12_back_10 kI_0 ?_
    refine i_istore_n C dX12_back_11 rfl hl1 (L' := [(0, aR 0), (1, aI 0)]) rfl ?_
    exact (w_X12_back_12 C hX hN hR hq FU 0 M)
  · refine i_ldc C dX12_back_7 kc_X12_132 kI_m1000000002 ?_
    exact i_iret C hq dX12_back_9
set_option maxRecDepth 100000 in
set_option maxHeartbeats 4000000 in
theorem w_X12_count_92 {X : Xc} (C : Cx X RX12 cX12_count (some .int)) (hX : xK X = kR) (hN : xn X = 4) (hR : xR X = rmX12_count) {res : Int × Mem} (hq : Rq X (some (aI res.1)) res.2) : ∀ (n : Nat) (u2 : Int) (u3 : Int) (M : Mem), Im X 0 0 92 [(0, aR 0), (2, aI u2), (3, aI u3)] [] M res (lpX12_count_92 n u2 u3 M) := by
  have hl2 : 2 < xn X := by rw [hN]; decide
  have hl3 : 3 < xn X := by rw [hN]; decide
  have hRm : ∀ {rm : Room} {ny : Nat}, RmOk rmX12_count rm ny → RmOk (xR X) rm ny := fun h => by rw [hR]; exact h
  intro n
  induction n with
  | zero => intro _ _ _; exact i_none
  | succ n ih =>
    intro u2 u3 M
    unfold lpX12_count_92
    refine i_iload_n C dX12_count_92 rfl (q := 2) rfl ?_
    refine i_aload_n C dX12_count_93 rfl (q := 0) rfl ?_
    refine i_getR C (k := 0) kX12 dX12_count_94 (shR_0 hX) rfl (by decide) fl_X12_7 ?_
    refine i_iconst C dX12_count_97 kI_2 ?_
    refine i_ald C dX12_count_98 (shR_1 hX) (fun v5 => ?_)
    refine i_icmp_ge (tgt := 124) C dX12_count_99 (by decide) ?_ ?_
    · refine i_iload_n C dX12_count_124 rfl (q := 1) rfl ?_
      exact i_iret C hq dX12_count_125
    · refine i_iload_n C dX12_count_102 rfl (q := 1) rfl ?_
      refine i_aload_n C dX12_count_103 rfl (q := 0) rfl ?_
      refine i_iload_n C dX12_count_104 rfl (q := 2) rfl ?_
      refine i_cI (kc' := 0) (ks' := 0) 0 0 2 (fun q hq hM hS => crV C (as := [aI u3]) dX12_count_105.1 kX12 (shR_0 hX) ml_X12_129 cal_X12_isDead cv_X12_isDead (hRm ⟨Nat.le_of_ble_eq_true rfl, Nat.le_of_ble_eq_true rfl⟩) rfl (Nat.le_of_ble_eq_true rfl) (c_X12_isDead (xl X) (xG X) hX hM ⟨hS.2.1, hS.1, trivial⟩ hq)) (Nat.le_of_ble_eq_true rfl) (Nat.le_of_ble_eq_true rfl) rfl rfl rfl (fun v7 M6 => ?_)
      refine i_jn (fun j => ∀ (p8 : Int) (M10 : Mem), Im X 0 0 116 [(0, aR 0), (3, aI u3)] [aI p8, aI u2] M10 res (j p8 M10)) ?_ (fun j9 hj9 => ?_)
      · intro p8 M10
        refine i_iadd C dX12_count_116 ?_
        refine i_nm (fun v11 => ?_)
        refine i_istore_n C dX12_count_117 rfl hl2 (L' := [(0, aR 0), (2, aI v11), (3, aI u3)]) rfl ?_
        refine i_iincN (L' := fun v12 => [(0, aR 0), (2, aI v11), (3, aI v12)]) C dX12_count_118 (q := 2) rfl hl3 (fun _ => rfl) (fun v12 => ?_)
        refine i_goto (tgt := 92) C dX12_count_121 (by decide) ?_
        exact (ih v11 v12 M10)
      refine i_if_eq (tgt := 115) C dX12_count_108 (by decide) ?_ ?_
      · refine i_iconst C dX12_count_115 kI_0 ?_
        exact i_sub [0, 2] rfl (hj9 0 M6)
      · refine i_iconst C dX12_count_111 kI_1 ?_
        refine i_goto (tgt := 116) C dX12_count_112 (by decide) ?_
        exact i_sub [0, 2] rfl (hj9 1 M6)
set_option maxRecDepth 100000 in
set_option maxHeartbeats 4000000 in
theorem w_X12_count_140 {X : Xc} (C : Cx X RX12 cX12_count (some .int)) (hX : xK X = kR) (hN : xn X = 4) (hR : xR X = rmX12_count) {res : Int × Mem} (hq : Rq X (some (aI res.1)) res.2) : ∀ (n : Nat) (u2 : Int) (u3 : Int) (M : Mem), Im X 0 0 140 [(0, aR 0), (2, aI u2), (3, aI u3)] [] M res (lpX12_count_140 n u2 u3 M) := by
  have hl2 : 2 < xn X := by rw [hN]; decide
  have hl3 : 3 < xn X := by rw [hN]; decide
  have hRm : ∀ {rm : Room} {ny : Nat}, RmOk rmX12_count rm ny → RmOk (xR X) rm ny := fun h => by rw [hR]; exact h
  intro n
  induction n with
  | zero => intro _ _ _; exact i_none
  | succ n ih =>
    intro u2 u3 M
    unfold lpX12_count_140
    refine i_iload_n C dX12_count_140 rfl (q := 2) rfl ?_
    refine i_aload_n C dX12_count_141 rfl (q := 0) rfl ?_
    refine i_getR C (k := 0) kX12 dX12_count_142 (shR_0 hX) rfl (by decide) fl_X12_7 ?_
    refine i_iconst C dX12_count_145 kI_3 ?_
    refine i_ald C dX12_count_146 (shR_1 hX) (fun v19 => ?_)
    refine i_icmp_ge (tgt := 195) C dX12_count_147 (by decide) ?_ ?_
    · refine i_iload_n C dX12_count_195 rfl (q := 1) rfl ?_
      exact i_iret C hq dX12_count_196
    · refine i_iload_n C dX12_count_150 rfl (q := 1) rfl ?_
      refine i_aload_n C dX12_count_151 rfl (q := 0) rfl ?_
      refine i_getR C (k := 0) kX12 dX12_count_152 (shR_0 hX) rfl (by decide) fl_X12_7 ?_
      refine i_aload_n C dX12_count_155 rfl (q := 0) rfl ?_
      refine i_iload_n C dX12_count_156 rfl (q := 2) rfl ?_
      refine i_cI (kc' := 0) (ks' := 0) 0 0 2 (fun q hq hM hS => crV C (as := [aI u3]) dX12_count_157.1 kX12 (shR_0 hX) ml_X12_86 cal_X12_tieAt cv_X12_tieAt (hRm ⟨Nat.le_of_ble_eq_true rfl, Nat.le_of_ble_eq_true rfl⟩) rfl (Nat.le_of_ble_eq_true rfl) (c_X12_tieAt (xl X) (xG X) hX hM ⟨hS.2.1, hS.1, trivial⟩ hq)) (Nat.le_of_ble_eq_true rfl) (Nat.le_of_ble_eq_true rfl) rfl rfl rfl (fun v21 M20 => ?_)
      refine i_ald C dX12_count_160 (shR_1 hX) (fun v22 => ?_)
      refine i_bipush C dX12_count_161 kB_6 ?_
      refine i_jn (fun j => ∀ (p23 : Int) (M25 : Mem), Im X 0 0 187 [(0, aR 0), (3, aI u3)] [aI p23, aI u2] M25 res (j p23 M25)) ?_ (fun j24 hj24 => ?_)
      · intro p23 M25
        refine i_iadd C dX12_count_187 ?_
        refine i_nm (fun v26 => ?_)
        refine i_istore_n C dX12_count_188 rfl hl2 (L' := [(0, aR 0), (2, aI v26), (3, aI u3)]) rfl ?_
        refine i_iincN (L' := fun v27 => [(0, aR 0), (2, aI v26), (3, aI v27)]) C dX12_count_189 (q := 2) rfl hl3 (fun _ => rfl) (fun v27 => ?_)
        refine i_goto (tgt := 140) C dX12_count_192 (by decide) ?_
        exact (ih v26 v27 M25)
      refine i_jn (fun j => ∀  (M29 : Mem), Im X 0 0 186 [(0, aR 0), (3, aI u3)] [aI u2] M29 res (j  M29)) ?_ (fun j28 hj28 => ?_)
      · intro  M29
        refine i_iconst C dX12_count_186 kI_0 ?_
        exact (hj24 0 M29)
      refine i_icmp_ne (tgt := 186) C dX12_count_163 (by decide) ?_ ?_
      · exact i_sub [0, 2] rfl (hj28  M20)
      · refine i_aload_n C dX12_count_166 rfl (q := 0) rfl ?_
        refine i_getR C (k := 0) kX12 dX12_count_167 (shR_0 hX) rfl (by decide) fl_X12_7 ?_
        refine i_aload_n C dX12_count_170 rfl (q := 0) rfl ?_
        refine i_iload_n C dX12_count_171 rfl (q := 2) rfl ?_
        refine i_cI (kc' := 0) (ks' := 0) 0 0 2 (fun q hq hM hS => crV C (as := [aI u3]) dX12_count_172.1 kX12 (shR_0 hX) ml_X12_86 cal_X12_tieAt cv_X12_tieAt (hRm ⟨Nat.le_of_ble_eq_true rfl, Nat.le_of_ble_eq_true rfl⟩) rfl (Nat.le_of_ble_eq_true rfl) (c_X12_tieAt (xl X) (xG X) hX hM ⟨hS.2.1, hS.1, trivial⟩ hq)) (Nat.le_of_ble_eq_true rfl) (Nat.le_of_ble_eq_true rfl) rfl rfl rfl (fun v31 M30 => ?_)
        refine i_bipush C dX12_count_175 kB_6 ?_
        refine i_iadd C dX12_count_177 ?_
        refine i_ald C dX12_count_178 (shR_1 hX) (fun v32 => ?_)
        refine i_if_ne (tgt := 186) C dX12_count_179 (by decide) ?_ ?_
        · exact i_sub [0, 2] rfl (hj28  M30)
        · refine i_iconst C dX12_count_182 kI_1 ?_
          refine i_goto (tgt := 187) C dX12_count_183 (by decide) ?_
          exact i_sub [0, 2] rfl (hj24 1 M30)
set_option maxRecDepth 100000 in
set_option maxHeartbeats 4000000 in
theorem c_X12_count (l : Launch) (G : Gx) {K : Kx} (hK : K = kR) {x1 : Int} {M : Mem} {res : Int × Mem} (hM : OkM M) (ha : okS [aR 0, aI x1]) (hF : rM_count x1 M = some res) : Ct l G K yX12_count (wsM yX12_count cX12_count 4 (some .int)) rmX12_count [aR 0, aI x1] M (some (aI res.1)) res.2 := by
  refine ct_of RX12 (by decide +kernel) rfl (hK ▸ kR_ok) hM ha (Nat.le_of_ble_eq_true rfl) hF ?_
  intro X C hl hG hX0 hN hR hq
  have hX : xK X = kR := hX0.trans hK
  show Im X 0 0 0 [(0, aR 0), (1, aI x1)] [] M res (rM_count x1 M)
  unfold rM_count
  have hl2 : 2 < xn X := by rw [hN]; decide
  have hl3 : 3 < xn X := by rw [hN]; decide
  have hRm : ∀ {rm : Room} {ny : Nat}, RmOk rmX12_count rm ny → RmOk (xR X) rm ny := fun h => by rw [hR]; exact h
  refine i_iconst C dX12_count_0 kI_0 ?_
  refine i_istore_n C dX12_count_1 rfl hl2 (L' := [(0, aR 0), (1, aI x1), (2, aI 0)]) rfl ?_
  refine i_iload_n C dX12_count_2 rfl (q := 1) rfl ?_
  refine i_split (fun e2 => ?_) (fun e2 => ?_)
  · refine i_tswIn (tgt := 76) C dX12_count_3 e2 (by decide) (by decide) rfl (by decide) ?_
    refine i_aload_n C dX12_count_76 rfl (q := 0) rfl ?_
    refine i_getR C (k := 0) kX12 dX12_count_77 (shR_0 hX) rfl (by decide) fl_X12_7 ?_
    refine i_iconst C dX12_count_80 kI_1 ?_
    refine i_ald C dX12_count_81 (shR_1 hX) (fun v1 => ?_)
    exact i_iret C hq dX12_count_82
  refine i_split (fun e4 => ?_) (fun e4 => ?_)
  · refine i_tswIn (tgt := 83) C dX12_count_3 e4 (by decide) (by decide) rfl (by decide) ?_
    refine i_aload_n C dX12_count_83 rfl (q := 0) rfl ?_
    refine i_getR C (k := 0) kX12 dX12_count_84 (shR_0 hX) rfl (by decide) fl_X12_7 ?_
    refine i_iconst C dX12_count_87 kI_2 ?_
    refine i_ald C dX12_count_88 (shR_1 hX) (fun v3 => ?_)
    exact i_iret C hq dX12_count_89
  refine i_split (fun e13 => ?_) (fun e13 => ?_)
  · refine i_tswIn (tgt := 90) C dX12_count_3 e13 (by decide) (by decide) rfl (by decide) ?_
    refine i_iconst C dX12_count_90 kI_0 ?_
    refine i_istore_n C dX12_count_91 rfl hl3 (L' := [(0, aR 0), (1, aI x1), (2, aI 0), (3, aI 0)]) rfl ?_
    exact i_sub [0, 2, 3] rfl (w_X12_count_92 C hX hN hR hq FU 0 0 M)
  refine i_split (fun e16 => ?_) (fun e16 => ?_)
  · refine i_tswIn (tgt := 126) C dX12_count_3 e16 (by decide) (by decide) rfl (by decide) ?_
    refine i_aload_n C dX12_count_126 rfl (q := 0) rfl ?_
    refine i_cI (kc' := 0) (ks' := 0) 0 0 1 (fun q hq hM hS => crV C (as := []) dX12_count_127.1 kX12 (shR_0 hX) ml_X12_442 cal_X12_waiters cv_X12_waiters (hRm ⟨Nat.le_of_ble_eq_true rfl, Nat.le_of_ble_eq_true rfl⟩) rfl (Nat.le_of_ble_eq_true rfl) (c_X12_waiters (xl X) (xG X) hX hM ⟨hS.1, trivial⟩ hq)) (Nat.le_of_ble_eq_true rfl) (Nat.le_of_ble_eq_true rfl) rfl rfl rfl (fun v15 M14 => ?_)
    exact i_iret C hq dX12_count_130
  refine i_split (fun e18 => ?_) (fun e18 => ?_)
  · refine i_tswIn (tgt := 131) C dX12_count_3 e18 (by decide) (by decide) rfl (by decide) ?_
    refine i_aload_n C dX12_count_131 rfl (q := 0) rfl ?_
    refine i_getR C (k := 0) kX12 dX12_count_132 (shR_0 hX) rfl (by decide) fl_X12_7 ?_
    refine i_iconst C dX12_count_135 kI_3 ?_
    refine i_ald C dX12_count_136 (shR_1 hX) (fun v17 => ?_)
    exact i_iret C hq dX12_count_137
  refine i_split (fun e33 => ?_) (fun e33 => ?_)
  · refine i_tswIn (tgt := 138) C dX12_count_3 e33 (by decide) (by decide) rfl (by decide) ?_
    refine i_iconst C dX12_count_138 kI_0 ?_
    refine i_istore_n C dX12_count_139 rfl hl3 (L' := [(0, aR 0), (1, aI x1), (2, aI 0), (3, aI 0)]) rfl ?_
    exact i_sub [0, 2, 3] rfl (w_X12_count_140 C hX hN hR hq FU 0 0 M)
  refine i_split (fun e35 => ?_) (fun e35 => ?_)
  · refine i_tswIn (tgt := 197) C dX12_count_3 e35 (by decide) (by decide) rfl (by decide) ?_
    refine i_aload_n C dX12_count_197 rfl (q := 0) rfl ?_
    refine i_getR C (k := 0) kX12 dX12_count_198 (shR_0 hX) rfl (by decide) fl_X12_7 ?_
    refine i_iconst C dX12_count_201 kI_4 ?_
    refine i_ald C dX12_count_202 (shR_1 hX) (fun v34 => ?_)
    exact i_iret C hq dX12_count_203
  refine i_split (fun e37 => ?_) (fun e37 => ?_)
  · refine i_tswIn (tgt := 204) C dX12_count_3 e37 (by decide) (by decide) rfl (by decide) ?_
    refine i_aload_n C dX12_count_204 rfl (q := 0) rfl ?_
    refine i_getR C (k := 0) kX12 dX12_count_205 (shR_0 hX) rfl (by decide) fl_X12_7 ?_
    refine i_iconst C dX12_count_208 kI_5 ?_
    refine i_ald C dX12_count_209 (shR_1 hX) (fun v36 => ?_)
    exact i_iret C hq dX12_count_210
  refine i_split (fun e39 => ?_) (fun e39 => ?_)
  · refine i_tswIn (tgt := 211) C dX12_count_3 e39 (by decide) (by decide) rfl (by decide) ?_
    refine i_aload_n C dX12_count_211 rfl (q := 0) rfl ?_
    refine i_getR C (k := 0) kX12 dX12_count_212 (shR_0 hX) rfl (by decide) fl_X12_7 ?_
    refine i_bipush C dX12_count_215 kB_6 ?_
    refine i_ald C dX12_count_217 (shR_1 hX) (fun v38 => ?_)
    exact i_iret C hq dX12_count_218
  refine i_split (fun e41 => ?_) (fun e41 => ?_)
  · refine i_tswIn (tgt := 219) C dX12_count_3 e41 (by decide) (by decide) rfl (by decide) ?_
    refine i_aload_n C dX12_count_219 rfl (q := 0) rfl ?_
    refine i_getR C (k := 0) kX12 dX12_count_220 (shR_0 hX) rfl (by decide) fl_X12_7 ?_
    refine i_bipush C dX12_count_223 kB_7 ?_
    refine i_ald C dX12_count_225 (shR_1 hX) (fun v40 => ?_)
    exact i_iret C hq dX12_count_226
  refine i_split (fun e42 => ?_) (fun e42 => ?_)
  · refine i_tswIn (tgt := 227) C dX12_count_3 e42 (by decide) (by decide) rfl (by decide) ?_
    refine i_aload_n C dX12_count_227 rfl (q := 0) rfl ?_
    refine i_getI C (k := 36) kX12 dX12_count_228 (shR_0 hX) rfl (by decide) fl_X12_428 rfl ?_
    exact i_iret C hq dX12_count_231
  refine i_split (fun e43 => ?_) (fun e43 => ?_)
  · refine i_tswIn (tgt := 232) C dX12_count_3 e43 (by decide) (by decide) rfl (by decide) ?_
    refine i_aload_n C dX12_count_232 rfl (q := 0) rfl ?_
    refine i_getI C (k := 9) kX12 dX12_count_233 (shR_0 hX) rfl (by decide) fl_X12_220 rfl ?_
    exact i_iret C hq dX12_count_236
  refine i_split (fun e45 => ?_) (fun e45 => ?_)
  · refine i_tswIn (tgt := 237) C dX12_count_3 e45 (by decide) (by decide) rfl (by decide) ?_
    refine i_aload_n C dX12_count_237 rfl (q := 0) rfl ?_
    refine i_getR C (k := 0) kX12 dX12_count_238 (shR_0 hX) rfl (by decide) fl_X12_7 ?_
    refine i_iconst C dX12_count_241 kI_0 ?_
    refine i_ald C dX12_count_242 (shR_1 hX) (fun v44 => ?_)
    exact i_iret C hq dX12_count_243
  refine i_split (fun e47 => ?_) (fun e47 => ?_)
  · refine i_tswIn (tgt := 244) C dX12_count_3 e47 (by decide) (by decide) rfl (by decide) ?_
    refine i_aload_n C dX12_count_244 rfl (q := 0) rfl ?_
    refine i_getR C (k := 0) kX12 dX12_count_245 (shR_0 hX) rfl (by decide) fl_X12_7 ?_
    refine i_bipush C dX12_count_248 kB_8 ?_
    refine i_iload_n C dX12_count_250 rfl (q := 1) rfl ?_
    refine i_iadd C dX12_count_251 ?_
    refine i_bipush C dX12_count_252 kB_13 ?_
    refine i_isub C dX12_count_254 ?_
    refine i_ald C dX12_count_255 (shR_1 hX) (fun v46 => ?_)
    exact i_iret C hq dX12_count_256
  refine i_split (fun e49 => ?_) (fun e49 => ?_)
  · refine i_tswIn (tgt := 244) C dX12_count_3 e49 (by decide) (by decide) rfl (by decide) ?_
    refine i_aload_n C dX12_count_244 rfl (q := 0) rfl ?_
    refine i_getR C (k := 0) kX12 dX12_count_245 (shR_0 hX) rfl (by decide) fl_X12_7 ?_
    refine i_bipush C dX12_count_248 kB_8 ?_
    refine i_iload_n C dX12_count_250 rfl (q := 1) rfl ?_
    refine i_iadd C dX12_count_251 ?_
    refine i_bipush C dX12_count_252 kB_13 ?_
    refine i_isub C dX12_count_254 ?_
    refine i_ald C dX12_count_255 (shR_1 hX) (fun v48 => ?_)
    exact i_iret C hq dX12_count_256
  refine i_tswOut (tgt := 257) C dX12_count_3 (by omega) (by decide) ?_
  refine i_ldc C dX12_count_257 kc_X12_102 kI_m1000000001 ?_
  exact i_iret C hq dX12_count_259
set_option maxRecDepth 100000 in
set_option maxHeartbeats 4000000 in
theorem w_X12_term_10 {X : Xc} {rc : Int → Mem → Option (Int × Mem)} {d : Nat} (C : Cx X RX12 cX12_term (some .boolean)) (hX : xK X = kR) (hN : xn X = 3) (hR : xR X = (rmX12_term d)) (hrc : RcX12_part0 (xl X) (xG X) (xK X) rc d) {res : Int × Mem} (hq : Rq X (some (aI res.1)) res.2) (y1 : Int) : ∀ (n : Nat) (M : Mem), Im X 0 0 10 [(0, aR 0), (1, aI y1)] [] M res (lpX12_term_10 rc y1 n M) := by
  have hl2 : 2 < xn X := by rw [hN]; decide
  have hRm : ∀ {rm : Room} {ny : Nat}, RmOk (rmX12_term d) rm ny → RmOk (xR X) rm ny := fun h => by rw [hR]; exact h
  intro n
  induction n with
  | zero => intro _; exact i_none
  | succ n ih =>
    intro M
    unfold lpX12_term_10
    refine i_aload_n C dX12_term_10 rfl (q := 0) rfl ?_
    refine i_bipush C dX12_term_11 kB_42 ?_
    refine i_cI (kc' := 0) (ks' := 0) 0 0 2 (fun q hq hM hS => crV C (as := [aI 42]) dX12_term_13.1 kX12 (shR_0 hX) ml_X12_269 cal_X12_isSign cv_X12_isSign (hRm rk_X12_term_X12_isSign) rfl (Nat.le_of_ble_eq_true rfl) (c_X12_isSign (xl X) (xG X) hX hM ⟨hS.2.1, hS.1, trivial⟩ hq)) (Nat.le_of_ble_eq_true rfl) (Nat.le_of_ble_eq_true rfl) rfl rfl rfl (fun v4 M3 => ?_)
    refine i_jn (fun j => ∀  (M6 : Mem), Im X 0 0 28 [(0, aR 0), (1, aI y1)] [] M6 res (j  M6)) ?_ (fun j5 hj5 => ?_)
    · intro  M6
      refine i_aload_n C dX12_term_28 rfl (q := 0) rfl ?_
      refine i_getI C (k := 14) kX12 dX12_term_29 (shR_0 hX) rfl (by decide) fl_X12_243 rfl ?_
      refine i_nm (fun v7 => ?_)
      refine i_istore_n C dX12_term_32 rfl hl2 (L' := [(0, aR 0), (1, aI y1), (2, aI v7)]) rfl ?_
      refine i_aload_n C dX12_term_33 rfl (q := 0) rfl ?_
      refine i_cV (kc' := 0) (ks' := 0) 0 0 1 (fun q hq hM hS => crV C (as := []) dX12_term_34.1 kX12 (shR_0 hX) ml_X12_272 cal_X12_next cv_X12_next (hRm rk_X12_term_X12_next) rfl (Nat.le_of_ble_eq_true rfl) (c_X12_next (xl X) (xG X) hX hM ⟨hS.1, trivial⟩ hq)) (Nat.le_of_ble_eq_true rfl) (Nat.le_of_ble_eq_true rfl) rfl rfl rfl (fun M8 => ?_)
      refine i_aload_n C dX12_term_37 rfl (q := 0) rfl ?_
      refine i_iload_n C dX12_term_38 rfl (q := 1) rfl ?_
      refine i_cI (kc' := 0) (ks' := 0) 0 0 2 (fun q hq hM hS => crV C (as := [aI y1]) dX12_term_39.1 kX12 (shR_0 hX) ml_X12_287 cal_X12_part0 cv_X12_part0 (hRm rk_X12_term_X12_part0) rfl (Nat.le_of_ble_eq_true rfl) (hrc _ _ _ hM ⟨hS.2.1, hS.1, trivial⟩ hq)) (Nat.le_of_ble_eq_true rfl) (Nat.le_of_ble_eq_true rfl) rfl rfl rfl (fun v10 M9 => ?_)
      refine i_if_ne (tgt := 47) C dX12_term_42 (by decide) ?_ ?_
      · refine i_aload_n C dX12_term_47 rfl (q := 0) rfl ?_
        refine i_iconst C dX12_term_48 kI_2 ?_
        refine i_iload_n C dX12_term_49 rfl (q := 2) rfl ?_
        refine i_cV (kc' := 0) (ks' := 0) 0 0 3 (fun q hq hM hS => crV C (as := [aI 2, aI v7]) dX12_term_50.1 kX12 (shR_0 hX) ml_X12_275 cal_X12_step cv_X12_step (hRm rk_X12_term_X12_step) rfl (Nat.le_of_ble_eq_true rfl) (c_X12_step (xl X) (xG X) hX hM ⟨hS.2.2.1, hS.2.1, hS.1, trivial⟩ hq)) (Nat.le_of_ble_eq_true rfl) (Nat.le_of_ble_eq_true rfl) rfl rfl rfl (fun M11 => ?_)
        refine i_goto (tgt := 10) C dX12_term_53 (by decide) ?_
        exact i_sub [0, 1] rfl (ih  M11)
      · refine i_iconst C dX12_term_45 kI_0 ?_
        exact i_zret C hq dX12_term_46 (Or.inl rfl)
    refine i_if_ne (tgt := 28) C dX12_term_16 (by decide) ?_ ?_
    · exact (hj5  M3)
    · refine i_aload_n C dX12_term_19 rfl (q := 0) rfl ?_
      refine i_bipush C dX12_term_20 kB_47 ?_
      refine i_cI (kc' := 0) (ks' := 0) 0 0 2 (fun q hq hM hS => crV C (as := [aI 47]) dX12_term_22.1 kX12 (shR_0 hX) ml_X12_269 cal_X12_isSign cv_X12_isSign (hRm rk_X12_term_X12_isSign) rfl (Nat.le_of_ble_eq_true rfl) (c_X12_isSign (xl X) (xG X) hX hM ⟨hS.2.1, hS.1, trivial⟩ hq)) (Nat.le_of_ble_eq_true rfl) (Nat.le_of_ble_eq_true rfl) rfl rfl rfl (fun v13 M12 => ?_)
      refine i_if_eq (tgt := 56) C dX12_term_25 (by decide) ?_ ?_
      · refine i_iconst C dX12_term_56 kI_1 ?_
        exact i_zret C hq dX12_term_57 (Or.inr rfl)
      · exact (hj5  M12)
set_option maxRecDepth 100000 in
set_option maxHeartbeats 4000000 in
theorem c_X12_term (l : Launch) (G : Gx) {K : Kx} (hK : K = kR) {x1 : Int} {rc : Int → Mem → Option (Int × Mem)} {d : Nat} (hrc : RcX12_part0 l G K rc d) {M : Mem} {res : Int × Mem} (hM : OkM M) (ha : okS [aR 0, aI x1]) (hF : rM_term rc x1 M = some res) : Ct l G K yX12_term (wsM yX12_term cX12_term 3 (some .boolean)) (rmX12_term d) [aR 0, aI x1] M (some (aI res.1)) res.2 := by
  refine ct_of RX12 (by decide +kernel) rfl (hK ▸ kR_ok) hM ha (Nat.le_of_ble_eq_true rfl) hF ?_
  intro X C hl hG hX0 hN hR hq
  have hX : xK X = kR := hX0.trans hK
  have hrc : RcX12_part0 (xl X) (xG X) (xK X) rc d := by rw [hl, hG, hX0]; exact hrc
  show Im X 0 0 0 [(0, aR 0), (1, aI x1)] [] M res (rM_term rc x1 M)
  unfold rM_term
  have hl2 : 2 < xn X := by rw [hN]; decide
  have hRm : ∀ {rm : Room} {ny : Nat}, RmOk (rmX12_term d) rm ny → RmOk (xR X) rm ny := fun h => by rw [hR]; exact h
  refine i_aload_n C dX12_term_0 rfl (q := 0) rfl ?_
  refine i_iload_n C dX12_term_1 rfl (q := 1) rfl ?_
  refine i_cI (kc' := 0) (ks' := 0) 0 0 2 (fun q hq hM hS => crV C (as := [aI x1]) dX12_term_2.1 kX12 (shR_0 hX) ml_X12_287 cal_X12_part0 cv_X12_part0 (hRm rk_X12_term_X12_part0) rfl (Nat.le_of_ble_eq_true rfl) (hrc _ _ _ hM ⟨hS.2.1, hS.1, trivial⟩ hq)) (Nat.le_of_ble_eq_true rfl) (Nat.le_of_ble_eq_true rfl) rfl rfl rfl (fun v2 M1 => ?_)
  refine i_if_ne (tgt := 10) C dX12_term_5 (by decide) ?_ ?_
  · exact (w_X12_term_10 C hX hN hR hrc hq x1 FU M1)
  · refine i_iconst C dX12_term_8 kI_0 ?_
    exact i_zret C hq dX12_term_9 (Or.inl rfl)
set_option maxRecDepth 100000 in
set_option maxHeartbeats 4000000 in
theorem w_X12_sum_10 {X : Xc} {rc : Int → Mem → Option (Int × Mem)} {d : Nat} (C : Cx X RX12 cX12_sum (some .boolean)) (hX : xK X = kR) (hN : xn X = 3) (hR : xR X = (rmX12_sum d)) (hrc : RcX12_part0 (xl X) (xG X) (xK X) rc d) {res : Int × Mem} (hq : Rq X (some (aI res.1)) res.2) (y1 : Int) : ∀ (n : Nat) (M : Mem), Im X 0 0 10 [(0, aR 0), (1, aI y1)] [] M res (lpX12_sum_10 rc y1 n M) := by
  have hl2 : 2 < xn X := by rw [hN]; decide
  have hRm : ∀ {rm : Room} {ny : Nat}, RmOk (rmX12_sum d) rm ny → RmOk (xR X) rm ny := fun h => by rw [hR]; exact h
  intro n
  induction n with
  | zero => intro _; exact i_none
  | succ n ih =>
    intro M
    unfold lpX12_sum_10
    refine i_aload_n C dX12_sum_10 rfl (q := 0) rfl ?_
    refine i_bipush C dX12_sum_11 kB_43 ?_
    refine i_cI (kc' := 0) (ks' := 0) 0 0 2 (fun q hq hM hS => crV C (as := [aI 43]) dX12_sum_13.1 kX12 (shR_0 hX) ml_X12_269 cal_X12_isSign cv_X12_isSign (hRm rk_X12_sum_X12_isSign) rfl (Nat.le_of_ble_eq_true rfl) (c_X12_isSign (xl X) (xG X) hX hM ⟨hS.2.1, hS.1, trivial⟩ hq)) (Nat.le_of_ble_eq_true rfl) (Nat.le_of_ble_eq_true rfl) rfl rfl rfl (fun v4 M3 => ?_)
    refine i_jn (fun j => ∀  (M6 : Mem), Im X 0 0 28 [(0, aR 0), (1, aI y1)] [] M6 res (j  M6)) ?_ (fun j5 hj5 => ?_)
    · intro  M6
      refine i_aload_n C dX12_sum_28 rfl (q := 0) rfl ?_
      refine i_getI C (k := 14) kX12 dX12_sum_29 (shR_0 hX) rfl (by decide) fl_X12_243 rfl ?_
      refine i_nm (fun v7 => ?_)
      refine i_istore_n C dX12_sum_32 rfl hl2 (L' := [(0, aR 0), (1, aI y1), (2, aI v7)]) rfl ?_
      refine i_aload_n C dX12_sum_33 rfl (q := 0) rfl ?_
      refine i_cV (kc' := 0) (ks' := 0) 0 0 1 (fun q hq hM hS => crV C (as := []) dX12_sum_34.1 kX12 (shR_0 hX) ml_X12_272 cal_X12_next cv_X12_next (hRm rk_X12_sum_X12_next) rfl (Nat.le_of_ble_eq_true rfl) (c_X12_next (xl X) (xG X) hX hM ⟨hS.1, trivial⟩ hq)) (Nat.le_of_ble_eq_true rfl) (Nat.le_of_ble_eq_true rfl) rfl rfl rfl (fun M8 => ?_)
      refine i_aload_n C dX12_sum_37 rfl (q := 0) rfl ?_
      refine i_iload_n C dX12_sum_38 rfl (q := 1) rfl ?_
      refine i_cI (kc' := 0) (ks' := 0) 0 0 2 (fun q hq hM hS => crV C (as := [aI y1]) dX12_sum_39.1 kX12 (shR_0 hX) ml_X12_284 cal_X12_term cv_X12_term (hRm rk_X12_sum_X12_term) rfl (Nat.le_of_ble_eq_true rfl) (c_X12_term (xl X) (xG X) hX hrc hM ⟨hS.2.1, hS.1, trivial⟩ hq)) (Nat.le_of_ble_eq_true rfl) (Nat.le_of_ble_eq_true rfl) rfl rfl rfl (fun v10 M9 => ?_)
      refine i_if_ne (tgt := 47) C dX12_sum_42 (by decide) ?_ ?_
      · refine i_aload_n C dX12_sum_47 rfl (q := 0) rfl ?_
        refine i_iconst C dX12_sum_48 kI_2 ?_
        refine i_iload_n C dX12_sum_49 rfl (q := 2) rfl ?_
        refine i_cV (kc' := 0) (ks' := 0) 0 0 3 (fun q hq hM hS => crV C (as := [aI 2, aI v7]) dX12_sum_50.1 kX12 (shR_0 hX) ml_X12_275 cal_X12_step cv_X12_step (hRm rk_X12_sum_X12_step) rfl (Nat.le_of_ble_eq_true rfl) (c_X12_step (xl X) (xG X) hX hM ⟨hS.2.2.1, hS.2.1, hS.1, trivial⟩ hq)) (Nat.le_of_ble_eq_true rfl) (Nat.le_of_ble_eq_true rfl) rfl rfl rfl (fun M11 => ?_)
        refine i_goto (tgt := 10) C dX12_sum_53 (by decide) ?_
        exact i_sub [0, 1] rfl (ih  M11)
      · refine i_iconst C dX12_sum_45 kI_0 ?_
        exact i_zret C hq dX12_sum_46 (Or.inl rfl)
    refine i_if_ne (tgt := 28) C dX12_sum_16 (by decide) ?_ ?_
    · exact (hj5  M3)
    · refine i_aload_n C dX12_sum_19 rfl (q := 0) rfl ?_
      refine i_bipush C dX12_sum_20 kB_45 ?_
      refine i_cI (kc' := 0) (ks' := 0) 0 0 2 (fun q hq hM hS => crV C (as := [aI 45]) dX12_sum_22.1 kX12 (shR_0 hX) ml_X12_269 cal_X12_isSign cv_X12_isSign (hRm rk_X12_sum_X12_isSign) rfl (Nat.le_of_ble_eq_true rfl) (c_X12_isSign (xl X) (xG X) hX hM ⟨hS.2.1, hS.1, trivial⟩ hq)) (Nat.le_of_ble_eq_true rfl) (Nat.le_of_ble_eq_true rfl) rfl rfl rfl (fun v13 M12 => ?_)
      refine i_if_eq (tgt := 56) C dX12_sum_25 (by decide) ?_ ?_
      · refine i_iconst C dX12_sum_56 kI_1 ?_
        exact i_zret C hq dX12_sum_57 (Or.inr rfl)
      · exact (hj5  M12)
set_option maxRecDepth 100000 in
set_option maxHeartbeats 4000000 in
theorem c_X12_sum (l : Launch) (G : Gx) {K : Kx} (hK : K = kR) {x1 : Int} {rc : Int → Mem → Option (Int × Mem)} {d : Nat} (hrc : RcX12_part0 l G K rc d) {M : Mem} {res : Int × Mem} (hM : OkM M) (ha : okS [aR 0, aI x1]) (hF : rM_sum rc x1 M = some res) : Ct l G K yX12_sum (wsM yX12_sum cX12_sum 3 (some .boolean)) (rmX12_sum d) [aR 0, aI x1] M (some (aI res.1)) res.2 := by
  refine ct_of RX12 (by decide +kernel) rfl (hK ▸ kR_ok) hM ha (Nat.le_of_ble_eq_true rfl) hF ?_
  intro X C hl hG hX0 hN hR hq
  have hX : xK X = kR := hX0.trans hK
  have hrc : RcX12_part0 (xl X) (xG X) (xK X) rc d := by rw [hl, hG, hX0]; exact hrc
  show Im X 0 0 0 [(0, aR 0), (1, aI x1)] [] M res (rM_sum rc x1 M)
  unfold rM_sum
  have hl2 : 2 < xn X := by rw [hN]; decide
  have hRm : ∀ {rm : Room} {ny : Nat}, RmOk (rmX12_sum d) rm ny → RmOk (xR X) rm ny := fun h => by rw [hR]; exact h
  refine i_aload_n C dX12_sum_0 rfl (q := 0) rfl ?_
  refine i_iload_n C dX12_sum_1 rfl (q := 1) rfl ?_
  refine i_cI (kc' := 0) (ks' := 0) 0 0 2 (fun q hq hM hS => crV C (as := [aI x1]) dX12_sum_2.1 kX12 (shR_0 hX) ml_X12_284 cal_X12_term cv_X12_term (hRm rk_X12_sum_X12_term) rfl (Nat.le_of_ble_eq_true rfl) (c_X12_term (xl X) (xG X) hX hrc hM ⟨hS.2.1, hS.1, trivial⟩ hq)) (Nat.le_of_ble_eq_true rfl) (Nat.le_of_ble_eq_true rfl) rfl rfl rfl (fun v2 M1 => ?_)
  refine i_if_ne (tgt := 10) C dX12_sum_5 (by decide) ?_ ?_
  · exact (w_X12_sum_10 C hX hN hR hrc hq x1 FU M1)
  · refine i_iconst C dX12_sum_8 kI_0 ?_
    exact i_zret C hq dX12_sum_9 (Or.inl rfl)
set_option maxRecDepth 100000 in
set_option maxHeartbeats 4000000 in
theorem c_X12_test (l : Launch) (G : Gx) {K : Kx} (hK : K = kR) {x1 : Int} {rc : Int → Mem → Option (Int × Mem)} {d : Nat} (hrc : RcX12_part0 l G K rc d) {M : Mem} {res : Int × Mem} (hM : OkM M) (ha : okS [aR 0, aI x1]) (hF : rM_test rc x1 M = some res) : Ct l G K yX12_test (wsM yX12_test cX12_test 3 (some .boolean)) (rmX12_test d) [aR 0, aI x1] M (some (aI res.1)) res.2 := by
  refine ct_of RX12 (by decide +kernel) rfl (hK ▸ kR_ok) hM ha (Nat.le_of_ble_eq_true rfl) hF ?_
  intro X C hl hG hX0 hN hR hq
  have hX : xK X = kR := hX0.trans hK
  have hrc : RcX12_part0 (xl X) (xG X) (xK X) rc d := by rw [hl, hG, hX0]; exact hrc
  show Im X 0 0 0 [(0, aR 0), (1, aI x1)] [] M res (rM_test rc x1 M)
  unfold rM_test
  have hl2 : 2 < xn X := by rw [hN]; decide
  have hRm : ∀ {rm : Room} {ny : Nat}, RmOk (rmX12_test d) rm ny → RmOk (xR X) rm ny := fun h => by rw [hR]; exact h
  refine i_aload_n C dX12_test_0 rfl (q := 0) rfl ?_
  refine i_iload_n C dX12_test_1 rfl (q := 1) rfl ?_
  refine i_cI (kc' := 0) (ks' := 0) 0 0 2 (fun q hq hM hS => crV C (as := [aI x1]) dX12_test_2.1 kX12 (shR_0 hX) ml_X12_281 cal_X12_sum cv_X12_sum (hRm rk_X12_test_X12_sum) rfl (Nat.le_of_ble_eq_true rfl) (c_X12_sum (xl X) (xG X) hX hrc hM ⟨hS.2.1, hS.1, trivial⟩ hq)) (Nat.le_of_ble_eq_true rfl) (Nat.le_of_ble_eq_true rfl) rfl rfl rfl (fun v2 M1 => ?_)
  refine i_if_ne (tgt := 10) C dX12_test_5 (by decide) ?_ ?_
  · refine i_aload_n C dX12_test_10 rfl (q := 0) rfl ?_
    refine i_bipush C dX12_test_11 kB_60 ?_
    refine i_cI (kc' := 0) (ks' := 0) 0 0 2 (fun q hq hM hS => crV C (as := [aI 60]) dX12_test_13.1 kX12 (shR_0 hX) ml_X12_269 cal_X12_isSign cv_X12_isSign (hRm rk_X12_test_X12_isSign) rfl (Nat.le_of_ble_eq_true rfl) (c_X12_isSign (xl X) (xG X) hX hM ⟨hS.2.1, hS.1, trivial⟩ hq)) (Nat.le_of_ble_eq_true rfl) (Nat.le_of_ble_eq_true rfl) rfl rfl rfl (fun v4 M3 => ?_)
    refine i_jn (fun j => ∀  (M6 : Mem), Im X 0 0 37 [(0, aR 0), (1, aI x1)] [] M6 res (j  M6)) ?_ (fun j5 hj5 => ?_)
    · intro  M6
      refine i_aload_n C dX12_test_37 rfl (q := 0) rfl ?_
      refine i_getI C (k := 14) kX12 dX12_test_38 (shR_0 hX) rfl (by decide) fl_X12_243 rfl ?_
      refine i_nm (fun v7 => ?_)
      refine i_istore_n C dX12_test_41 rfl hl2 (L' := [(0, aR 0), (1, aI x1), (2, aI v7)]) rfl ?_
      refine i_aload_n C dX12_test_42 rfl (q := 0) rfl ?_
      refine i_cV (kc' := 0) (ks' := 0) 0 0 1 (fun q hq hM hS => crV C (as := []) dX12_test_43.1 kX12 (shR_0 hX) ml_X12_272 cal_X12_next cv_X12_next (hRm rk_X12_test_X12_next) rfl (Nat.le_of_ble_eq_true rfl) (c_X12_next (xl X) (xG X) hX hM ⟨hS.1, trivial⟩ hq)) (Nat.le_of_ble_eq_true rfl) (Nat.le_of_ble_eq_true rfl) rfl rfl rfl (fun M8 => ?_)
      refine i_aload_n C dX12_test_46 rfl (q := 0) rfl ?_
      refine i_iload_n C dX12_test_47 rfl (q := 1) rfl ?_
      refine i_cI (kc' := 0) (ks' := 0) 0 0 2 (fun q hq hM hS => crV C (as := [aI x1]) dX12_test_48.1 kX12 (shR_0 hX) ml_X12_281 cal_X12_sum cv_X12_sum (hRm rk_X12_test_X12_sum) rfl (Nat.le_of_ble_eq_true rfl) (c_X12_sum (xl X) (xG X) hX hrc hM ⟨hS.2.1, hS.1, trivial⟩ hq)) (Nat.le_of_ble_eq_true rfl) (Nat.le_of_ble_eq_true rfl) rfl rfl rfl (fun v10 M9 => ?_)
      refine i_if_ne (tgt := 56) C dX12_test_51 (by decide) ?_ ?_
      · refine i_aload_n C dX12_test_56 rfl (q := 0) rfl ?_
        refine i_iconst C dX12_test_57 kI_2 ?_
        refine i_iload_n C dX12_test_58 rfl (q := 2) rfl ?_
        refine i_cV (kc' := 0) (ks' := 0) 0 0 3 (fun q hq hM hS => crV C (as := [aI 2, aI v7]) dX12_test_59.1 kX12 (shR_0 hX) ml_X12_275 cal_X12_step cv_X12_step (hRm rk_X12_test_X12_step) rfl (Nat.le_of_ble_eq_true rfl) (c_X12_step (xl X) (xG X) hX hM ⟨hS.2.2.1, hS.2.1, hS.1, trivial⟩ hq)) (Nat.le_of_ble_eq_true rfl) (Nat.le_of_ble_eq_true rfl) rfl rfl rfl (fun M11 => ?_)
        refine i_iconst C dX12_test_62 kI_1 ?_
        exact i_zret C hq dX12_test_63 (Or.inr rfl)
      · refine i_iconst C dX12_test_54 kI_0 ?_
        exact i_zret C hq dX12_test_55 (Or.inl rfl)
    refine i_if_ne (tgt := 37) C dX12_test_16 (by decide) ?_ ?_
    · exact (hj5  M3)
    · refine i_aload_n C dX12_test_19 rfl (q := 0) rfl ?_
      refine i_bipush C dX12_test_20 kB_61 ?_
      refine i_cI (kc' := 0) (ks' := 0) 0 0 2 (fun q hq hM hS => crV C (as := [aI 61]) dX12_test_22.1 kX12 (shR_0 hX) ml_X12_269 cal_X12_isSign cv_X12_isSign (hRm rk_X12_test_X12_isSign) rfl (Nat.le_of_ble_eq_true rfl) (c_X12_isSign (xl X) (xG X) hX hM ⟨hS.2.1, hS.1, trivial⟩ hq)) (Nat.le_of_ble_eq_true rfl) (Nat.le_of_ble_eq_true rfl) rfl rfl rfl (fun v13 M12 => ?_)
      refine i_if_ne (tgt := 37) C dX12_test_25 (by decide) ?_ ?_
      · exact (hj5  M12)
      · refine i_aload_n C dX12_test_28 rfl (q := 0) rfl ?_
        refine i_bipush C dX12_test_29 kB_62 ?_
        refine i_cI (kc' := 0) (ks' := 0) 0 0 2 (fun q hq hM hS => crV C (as := [aI 62]) dX12_test_31.1 kX12 (shR_0 hX) ml_X12_269 cal_X12_isSign cv_X12_isSign (hRm rk_X12_test_X12_isSign) rfl (Nat.le_of_ble_eq_true rfl) (c_X12_isSign (xl X) (xG X) hX hM ⟨hS.2.1, hS.1, trivial⟩ hq)) (Nat.le_of_ble_eq_true rfl) (Nat.le_of_ble_eq_true rfl) rfl rfl rfl (fun v15 M14 => ?_)
        refine i_if_eq (tgt := 62) C dX12_test_34 (by decide) ?_ ?_
        · refine i_iconst C dX12_test_62 kI_1 ?_
          exact i_zret C hq dX12_test_63 (Or.inr rfl)
        · exact (hj5  M14)
  · refine i_iconst C dX12_test_8 kI_0 ?_
    exact i_zret C hq dX12_test_9 (Or.inl rfl)
set_option maxRecDepth 100000 in
set_option maxHeartbeats 4000000 in
theorem w_X12_both_10 {X : Xc} {rc : Int → Mem → Option (Int × Mem)} {d : Nat} (C : Cx X RX12 cX12_both (some .boolean)) (hX : xK X = kR) (hN : xn X = 2) (hR : xR X = (rmX12_both d)) (hrc : RcX12_part0 (xl X) (xG X) (xK X) rc d) {res : Int × Mem} (hq : Rq X (some (aI res.1)) res.2) (y1 : Int) : ∀ (n : Nat) (M : Mem), Im X 0 0 10 [(0, aR 0), (1, aI y1)] [] M res (lpX12_both_10 rc y1 n M) := by
  have hRm : ∀ {rm : Room} {ny : Nat}, RmOk (rmX12_both d) rm ny → RmOk (xR X) rm ny := fun h => by rw [hR]; exact h
  intro n
  induction n with
  | zero => intro _; exact i_none
  | succ n ih =>
    intro M
    unfold lpX12_both_10
    refine i_aload_n C dX12_both_10 rfl (q := 0) rfl ?_
    refine i_bipush C dX12_both_11 kB_38 ?_
    refine i_cI (kc' := 0) (ks' := 0) 0 0 2 (fun q hq hM hS => crV C (as := [aI 38]) dX12_both_13.1 kX12 (shR_0 hX) ml_X12_269 cal_X12_isSign cv_X12_isSign (hRm rk_X12_both_X12_isSign) rfl (Nat.le_of_ble_eq_true rfl) (c_X12_isSign (xl X) (xG X) hX hM ⟨hS.2.1, hS.1, trivial⟩ hq)) (Nat.le_of_ble_eq_true rfl) (Nat.le_of_ble_eq_true rfl) rfl rfl rfl (fun v4 M3 => ?_)
    refine i_if_eq (tgt := 43) C dX12_both_16 (by decide) ?_ ?_
    · refine i_iconst C dX12_both_43 kI_1 ?_
      exact i_zret C hq dX12_both_44 (Or.inr rfl)
    · refine i_aload_n C dX12_both_19 rfl (q := 0) rfl ?_
      refine i_cV (kc' := 0) (ks' := 0) 0 0 1 (fun q hq hM hS => crV C (as := []) dX12_both_20.1 kX12 (shR_0 hX) ml_X12_272 cal_X12_next cv_X12_next (hRm rk_X12_both_X12_next) rfl (Nat.le_of_ble_eq_true rfl) (c_X12_next (xl X) (xG X) hX hM ⟨hS.1, trivial⟩ hq)) (Nat.le_of_ble_eq_true rfl) (Nat.le_of_ble_eq_true rfl) rfl rfl rfl (fun M5 => ?_)
      refine i_aload_n C dX12_both_23 rfl (q := 0) rfl ?_
      refine i_iload_n C dX12_both_24 rfl (q := 1) rfl ?_
      refine i_cI (kc' := 0) (ks' := 0) 0 0 2 (fun q hq hM hS => crV C (as := [aI y1]) dX12_both_25.1 kX12 (shR_0 hX) ml_X12_278 cal_X12_test cv_X12_test (hRm rk_X12_both_X12_test) rfl (Nat.le_of_ble_eq_true rfl) (c_X12_test (xl X) (xG X) hX hrc hM ⟨hS.2.1, hS.1, trivial⟩ hq)) (Nat.le_of_ble_eq_true rfl) (Nat.le_of_ble_eq_true rfl) rfl rfl rfl (fun v7 M6 => ?_)
      refine i_if_ne (tgt := 33) C dX12_both_28 (by decide) ?_ ?_
      · refine i_aload_n C dX12_both_33 rfl (q := 0) rfl ?_
        refine i_iconst C dX12_both_34 kI_2 ?_
        refine i_bipush C dX12_both_35 kB_38 ?_
        refine i_cV (kc' := 0) (ks' := 0) 0 0 3 (fun q hq hM hS => crV C (as := [aI 2, aI 38]) dX12_both_37.1 kX12 (shR_0 hX) ml_X12_275 cal_X12_step cv_X12_step (hRm rk_X12_both_X12_step) rfl (Nat.le_of_ble_eq_true rfl) (c_X12_step (xl X) (xG X) hX hM ⟨hS.2.2.1, hS.2.1, hS.1, trivial⟩ hq)) (Nat.le_of_ble_eq_true rfl) (Nat.le_of_ble_eq_true rfl) rfl rfl rfl (fun M8 => ?_)
        refine i_goto (tgt := 10) C dX12_both_40 (by decide) ?_
        exact (ih  M8)
      · refine i_iconst C dX12_both_31 kI_0 ?_
        exact i_zret C hq dX12_both_32 (Or.inl rfl)
set_option maxRecDepth 100000 in
set_option maxHeartbeats 4000000 in
theorem c_X12_both (l : Launch) (G : Gx) {K : Kx} (hK : K = kR) {x1 : Int} {rc : Int → Mem → Option (Int × Mem)} {d : Nat} (hrc : RcX12_part0 l G K rc d) {M : Mem} {res : Int × Mem} (hM : OkM M) (ha : okS [aR 0, aI x1]) (hF : rM_both rc x1 M = some res) : Ct l G K yX12_both (wsM yX12_both cX12_both 2 (some .boolean)) (rmX12_both d) [aR 0, aI x1] M (some (aI res.1)) res.2 := by
  refine ct_of RX12 (by decide +kernel) rfl (hK ▸ kR_ok) hM ha (Nat.le_of_ble_eq_true rfl) hF ?_
  intro X C hl hG hX0 hN hR hq
  have hX : xK X = kR := hX0.trans hK
  have hrc : RcX12_part0 (xl X) (xG X) (xK X) rc d := by rw [hl, hG, hX0]; exact hrc
  show Im X 0 0 0 [(0, aR 0), (1, aI x1)] [] M res (rM_both rc x1 M)
  unfold rM_both
  have hRm : ∀ {rm : Room} {ny : Nat}, RmOk (rmX12_both d) rm ny → RmOk (xR X) rm ny := fun h => by rw [hR]; exact h
  refine i_aload_n C dX12_both_0 rfl (q := 0) rfl ?_
  refine i_iload_n C dX12_both_1 rfl (q := 1) rfl ?_
  refine i_cI (kc' := 0) (ks' := 0) 0 0 2 (fun q hq hM hS => crV C (as := [aI x1]) dX12_both_2.1 kX12 (shR_0 hX) ml_X12_278 cal_X12_test cv_X12_test (hRm rk_X12_both_X12_test) rfl (Nat.le_of_ble_eq_true rfl) (c_X12_test (xl X) (xG X) hX hrc hM ⟨hS.2.1, hS.1, trivial⟩ hq)) (Nat.le_of_ble_eq_true rfl) (Nat.le_of_ble_eq_true rfl) rfl rfl rfl (fun v2 M1 => ?_)
  refine i_if_ne (tgt := 10) C dX12_both_5 (by decide) ?_ ?_
  · exact (w_X12_both_10 C hX hN hR hrc hq x1 FU M1)
  · refine i_iconst C dX12_both_8 kI_0 ?_
    exact i_zret C hq dX12_both_9 (Or.inl rfl)
set_option maxRecDepth 100000 in
set_option maxHeartbeats 4000000 in
theorem w_X12_either_10 {X : Xc} {rc : Int → Mem → Option (Int × Mem)} {d : Nat} (C : Cx X RX12 cX12_either (some .boolean)) (hX : xK X = kR) (hN : xn X = 2) (hR : xR X = (rmX12_either d)) (hrc : RcX12_part0 (xl X) (xG X) (xK X) rc d) {res : Int × Mem} (hq : Rq X (some (aI res.1)) res.2) (y1 : Int) : ∀ (n : Nat) (M : Mem), Im X 0 0 10 [(0, aR 0), (1, aI y1)] [] M res (lpX12_either_10 rc y1 n M) := by
  have hRm : ∀ {rm : Room} {ny : Nat}, RmOk (rmX12_either d) rm ny → RmOk (xR X) rm ny := fun h => by rw [hR]; exact h
  intro n
  induction n with
  | zero => intro _; exact i_none
  | succ n ih =>
    intro M
    unfold lpX12_either_10
    refine i_aload_n C dX12_either_10 rfl (q := 0) rfl ?_
    refine i_bipush C dX12_either_11 kB_124 ?_
    refine i_cI (kc' := 0) (ks' := 0) 0 0 2 (fun q hq hM hS => crV C (as := [aI 124]) dX12_either_13.1 kX12 (shR_0 hX) ml_X12_269 cal_X12_isSign cv_X12_isSign (hRm rk_X12_either_X12_isSign) rfl (Nat.le_of_ble_eq_true rfl) (c_X12_isSign (xl X) (xG X) hX hM ⟨hS.2.1, hS.1, trivial⟩ hq)) (Nat.le_of_ble_eq_true rfl) (Nat.le_of_ble_eq_true rfl) rfl rfl rfl (fun v4 M3 => ?_)
    refine i_if_eq (tgt := 43) C dX12_either_16 (by decide) ?_ ?_
    · refine i_iconst C dX12_either_43 kI_1 ?_
      exact i_zret C hq dX12_either_44 (Or.inr rfl)
    · refine i_aload_n C dX12_either_19 rfl (q := 0) rfl ?_
      refine i_cV (kc' := 0) (ks' := 0) 0 0 1 (fun q hq hM hS => crV C (as := []) dX12_either_20.1 kX12 (shR_0 hX) ml_X12_272 cal_X12_next cv_X12_next (hRm rk_X12_either_X12_next) rfl (Nat.le_of_ble_eq_true rfl) (c_X12_next (xl X) (xG X) hX hM ⟨hS.1, trivial⟩ hq)) (Nat.le_of_ble_eq_true rfl) (Nat.le_of_ble_eq_true rfl) rfl rfl rfl (fun M5 => ?_)
      refine i_aload_n C dX12_either_23 rfl (q := 0) rfl ?_
      refine i_iload_n C dX12_either_24 rfl (q := 1) rfl ?_
      refine i_cI (kc' := 0) (ks' := 0) 0 0 2 (fun q hq hM hS => crV C (as := [aI y1]) dX12_either_25.1 kX12 (shR_0 hX) ml_X12_266 cal_X12_both cv_X12_both (hRm rk_X12_either_X12_both) rfl (Nat.le_of_ble_eq_true rfl) (c_X12_both (xl X) (xG X) hX hrc hM ⟨hS.2.1, hS.1, trivial⟩ hq)) (Nat.le_of_ble_eq_true rfl) (Nat.le_of_ble_eq_true rfl) rfl rfl rfl (fun v7 M6 => ?_)
      refine i_if_ne (tgt := 33) C dX12_either_28 (by decide) ?_ ?_
      · refine i_aload_n C dX12_either_33 rfl (q := 0) rfl ?_
        refine i_iconst C dX12_either_34 kI_2 ?_
        refine i_bipush C dX12_either_35 kB_124 ?_
        refine i_cV (kc' := 0) (ks' := 0) 0 0 3 (fun q hq hM hS => crV C (as := [aI 2, aI 124]) dX12_either_37.1 kX12 (shR_0 hX) ml_X12_275 cal_X12_step cv_X12_step (hRm rk_X12_either_X12_step) rfl (Nat.le_of_ble_eq_true rfl) (c_X12_step (xl X) (xG X) hX hM ⟨hS.2.2.1, hS.2.1, hS.1, trivial⟩ hq)) (Nat.le_of_ble_eq_true rfl) (Nat.le_of_ble_eq_true rfl) rfl rfl rfl (fun M8 => ?_)
        refine i_goto (tgt := 10) C dX12_either_40 (by decide) ?_
        exact (ih  M8)
      · refine i_iconst C dX12_either_31 kI_0 ?_
        exact i_zret C hq dX12_either_32 (Or.inl rfl)
set_option maxRecDepth 100000 in
set_option maxHeartbeats 4000000 in
theorem c_X12_either (l : Launch) (G : Gx) {K : Kx} (hK : K = kR) {x1 : Int} {rc : Int → Mem → Option (Int × Mem)} {d : Nat} (hrc : RcX12_part0 l G K rc d) {M : Mem} {res : Int × Mem} (hM : OkM M) (ha : okS [aR 0, aI x1]) (hF : rM_either rc x1 M = some res) : Ct l G K yX12_either (wsM yX12_either cX12_either 2 (some .boolean)) (rmX12_either d) [aR 0, aI x1] M (some (aI res.1)) res.2 := by
  refine ct_of RX12 (by decide +kernel) rfl (hK ▸ kR_ok) hM ha (Nat.le_of_ble_eq_true rfl) hF ?_
  intro X C hl hG hX0 hN hR hq
  have hX : xK X = kR := hX0.trans hK
  have hrc : RcX12_part0 (xl X) (xG X) (xK X) rc d := by rw [hl, hG, hX0]; exact hrc
  show Im X 0 0 0 [(0, aR 0), (1, aI x1)] [] M res (rM_either rc x1 M)
  unfold rM_either
  have hRm : ∀ {rm : Room} {ny : Nat}, RmOk (rmX12_either d) rm ny → RmOk (xR X) rm ny := fun h => by rw [hR]; exact h
  refine i_aload_n C dX12_either_0 rfl (q := 0) rfl ?_
  refine i_iload_n C dX12_either_1 rfl (q := 1) rfl ?_
  refine i_cI (kc' := 0) (ks' := 0) 0 0 2 (fun q hq hM hS => crV C (as := [aI x1]) dX12_either_2.1 kX12 (shR_0 hX) ml_X12_266 cal_X12_both cv_X12_both (hRm rk_X12_either_X12_both) rfl (Nat.le_of_ble_eq_true rfl) (c_X12_both (xl X) (xG X) hX hrc hM ⟨hS.2.1, hS.1, trivial⟩ hq)) (Nat.le_of_ble_eq_true rfl) (Nat.le_of_ble_eq_true rfl) rfl rfl rfl (fun v2 M1 => ?_)
  refine i_if_ne (tgt := 10) C dX12_either_5 (by decide) ?_ ?_
  · exact (w_X12_either_10 C hX hN hR hrc hq x1 FU M1)
  · refine i_iconst C dX12_either_8 kI_0 ?_
    exact i_zret C hq dX12_either_9 (Or.inl rfl)
set_option maxRecDepth 100000 in
set_option maxHeartbeats 4000000 in
theorem c_X12_part0b (l : Launch) (G : Gx) {K : Kx} (hK : K = kR) {x1 : Int} {rc : Int → Mem → Option (Int × Mem)} {d : Nat} (hrc : RcX12_part0 l G K rc d) {M : Mem} {res : Int × Mem} (hM : OkM M) (ha : okS [aR 0, aI x1]) (hF : rM_part0b rc x1 M = some res) : Ct l G K yX12_part0 (wsM yX12_part0 cX12_part0 2 (some .boolean)) (rmX12_part0 (d + 1)) [aR 0, aI x1] M (some (aI res.1)) res.2 := by
  refine ct_of RX12 (by decide +kernel) rfl (hK ▸ kR_ok) hM ha (Nat.le_of_ble_eq_true rfl) hF ?_
  intro X C hl hG hX0 hN hR hq
  have hX : xK X = kR := hX0.trans hK
  have hrc : RcX12_part0 (xl X) (xG X) (xK X) rc d := by rw [hl, hG, hX0]; exact hrc
  show Im X 0 0 0 [(0, aR 0), (1, aI x1)] [] M res (rM_part0b rc x1 M)
  unfold rM_part0b
  have hRm : ∀ {rm : Room} {ny : Nat}, RmOk (rmX12_part0 (d + 1)) rm ny → RmOk (xR X) rm ny := fun h => by rw [hR]; exact h
  refine i_aload_n C dX12_part0_0 rfl (q := 0) rfl ?_
  refine i_getI C (k := 12) kX12 dX12_part0_1 (shR_0 hX) rfl (by decide) fl_X12_234 rfl ?_
  refine i_iconst C dX12_part0_4 kI_2 ?_
  refine i_icmp_ne (tgt := 33) C dX12_part0_5 (by decide) ?_ ?_
  · refine i_aload_n C dX12_part0_33 rfl (q := 0) rfl ?_
    refine i_getI C (k := 12) kX12 dX12_part0_34 (shR_0 hX) rfl (by decide) fl_X12_234 rfl ?_
    refine i_iconst C dX12_part0_37 kI_1 ?_
    refine i_jn (fun j => ∀  (M2 : Mem), Im X 0 0 84 [(0, aR 0), (1, aI x1)] [] M2 res (j  M2)) ?_ (fun j1 hj1 => ?_)
    · intro  M2
      refine i_aload_n C dX12_part0_84 rfl (q := 0) rfl ?_
      refine i_bipush C dX12_part0_85 kB_33 ?_
      refine i_cI (kc' := 0) (ks' := 0) 0 0 2 (fun q hq hM hS => crV C (as := [aI 33]) dX12_part0_87.1 kX12 (shR_0 hX) ml_X12_269 cal_X12_isSign cv_X12_isSign (hRm rk_X12_part0_X12_isSign) rfl (Nat.le_of_ble_eq_true rfl) (c_X12_isSign (xl X) (xG X) hX hM ⟨hS.2.1, hS.1, trivial⟩ hq)) (Nat.le_of_ble_eq_true rfl) (Nat.le_of_ble_eq_true rfl) rfl rfl rfl (fun v4 M3 => ?_)
      refine i_jn (fun j => ∀  (M6 : Mem), Im X 0 0 145 [(0, aR 0), (1, aI x1)] [] M6 res (j  M6)) ?_ (fun j5 hj5 => ?_)
      · intro  M6
        refine i_aload_n C dX12_part0_145 rfl (q := 0) rfl ?_
        refine i_bipush C dX12_part0_146 kB_40 ?_
        refine i_cI (kc' := 0) (ks' := 0) 0 0 2 (fun q hq hM hS => crV C (as := [aI 40]) dX12_part0_148.1 kX12 (shR_0 hX) ml_X12_269 cal_X12_isSign cv_X12_isSign (hRm rk_X12_part0_X12_isSign) rfl (Nat.le_of_ble_eq_true rfl) (c_X12_isSign (xl X) (xG X) hX hM ⟨hS.2.1, hS.1, trivial⟩ hq)) (Nat.le_of_ble_eq_true rfl) (Nat.le_of_ble_eq_true rfl) rfl rfl rfl (fun v8 M7 => ?_)
        refine i_if_eq (tgt := 163) C dX12_part0_151 (by decide) ?_ ?_
        · refine i_iconst C dX12_part0_163 kI_0 ?_
          exact i_zret C hq dX12_part0_164 (Or.inl rfl)
        · refine i_aload_n C dX12_part0_154 rfl (q := 0) rfl ?_
          refine i_getI C (k := 15) kX12 dX12_part0_155 (shR_0 hX) rfl (by decide) fl_X12_299 rfl ?_
          refine i_bipush C dX12_part0_158 kB_8 ?_
          refine i_icmp_ne (tgt := 165) C dX12_part0_160 (by decide) ?_ ?_
          · refine i_aload_n C dX12_part0_165 rfl (q := 0) rfl ?_
            refine i_dup C dX12_part0_166 rfl ?_
            refine i_getI C (k := 15) kX12 dX12_part0_167 (shR_0 hX) rfl (by decide) fl_X12_299 rfl ?_
            refine i_iconst C dX12_part0_170 kI_1 ?_
            refine i_iadd C dX12_part0_171 ?_
            refine i_putI C (k := 15) kX12 dX12_part0_172 (shR_0 hX) rfl (by decide) fl_X12_299 rfl rfl rfl rfl (fun M9 => ?_)
            refine i_aload_n C dX12_part0_175 rfl (q := 0) rfl ?_
            refine i_cV (kc' := 0) (ks' := 0) 0 0 1 (fun q hq hM hS => crV C (as := []) dX12_part0_176.1 kX12 (shR_0 hX) ml_X12_272 cal_X12_next cv_X12_next (hRm rk_X12_part0_X12_next) rfl (Nat.le_of_ble_eq_true rfl) (c_X12_next (xl X) (xG X) hX hM ⟨hS.1, trivial⟩ hq)) (Nat.le_of_ble_eq_true rfl) (Nat.le_of_ble_eq_true rfl) rfl rfl rfl (fun M10 => ?_)
            refine i_aload_n C dX12_part0_179 rfl (q := 0) rfl ?_
            refine i_iload_n C dX12_part0_180 rfl (q := 1) rfl ?_
            refine i_cI (kc' := 0) (ks' := 0) 0 0 2 (fun q hq hM hS => crV C (as := [aI x1]) dX12_part0_181.1 kX12 (shR_0 hX) ml_X12_302 cal_X12_either cv_X12_either (hRm rk_X12_part0_X12_either) rfl (Nat.le_of_ble_eq_true rfl) (c_X12_either (xl X) (xG X) hX hrc hM ⟨hS.2.1, hS.1, trivial⟩ hq)) (Nat.le_of_ble_eq_true rfl) (Nat.le_of_ble_eq_true rfl) rfl rfl rfl (fun v12 M11 => ?_)
            refine i_if_eq (tgt := 196) C dX12_part0_184 (by decide) ?_ ?_
            · refine i_iconst C dX12_part0_196 kI_0 ?_
              exact i_zret C hq dX12_part0_197 (Or.inl rfl)
            · refine i_aload_n C dX12_part0_187 rfl (q := 0) rfl ?_
              refine i_bipush C dX12_part0_188 kB_41 ?_
              refine i_cI (kc' := 0) (ks' := 0) 0 0 2 (fun q hq hM hS => crV C (as := [aI 41]) dX12_part0_190.1 kX12 (shR_0 hX) ml_X12_269 cal_X12_isSign cv_X12_isSign (hRm rk_X12_part0_X12_isSign) rfl (Nat.le_of_ble_eq_true rfl) (c_X12_isSign (xl X) (xG X) hX hM ⟨hS.2.1, hS.1, trivial⟩ hq)) (Nat.le_of_ble_eq_true rfl) (Nat.le_of_ble_eq_true rfl) rfl rfl rfl (fun v14 M13 => ?_)
              refine i_if_ne (tgt := 198) C dX12_part0_193 (by decide) ?_ ?_
              · refine i_aload_n C dX12_part0_198 rfl (q := 0) rfl ?_
                refine i_dup C dX12_part0_199 rfl ?_
                refine i_getI C (k := 15) kX12 dX12_part0_200 (shR_0 hX) rfl (by decide) fl_X12_299 rfl ?_
                refine i_iconst C dX12_part0_203 kI_1 ?_
                refine i_isub C dX12_part0_204 ?_
                refine i_putI C (k := 15) kX12 dX12_part0_205 (shR_0 hX) rfl (by decide) fl_X12_299 rfl rfl rfl rfl (fun M15 => ?_)
                refine i_aload_n C dX12_part0_208 rfl (q := 0) rfl ?_
                refine i_cV (kc' := 0) (ks' := 0) 0 0 1 (fun q hq hM hS => crV C (as := []) dX12_part0_209.1 kX12 (shR_0 hX) ml_X12_272 cal_X12_next cv_X12_next (hRm rk_X12_part0_X12_next) rfl (Nat.le_of_ble_eq_true rfl) (c_X12_next (xl X) (xG X) hX hM ⟨hS.1, trivial⟩ hq)) (Nat.le_of_ble_eq_true rfl) (Nat.le_of_ble_eq_true rfl) rfl rfl rfl (fun M16 => ?_)
                refine i_iconst C dX12_part0_212 kI_1 ?_
                exact i_zret C hq dX12_part0_213 (Or.inr rfl)
              · refine i_iconst C dX12_part0_196 kI_0 ?_
                exact i_zret C hq dX12_part0_197 (Or.inl rfl)
          · refine i_iconst C dX12_part0_163 kI_0 ?_
            exact i_zret C hq dX12_part0_164 (Or.inl rfl)
      refine i_if_eq (tgt := 145) C dX12_part0_90 (by decide) ?_ ?_
      · exact (hj5  M3)
      · refine i_aload_n C dX12_part0_93 rfl (q := 0) rfl ?_
        refine i_getI C (k := 16) kX12 dX12_part0_94 (shR_0 hX) rfl (by decide) fl_X12_296 rfl ?_
        refine i_bipush C dX12_part0_97 kB_8 ?_
        refine i_icmp_ge (tgt := 145) C dX12_part0_99 (by decide) ?_ ?_
        · exact (hj5  M3)
        · refine i_aload_n C dX12_part0_102 rfl (q := 0) rfl ?_
          refine i_dup C dX12_part0_103 rfl ?_
          refine i_getI C (k := 16) kX12 dX12_part0_104 (shR_0 hX) rfl (by decide) fl_X12_296 rfl ?_
          refine i_iconst C dX12_part0_107 kI_1 ?_
          refine i_iadd C dX12_part0_108 ?_
          refine i_putI C (k := 16) kX12 dX12_part0_109 (shR_0 hX) rfl (by decide) fl_X12_296 rfl rfl rfl rfl (fun M17 => ?_)
          refine i_aload_n C dX12_part0_112 rfl (q := 0) rfl ?_
          refine i_cV (kc' := 0) (ks' := 0) 0 0 1 (fun q hq hM hS => crV C (as := []) dX12_part0_113.1 kX12 (shR_0 hX) ml_X12_272 cal_X12_next cv_X12_next (hRm rk_X12_part0_X12_next) rfl (Nat.le_of_ble_eq_true rfl) (c_X12_next (xl X) (xG X) hX hM ⟨hS.1, trivial⟩ hq)) (Nat.le_of_ble_eq_true rfl) (Nat.le_of_ble_eq_true rfl) rfl rfl rfl (fun M18 => ?_)
          refine i_aload_n C dX12_part0_116 rfl (q := 0) rfl ?_
          refine i_iload_n C dX12_part0_117 rfl (q := 1) rfl ?_
          refine i_cI (kc' := 0) (ks' := 0) 0 0 2 (fun q hq hM hS => crV C (as := [aI x1]) dX12_part0_118.1 kX12 (shR_0 hX) ml_X12_287 cal_X12_part0 cv_X12_part0 (hRm rk_X12_part0_X12_part0) rfl (Nat.le_of_ble_eq_true rfl) (hrc _ _ _ hM ⟨hS.2.1, hS.1, trivial⟩ hq)) (Nat.le_of_ble_eq_true rfl) (Nat.le_of_ble_eq_true rfl) rfl rfl rfl (fun v20 M19 => ?_)
          refine i_if_ne (tgt := 126) C dX12_part0_121 (by decide) ?_ ?_
          · refine i_aload_n C dX12_part0_126 rfl (q := 0) rfl ?_
            refine i_dup C dX12_part0_127 rfl ?_
            refine i_getI C (k := 16) kX12 dX12_part0_128 (shR_0 hX) rfl (by decide) fl_X12_296 rfl ?_
            refine i_iconst C dX12_part0_131 kI_1 ?_
            refine i_isub C dX12_part0_132 ?_
            refine i_putI C (k := 16) kX12 dX12_part0_133 (shR_0 hX) rfl (by decide) fl_X12_296 rfl rfl rfl rfl (fun M21 => ?_)
            refine i_aload_n C dX12_part0_136 rfl (q := 0) rfl ?_
            refine i_iconst C dX12_part0_137 kI_2 ?_
            refine i_bipush C dX12_part0_138 kB_33 ?_
            refine i_cV (kc' := 0) (ks' := 0) 0 0 3 (fun q hq hM hS => crV C (as := [aI 2, aI 33]) dX12_part0_140.1 kX12 (shR_0 hX) ml_X12_275 cal_X12_step cv_X12_step (hRm rk_X12_part0_X12_step) rfl (Nat.le_of_ble_eq_true rfl) (c_X12_step (xl X) (xG X) hX hM ⟨hS.2.2.1, hS.2.1, hS.1, trivial⟩ hq)) (Nat.le_of_ble_eq_true rfl) (Nat.le_of_ble_eq_true rfl) rfl rfl rfl (fun M22 => ?_)
            refine i_iconst C dX12_part0_143 kI_1 ?_
            exact i_zret C hq dX12_part0_144 (Or.inr rfl)
          · refine i_iconst C dX12_part0_124 kI_0 ?_
            exact i_zret C hq dX12_part0_125 (Or.inl rfl)
    refine i_icmp_ne (tgt := 84) C dX12_part0_38 (by decide) ?_ ?_
    · exact (hj1  M)
    · refine i_aload_n C dX12_part0_41 rfl (q := 0) rfl ?_
      refine i_getI C (k := 14) kX12 dX12_part0_42 (shR_0 hX) rfl (by decide) fl_X12_243 rfl ?_
      refine i_if_eq (tgt := 84) C dX12_part0_45 (by decide) ?_ ?_
      · exact (hj1  M)
      · refine i_iload_n C dX12_part0_48 rfl (q := 1) rfl ?_
        refine i_aload_n C dX12_part0_49 rfl (q := 0) rfl ?_
        refine i_getI C (k := 14) kX12 dX12_part0_50 (shR_0 hX) rfl (by decide) fl_X12_243 rfl ?_
        refine i_cI (kc' := 0) (ks' := 0) 0 0 2 (fun q hq hM hS => crS C (as := [aI x1, aI (M 0 14)]) dX12_part0_53.1 ml_X12_293 cal_X12_isName st_X12_isName (hRm rk_X12_part0_X12_isName) rfl (Nat.le_of_ble_eq_true rfl) (c_X12_isName (xl X) (xG X) hX hM ⟨hS.2.1, hS.1, trivial⟩ hq)) (Nat.le_of_ble_eq_true rfl) (Nat.le_of_ble_eq_true rfl) rfl rfl rfl (fun v24 M23 => ?_)
        refine i_if_eq (tgt := 84) C dX12_part0_56 (by decide) ?_ ?_
        · exact (hj1  M23)
        · refine i_aload_n C dX12_part0_59 rfl (q := 0) rfl ?_
          refine i_iconst C dX12_part0_60 kI_1 ?_
          refine i_aload_n C dX12_part0_61 rfl (q := 0) rfl ?_
          refine i_getI C (k := 14) kX12 dX12_part0_62 (shR_0 hX) rfl (by decide) fl_X12_243 rfl ?_
          refine i_cV (kc' := 0) (ks' := 0) 0 0 3 (fun q hq hM hS => crV C (as := [aI 1, aI (M23 0 14)]) dX12_part0_65.1 kX12 (shR_0 hX) ml_X12_275 cal_X12_step cv_X12_step (hRm rk_X12_part0_X12_step) rfl (Nat.le_of_ble_eq_true rfl) (c_X12_step (xl X) (xG X) hX hM ⟨hS.2.2.1, hS.2.1, hS.1, trivial⟩ hq)) (Nat.le_of_ble_eq_true rfl) (Nat.le_of_ble_eq_true rfl) rfl rfl rfl (fun M25 => ?_)
          refine i_aload_n C dX12_part0_68 rfl (q := 0) rfl ?_
          refine i_dup C dX12_part0_69 rfl ?_
          refine i_getI C (k := 19) kX12 dX12_part0_70 (shR_0 hX) rfl (by decide) fl_X12_290 rfl ?_
          refine i_iconst C dX12_part0_73 kI_1 ?_
          refine i_iadd C dX12_part0_74 ?_
          refine i_putI C (k := 19) kX12 dX12_part0_75 (shR_0 hX) rfl (by decide) fl_X12_290 rfl rfl rfl rfl (fun M26 => ?_)
          refine i_aload_n C dX12_part0_78 rfl (q := 0) rfl ?_
          refine i_cV (kc' := 0) (ks' := 0) 0 0 1 (fun q hq hM hS => crV C (as := []) dX12_part0_79.1 kX12 (shR_0 hX) ml_X12_272 cal_X12_next cv_X12_next (hRm rk_X12_part0_X12_next) rfl (Nat.le_of_ble_eq_true rfl) (c_X12_next (xl X) (xG X) hX hM ⟨hS.1, trivial⟩ hq)) (Nat.le_of_ble_eq_true rfl) (Nat.le_of_ble_eq_true rfl) rfl rfl rfl (fun M27 => ?_)
          refine i_iconst C dX12_part0_82 kI_1 ?_
          exact i_zret C hq dX12_part0_83 (Or.inr rfl)
  · refine i_aload_n C dX12_part0_8 rfl (q := 0) rfl ?_
    refine i_iconst C dX12_part0_9 kI_0 ?_
    refine i_aload_n C dX12_part0_10 rfl (q := 0) rfl ?_
    refine i_getI C (k := 13) kX12 dX12_part0_11 (shR_0 hX) rfl (by decide) fl_X12_249 rfl ?_
    refine i_cV (kc' := 0) (ks' := 0) 0 0 3 (fun q hq hM hS => crV C (as := [aI 0, aI (M 0 13)]) dX12_part0_14.1 kX12 (shR_0 hX) ml_X12_275 cal_X12_step cv_X12_step (hRm rk_X12_part0_X12_step) rfl (Nat.le_of_ble_eq_true rfl) (c_X12_step (xl X) (xG X) hX hM ⟨hS.2.2.1, hS.2.1, hS.1, trivial⟩ hq)) (Nat.le_of_ble_eq_true rfl) (Nat.le_of_ble_eq_true rfl) rfl rfl rfl (fun M28 => ?_)
    refine i_aload_n C dX12_part0_17 rfl (q := 0) rfl ?_
    refine i_dup C dX12_part0_18 rfl ?_
    refine i_getI C (k := 19) kX12 dX12_part0_19 (shR_0 hX) rfl (by decide) fl_X12_290 rfl ?_
    refine i_iconst C dX12_part0_22 kI_1 ?_
    refine i_iadd C dX12_part0_23 ?_
    refine i_putI C (k := 19) kX12 dX12_part0_24 (shR_0 hX) rfl (by decide) fl_X12_290 rfl rfl rfl rfl (fun M29 => ?_)
    refine i_aload_n C dX12_part0_27 rfl (q := 0) rfl ?_
    refine i_cV (kc' := 0) (ks' := 0) 0 0 1 (fun q hq hM hS => crV C (as := []) dX12_part0_28.1 kX12 (shR_0 hX) ml_X12_272 cal_X12_next cv_X12_next (hRm rk_X12_part0_X12_next) rfl (Nat.le_of_ble_eq_true rfl) (c_X12_next (xl X) (xG X) hX hM ⟨hS.1, trivial⟩ hq)) (Nat.le_of_ble_eq_true rfl) (Nat.le_of_ble_eq_true rfl) rfl rfl rfl (fun M30 => ?_)
    refine i_iconst C dX12_part0_31 kI_1 ?_
    exact i_zret C hq dX12_part0_32 (Or.inr rfl)
theorem c_X12_part0 (l : Launch) (G : Gx) {K : Kx} (hK : K = kR) : ∀ d, RcX12_part0 l G K (fun x1 M => rM_part0 d x1 M) d := by
  intro d
  induction d with
  | zero =>
    intro x1 M res _ _ h
    exact absurd (show (none : Option (Int × Mem)) = some res from h) (by simp)
  | succ d ih =>
    intro x1 M res hM ha hF
    exact c_X12_part0b l G hK  ih hM ha hF
set_option maxRecDepth 100000 in
set_option maxHeartbeats 4000000 in
theorem c_X12_parse (l : Launch) (G : Gx) {K : Kx} (hK : K = kR) {M : Mem} {res : Int × Mem} (hM : OkM M) (ha : okS [aR 0]) (hF : rM_parse M = some res) : Ct l G K yX12_parse (wsM yX12_parse cX12_parse 3 (some .int)) rmX12_parse [aR 0] M (some (aI res.1)) res.2 := by
  refine ct_of RX12 (by decide +kernel) rfl (hK ▸ kR_ok) hM ha (Nat.le_of_ble_eq_true rfl) hF ?_
  intro X C hl hG hX0 hN hR hq
  have hX : xK X = kR := hX0.trans hK
  show Im X 0 0 0 [(0, aR 0)] [] M res (rM_parse  M)
  unfold rM_parse
  have hl1 : 1 < xn X := by rw [hN]; decide
  have hl2 : 2 < xn X := by rw [hN]; decide
  have hRm : ∀ {rm : Room} {ny : Nat}, RmOk rmX12_parse rm ny → RmOk (xR X) rm ny := fun h => by rw [hR]; exact h
  refine i_aload_n C dX12_parse_0 rfl (q := 0) rfl ?_
  refine i_iconst C dX12_parse_1 kI_0 ?_
  refine i_putI C (k := 11) kX12 dX12_parse_2 (shR_0 hX) rfl (by decide) fl_X12_231 rfl rfl rfl rfl (fun M1 => ?_)
  refine i_aload_n C dX12_parse_5 rfl (q := 0) rfl ?_
  refine i_iconst C dX12_parse_6 kI_3 ?_
  refine i_putI C (k := 12) kX12 dX12_parse_7 (shR_0 hX) rfl (by decide) fl_X12_234 rfl rfl rfl rfl (fun M2 => ?_)
  refine i_aload_n C dX12_parse_10 rfl (q := 0) rfl ?_
  refine i_iconst C dX12_parse_11 kI_0 ?_
  refine i_putI C (k := 15) kX12 dX12_parse_12 (shR_0 hX) rfl (by decide) fl_X12_299 rfl rfl rfl rfl (fun M3 => ?_)
  refine i_aload_n C dX12_parse_15 rfl (q := 0) rfl ?_
  refine i_iconst C dX12_parse_16 kI_0 ?_
  refine i_putI C (k := 16) kX12 dX12_parse_17 (shR_0 hX) rfl (by decide) fl_X12_296 rfl rfl rfl rfl (fun M4 => ?_)
  refine i_aload_n C dX12_parse_20 rfl (q := 0) rfl ?_
  refine i_iconst C dX12_parse_21 kI_0 ?_
  refine i_putI C (k := 17) kX12 dX12_parse_22 (shR_0 hX) rfl (by decide) fl_X12_263 rfl rfl rfl rfl (fun M5 => ?_)
  refine i_aload_n C dX12_parse_25 rfl (q := 0) rfl ?_
  refine i_iconst C dX12_parse_26 kI_0 ?_
  refine i_putI C (k := 19) kX12 dX12_parse_27 (shR_0 hX) rfl (by decide) fl_X12_290 rfl rfl rfl rfl (fun M6 => ?_)
  refine i_aload_n C dX12_parse_30 rfl (q := 0) rfl ?_
  refine i_aload_n C dX12_parse_31 rfl (q := 0) rfl ?_
  refine i_getR C (k := 0) kX12 dX12_parse_32 (shR_0 hX) rfl (by decide) fl_X12_7 ?_
  refine i_iconst C dX12_parse_35 kI_4 ?_
  refine i_ald C dX12_parse_36 (shR_1 hX) (fun v7 => ?_)
  refine i_bipush C dX12_parse_37 kB_12 ?_
  refine i_jn (fun j => ∀ (p8 : Int) (M10 : Mem), Im X 0 0 61 [(0, aR 0)] [aI p8, aR 0] M10 res (j p8 M10)) ?_ (fun j9 hj9 => ?_)
  · intro p8 M10
    refine i_putI C (k := 18) kX12 dX12_parse_61 (shR_0 hX) rfl (by decide) fl_X12_260 rfl rfl rfl rfl (fun M11 => ?_)
    refine i_aload_n C dX12_parse_64 rfl (q := 0) rfl ?_
    refine i_cV (kc' := 0) (ks' := 0) 0 0 1 (fun q hq hM hS => crV C (as := []) dX12_parse_65.1 kX12 (shR_0 hX) ml_X12_272 cal_X12_next cv_X12_next (hRm ⟨Nat.le_of_ble_eq_true rfl, Nat.le_of_ble_eq_true rfl⟩) rfl (Nat.le_of_ble_eq_true rfl) (c_X12_next (xl X) (xG X) hX hM ⟨hS.1, trivial⟩ hq)) (Nat.le_of_ble_eq_true rfl) (Nat.le_of_ble_eq_true rfl) rfl rfl rfl (fun M12 => ?_)
    refine i_aload_n C dX12_parse_68 rfl (q := 0) rfl ?_
    refine i_cI (kc' := 0) (ks' := 0) 0 0 1 (fun q hq hM hS => crV C (as := []) dX12_parse_69.1 kX12 (shR_0 hX) ml_X12_308 cal_X12_key cv_X12_key (hRm ⟨Nat.le_of_ble_eq_true rfl, Nat.le_of_ble_eq_true rfl⟩) rfl (Nat.le_of_ble_eq_true rfl) (c_X12_key (xl X) (xG X) hX hM ⟨hS.1, trivial⟩ hq)) (Nat.le_of_ble_eq_true rfl) (Nat.le_of_ble_eq_true rfl) rfl rfl rfl (fun v14 M13 => ?_)
    refine i_istore_n C dX12_parse_72 rfl hl1 (L' := [(0, aR 0), (1, aI v14)]) rfl ?_
    refine i_iload_n C dX12_parse_73 rfl (q := 1) rfl ?_
    refine i_jn (fun j => ∀ (p15 : Int) (M17 : Mem), Im X 0 0 82 [(0, aR 0), (1, aI v14)] [aI p15] M17 res (j p15 M17)) ?_ (fun j16 hj16 => ?_)
    · intro p15 M17
      refine i_istore_n C dX12_parse_82 rfl hl2 (L' := [(0, aR 0), (1, aI v14), (2, aI p15)]) rfl ?_
      refine i_iload_n C dX12_parse_83 rfl (q := 2) rfl ?_
      refine i_jn (fun j => ∀ (p18 : Int) (M20 : Mem), Im X 0 0 112 [(0, aR 0), (1, aI v14), (2, aI p18)] [] M20 res (j p18 M20)) ?_ (fun j19 hj19 => ?_)
      · intro p18 M20
        refine i_aload_n C dX12_parse_112 rfl (q := 0) rfl ?_
        refine i_iconst C dX12_parse_113 kI_0 ?_
        refine i_putI C (k := 9) kX12 dX12_parse_114 (shR_0 hX) rfl (by decide) fl_X12_220 rfl rfl rfl rfl (fun M21 => ?_)
        refine i_iload_n C dX12_parse_117 rfl (q := 2) rfl ?_
        refine i_if_eq (tgt := 125) C dX12_parse_118 (by decide) ?_ ?_
        · refine i_iconst C dX12_parse_125 kI_m1 ?_
          exact i_iret C hq dX12_parse_126
        · refine i_iload_n C dX12_parse_121 rfl (q := 1) rfl ?_
          refine i_goto (tgt := 126) C dX12_parse_122 (by decide) ?_
          exact i_iret C hq dX12_parse_126
      refine i_if_eq (tgt := 112) C dX12_parse_84 (by decide) ?_ ?_
      · exact (hj19 p15 M17)
      · refine i_aload_n C dX12_parse_87 rfl (q := 0) rfl ?_
        refine i_cV (kc' := 0) (ks' := 0) 0 0 1 (fun q hq hM hS => crV C (as := []) dX12_parse_88.1 kX12 (shR_0 hX) ml_X12_272 cal_X12_next cv_X12_next (hRm ⟨Nat.le_of_ble_eq_true rfl, Nat.le_of_ble_eq_true rfl⟩) rfl (Nat.le_of_ble_eq_true rfl) (c_X12_next (xl X) (xG X) hX hM ⟨hS.1, trivial⟩ hq)) (Nat.le_of_ble_eq_true rfl) (Nat.le_of_ble_eq_true rfl) rfl rfl rfl (fun M22 => ?_)
        refine i_aload_n C dX12_parse_91 rfl (q := 0) rfl ?_
        refine i_iload_n C dX12_parse_92 rfl (q := 1) rfl ?_
        refine i_cI (kc' := 0) (ks' := 0) 0 0 2 (fun q hq hM hS => crV C (as := [aI v14]) dX12_parse_93.1 kX12 (shR_0 hX) ml_X12_302 cal_X12_either cv_X12_either (hRm ⟨Nat.le_of_ble_eq_true rfl, Nat.le_of_ble_eq_true rfl⟩) rfl (Nat.le_of_ble_eq_true rfl) (c_X12_either (xl X) (xG X) hX (c_X12_part0 (xl X) (xG X) hX 20) hM ⟨hS.2.1, hS.1, trivial⟩ hq)) (Nat.le_of_ble_eq_true rfl) (Nat.le_of_ble_eq_true rfl) rfl rfl rfl (fun v24 M23 => ?_)
        refine i_jn (fun j => ∀ (p25 : Int) (M27 : Mem), Im X 0 0 111 [(0, aR 0), (1, aI v14)] [aI p25] M27 res (j p25 M27)) ?_ (fun j26 hj26 => ?_)
        · intro p25 M27
          refine i_istore_n C dX12_parse_111 rfl hl2 (L' := [(0, aR 0), (1, aI v14), (2, aI p25)]) rfl ?_
          exact (hj19 p25 M27)
        refine i_jn (fun j => ∀  (M29 : Mem), Im X 0 0 110 [(0, aR 0), (1, aI v14)] [] M29 res (j  M29)) ?_ (fun j28 hj28 => ?_)
        · intro  M29
          refine i_iconst C dX12_parse_110 kI_0 ?_
          exact (hj26 0 M29)
        refine i_if_eq (tgt := 110) C dX12_parse_96 (by decide) ?_ ?_
        · exact i_sub [0, 1] rfl (hj28  M23)
        · refine i_aload_n C dX12_parse_99 rfl (q := 0) rfl ?_
          refine i_getI C (k := 12) kX12 dX12_parse_100 (shR_0 hX) rfl (by decide) fl_X12_234 rfl ?_
          refine i_if_ne (tgt := 110) C dX12_parse_103 (by decide) ?_ ?_
          · exact i_sub [0, 1] rfl (hj28  M23)
          · refine i_iconst C dX12_parse_106 kI_1 ?_
            refine i_goto (tgt := 111) C dX12_parse_107 (by decide) ?_
            exact i_sub [0, 1] rfl (hj26 1 M23)
    refine i_if_lt (tgt := 81) C dX12_parse_74 (by decide) ?_ ?_
    · refine i_iconst C dX12_parse_81 kI_0 ?_
      exact (hj16 0 M13)
    · refine i_iconst C dX12_parse_77 kI_1 ?_
      refine i_goto (tgt := 82) C dX12_parse_78 (by decide) ?_
      exact (hj16 1 M13)
  refine i_icmp_ge (tgt := 58) C dX12_parse_39 (by decide) ?_ ?_
  · refine i_sipush C dX12_parse_58 kS_4010 ?_
    exact (hj9 4010 M6)
  · refine i_aload_n C dX12_parse_42 rfl (q := 0) rfl ?_
    refine i_aload_n C dX12_parse_43 rfl (q := 0) rfl ?_
    refine i_getR C (k := 0) kX12 dX12_parse_44 (shR_0 hX) rfl (by decide) fl_X12_7 ?_
    refine i_iconst C dX12_parse_47 kI_4 ?_
    refine i_ald C dX12_parse_48 (shR_1 hX) (fun v30 => ?_)
    refine i_cI (kc' := 0) (ks' := 0) 0 0 2 (fun q hq hM hS => crV C (as := [aI v30]) dX12_parse_49.1 kX12 (shR_0 hX) ml_X12_305 cal_X12_textAt cv_X12_textAt (hRm ⟨Nat.le_of_ble_eq_true rfl, Nat.le_of_ble_eq_true rfl⟩) rfl (Nat.le_of_ble_eq_true rfl) (c_X12_textAt (xl X) (xG X) hX hM ⟨hS.2.1, hS.1, trivial⟩ hq)) (Nat.le_of_ble_eq_true rfl) (Nat.le_of_ble_eq_true rfl) rfl rfl rfl (fun v32 M31 => ?_)
    refine i_bipush C dX12_parse_52 kB_6 ?_
    refine i_iadd C dX12_parse_54 ?_
    refine i_goto (tgt := 61) C dX12_parse_55 (by decide) ?_
    exact (hj9 (w32 (v32 + 6)) M31)
set_option maxRecDepth 100000 in
set_option maxHeartbeats 4000000 in
theorem c_X12_text (l : Launch) (G : Gx) {K : Kx} (hK : K = kR) {x1 : Int} {x2 : Int} {M : Mem} {res : Int × Mem} (hM : OkM M) (ha : okS [aR 0, aI x1, aI x2]) (hF : rM_text x1 x2 M = some res) : Ct l G K yX12_text (wsM yX12_text cX12_text 6 (some .int)) rmX12_text [aR 0, aI x1, aI x2] M (some (aI res.1)) res.2 := by
  refine ct_of RX12 (by decide +kernel) rfl (hK ▸ kR_ok) hM ha (Nat.le_of_ble_eq_true rfl) hF ?_
  intro X C hl hG hX0 hN hR hq
  have hX : xK X = kR := hX0.trans hK
  show Im X 0 0 0 [(0, aR 0), (1, aI x1), (2, aI x2)] [] M res (rM_text x1 x2 M)
  unfold rM_text
  have hl3 : 3 < xn X := by rw [hN]; decide
  have hl4 : 4 < xn X := by rw [hN]; decide
  have hl5 : 5 < xn X := by rw [hN]; decide
  have hRm : ∀ {rm : Room} {ny : Nat}, RmOk rmX12_text rm ny → RmOk (xR X) rm ny := fun h => by rw [hR]; exact h
  refine i_iload_n C dX12_text_0 rfl (q := 1) rfl ?_
  refine i_cI (kc' := 0) (ks' := 0) 0 0 1 (fun q hq hM hS => crS C (as := [aI x1]) dX12_text_1.1 ml_X12_99 cal_X12_isSide st_X12_isSide (hRm ⟨Nat.le_of_ble_eq_true rfl, Nat.le_of_ble_eq_true rfl⟩) rfl (Nat.le_of_ble_eq_true rfl) (c_X12_isSide (xl X) (xG X) hX hM ⟨hS.1, trivial⟩ hq)) (Nat.le_of_ble_eq_true rfl) (Nat.le_of_ble_eq_true rfl) rfl rfl rfl (fun v2 M1 => ?_)
  refine i_jn (fun j => ∀ (p3 : Int) (M5 : Mem), Im X 0 0 24 [(0, aR 0), (1, aI x1), (2, aI x2)] [aI p3] M5 res (j p3 M5)) ?_ (fun j4 hj4 => ?_)
  · intro p3 M5
    refine i_istore_n C dX12_text_24 rfl hl3 (L' := [(0, aR 0), (1, aI x1), (2, aI x2), (3, aI p3)]) rfl ?_
    refine i_aload_n C dX12_text_25 rfl (q := 0) rfl ?_
    refine i_cI (kc' := 0) (ks' := 0) 0 0 1 (fun q hq hM hS => crV C (as := []) dX12_text_26.1 kX12 (shR_0 hX) ml_X12_313 cal_X12_parse cv_X12_parse (hRm ⟨Nat.le_of_ble_eq_true rfl, Nat.le_of_ble_eq_true rfl⟩) rfl (Nat.le_of_ble_eq_true rfl) (c_X12_parse (xl X) (xG X) hX hM ⟨hS.1, trivial⟩ hq)) (Nat.le_of_ble_eq_true rfl) (Nat.le_of_ble_eq_true rfl) rfl rfl rfl (fun v7 M6 => ?_)
    refine i_istore C dX12_text_29 hl4 (L' := [(0, aR 0), (1, aI x1), (2, aI x2), (3, aI p3), (4, aI v7)]) rfl ?_
    refine i_iload_n C dX12_text_31 rfl (q := 3) rfl ?_
    refine i_if_ne (tgt := 38) C dX12_text_32 (by decide) ?_ ?_
    · refine i_iload C dX12_text_38 (q := 4) rfl ?_
      refine i_if_ge (tgt := 51) C dX12_text_40 (by decide) ?_ ?_
      · refine i_aload_n C dX12_text_51 rfl (q := 0) rfl ?_
        refine i_getR C (k := 0) kX12 dX12_text_52 (shR_0 hX) rfl (by decide) fl_X12_7 ?_
        refine i_iconst C dX12_text_55 kI_4 ?_
        refine i_ald C dX12_text_56 (shR_1 hX) (fun v8 => ?_)
        refine i_bipush C dX12_text_57 kB_12 ?_
        refine i_icmp_ne (tgt := 65) C dX12_text_59 (by decide) ?_ ?_
        · refine i_aload_n C dX12_text_65 rfl (q := 0) rfl ?_
          refine i_aload_n C dX12_text_66 rfl (q := 0) rfl ?_
          refine i_getR C (k := 0) kX12 dX12_text_67 (shR_0 hX) rfl (by decide) fl_X12_7 ?_
          refine i_iconst C dX12_text_70 kI_4 ?_
          refine i_ald C dX12_text_71 (shR_1 hX) (fun v9 => ?_)
          refine i_cI (kc' := 0) (ks' := 0) 0 0 2 (fun q hq hM hS => crV C (as := [aI v9]) dX12_text_72.1 kX12 (shR_0 hX) ml_X12_305 cal_X12_textAt cv_X12_textAt (hRm ⟨Nat.le_of_ble_eq_true rfl, Nat.le_of_ble_eq_true rfl⟩) rfl (Nat.le_of_ble_eq_true rfl) (c_X12_textAt (xl X) (xG X) hX hM ⟨hS.2.1, hS.1, trivial⟩ hq)) (Nat.le_of_ble_eq_true rfl) (Nat.le_of_ble_eq_true rfl) rfl rfl rfl (fun v11 M10 => ?_)
          refine i_istore C dX12_text_75 hl5 (L' := [(0, aR 0), (1, aI x1), (2, aI x2), (3, aI p3), (4, aI v7), (5, aI v11)]) rfl ?_
          refine i_aload_n C dX12_text_77 rfl (q := 0) rfl ?_
          refine i_getR C (k := 0) kX12 dX12_text_78 (shR_0 hX) rfl (by decide) fl_X12_7 ?_
          refine i_iload C dX12_text_81 (q := 5) rfl ?_
          refine i_iconst C dX12_text_83 kI_0 ?_
          refine i_iadd C dX12_text_84 ?_
          refine i_iload C dX12_text_85 (q := 4) rfl ?_
          refine i_ast C dX12_text_87 (shR_1 hX) (fun M12 => ?_)
          refine i_aload_n C dX12_text_88 rfl (q := 0) rfl ?_
          refine i_getR C (k := 0) kX12 dX12_text_89 (shR_0 hX) rfl (by decide) fl_X12_7 ?_
          refine i_iload C dX12_text_92 (q := 5) rfl ?_
          refine i_iconst C dX12_text_94 kI_1 ?_
          refine i_iadd C dX12_text_95 ?_
          refine i_iload_n C dX12_text_96 rfl (q := 1) rfl ?_
          refine i_ast C dX12_text_97 (shR_1 hX) (fun M13 => ?_)
          refine i_aload_n C dX12_text_98 rfl (q := 0) rfl ?_
          refine i_getR C (k := 0) kX12 dX12_text_99 (shR_0 hX) rfl (by decide) fl_X12_7 ?_
          refine i_iload C dX12_text_102 (q := 5) rfl ?_
          refine i_iconst C dX12_text_104 kI_2 ?_
          refine i_iadd C dX12_text_105 ?_
          refine i_iload_n C dX12_text_106 rfl (q := 2) rfl ?_
          refine i_ast C dX12_text_107 (shR_1 hX) (fun M14 => ?_)
          refine i_aload_n C dX12_text_108 rfl (q := 0) rfl ?_
          refine i_getR C (k := 0) kX12 dX12_text_109 (shR_0 hX) rfl (by decide) fl_X12_7 ?_
          refine i_iload C dX12_text_112 (q := 5) rfl ?_
          refine i_iconst C dX12_text_114 kI_3 ?_
          refine i_iadd C dX12_text_115 ?_
          refine i_iconst C dX12_text_116 kI_m1 ?_
          refine i_ast C dX12_text_117 (shR_1 hX) (fun M15 => ?_)
          refine i_aload_n C dX12_text_118 rfl (q := 0) rfl ?_
          refine i_getR C (k := 0) kX12 dX12_text_119 (shR_0 hX) rfl (by decide) fl_X12_7 ?_
          refine i_iload C dX12_text_122 (q := 5) rfl ?_
          refine i_iconst C dX12_text_124 kI_4 ?_
          refine i_iadd C dX12_text_125 ?_
          refine i_aload_n C dX12_text_126 rfl (q := 0) rfl ?_
          refine i_getI C (k := 19) kX12 dX12_text_127 (shR_0 hX) rfl (by decide) fl_X12_290 rfl ?_
          refine i_ast C dX12_text_130 (shR_1 hX) (fun M16 => ?_)
          refine i_aload_n C dX12_text_131 rfl (q := 0) rfl ?_
          refine i_getR C (k := 0) kX12 dX12_text_132 (shR_0 hX) rfl (by decide) fl_X12_7 ?_
          refine i_iload C dX12_text_135 (q := 5) rfl ?_
          refine i_iconst C dX12_text_137 kI_5 ?_
          refine i_iadd C dX12_text_138 ?_
          refine i_aload_n C dX12_text_139 rfl (q := 0) rfl ?_
          refine i_getI C (k := 17) kX12 dX12_text_140 (shR_0 hX) rfl (by decide) fl_X12_263 rfl ?_
          refine i_ast C dX12_text_143 (shR_1 hX) (fun M17 => ?_)
          refine i_aload_n C dX12_text_144 rfl (q := 0) rfl ?_
          refine i_getR C (k := 0) kX12 dX12_text_145 (shR_0 hX) rfl (by decide) fl_X12_7 ?_
          refine i_iconst C dX12_text_148 kI_4 ?_
          refine i_dup2 C dX12_text_149 rfl rfl ?_
          refine i_ald C dX12_text_150 (shR_1 hX) (fun v18 => ?_)
          refine i_iconst C dX12_text_151 kI_1 ?_
          refine i_iadd C dX12_text_152 ?_
          refine i_ast C dX12_text_153 (shR_1 hX) (fun M19 => ?_)
          refine i_aload_n C dX12_text_154 rfl (q := 0) rfl ?_
          refine i_getR C (k := 0) kX12 dX12_text_155 (shR_0 hX) rfl (by decide) fl_X12_7 ?_
          refine i_iconst C dX12_text_158 kI_4 ?_
          refine i_ald C dX12_text_159 (shR_1 hX) (fun v20 => ?_)
          refine i_iconst C dX12_text_160 kI_1 ?_
          refine i_isub C dX12_text_161 ?_
          exact i_iret C hq dX12_text_162
        · refine i_ldc C dX12_text_62 kc_X12_103 kI_m1000000003 ?_
          exact i_iret C hq dX12_text_64
      · refine i_bipush C dX12_text_43 kB_m100 ?_
        refine i_aload_n C dX12_text_45 rfl (q := 0) rfl ?_
        refine i_getI C (k := 10) kX12 dX12_text_46 (shR_0 hX) rfl (by decide) fl_X12_237 rfl ?_
        refine i_isub C dX12_text_49 ?_
        exact i_iret C hq dX12_text_50
    · refine i_ldc C dX12_text_35 kc_X12_102 kI_m1000000001 ?_
      exact i_iret C hq dX12_text_37
  refine i_jn (fun j => ∀  (M22 : Mem), Im X 0 0 23 [(0, aR 0), (1, aI x1), (2, aI x2)] [] M22 res (j  M22)) ?_ (fun j21 hj21 => ?_)
  · intro  M22
    refine i_iconst C dX12_text_23 kI_0 ?_
    exact (hj4 0 M22)
  refine i_if_eq (tgt := 23) C dX12_text_4 (by decide) ?_ ?_
  · exact (hj21  M1)
  · refine i_iload_n C dX12_text_7 rfl (q := 2) rfl ?_
    refine i_i2l C dX12_text_8 ?_
    refine i_lconst C dX12_text_9 kL_0 ?_
    refine i_ldc2 C dX12_text_10 k2_X12_311 kJ_416 ?_
    refine i_cI (kc' := 0) (ks' := 0) 0 0 3 (fun q hq hM hS => crS C (as := [aL x2, aL 0, aL 416]) dX12_text_13.1 ml_X12_78 cal_X12_isIn st_X12_isIn (hRm ⟨Nat.le_of_ble_eq_true rfl, Nat.le_of_ble_eq_true rfl⟩) rfl (Nat.le_of_ble_eq_true rfl) (c_X12_isIn (xl X) (xG X) hX hM ⟨hS.2.2.1, hS.2.1, hS.1, trivial⟩ hq)) (Nat.le_of_ble_eq_true rfl) (Nat.le_of_ble_eq_true rfl) rfl rfl rfl (fun v24 M23 => ?_)
    refine i_if_eq (tgt := 23) C dX12_text_16 (by decide) ?_ ?_
    · exact (hj21  M23)
    · refine i_iconst C dX12_text_19 kI_1 ?_
      refine i_goto (tgt := 24) C dX12_text_20 (by decide) ?_
      exact (hj4 1 M23)
