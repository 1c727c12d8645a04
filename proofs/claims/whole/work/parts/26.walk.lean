def f_X9_isParty (a1 : Int32) (M : pv_M) : Option Int32 := pv_ldI pv_T 203 0 M (fun x1 => pv_cap (f_X9_in a1.toInt64 0 ((x1 - 1).toInt64) M) (fun x2 => (if x2 = 0 ∨ x2 = 1 then some x2 else none)))
set_option maxHeartbeats 4000000 in
set_option maxRecDepth 100000 in
theorem k_X9_isParty (l : Launch) (κ : pv_K) (a1 : Int32) (M : pv_M) : pv_MtP l yX9_isParty cX9_isParty 2 (some .boolean) 1 κ [.ref (κ.1 + 196), .int a1] M pv_ji (f_X9_isParty a1 M) := by
  refine pv_enterP (by decide +kernel) (Nat.le_of_ble_eq_true rfl) (fun g hl hR C => ?_)
  have C : pv_Ok g κ 2 cX9_isParty RX9 (some .boolean) := C
  show pv_R g κ pv_T pv_RF 2 0 0 (pv_QP g κ pv_ji M) 0 [(0, .ref (κ.1 + 196)), (1, .int a1)] [] M (f_X9_isParty a1 M)
  unfold f_X9_isParty
  refine rw_iload_n C dX9_isParty_0 rfl 1 rfl ?_
  refine rw_i2l C dX9_isParty_1 ?_
  refine rw_lconst (c := 0) C dX9_isParty_2 (by decide) ?_
  refine rw_aload_n C dX9_isParty_3 rfl 0 rfl ?_
  refine rw_getR (k0 := 196) (k1 := 203) C dX9_isParty_4 fl_X9_28 rfl (by decide) sh_196 (by decide) rfl ?_
  refine rw_iconst (c := 0) C dX9_isParty_7 ci_0 ?_
  refine rw_ldI C dX9_isParty_8 (fun x1 => ?_)
  refine rw_iconst (c := 1) C dX9_isParty_9 ci_1 ?_
  refine rw_isub C dX9_isParty_10 ?_
  refine rw_i2l C dX9_isParty_11 ?_
  refine rw_callSPi (As := [.long (a1.toInt64), .long 0, .long ((x1 - 1).toInt64)]) C hR dX9_isParty_12 cs_X9_88 (k_X9_in g.2.1 κ a1.toInt64 0 ((x1 - 1).toInt64) M) (by decide) (by decide) rfl (Nat.le_of_ble_eq_true rfl) rfl (fun x2 => ?_)
  exact rw_zret_ckP C dX9_isParty_15
def f_X9_isVoter (a1 : Int32) (M : pv_M) : Option Int32 := pv_ldI pv_T 203 1 M (fun x1 => pv_cap (f_X9_in a1.toInt64 0 ((x1 - 1).toInt64) M) (fun x2 => (if x2 = 0 ∨ x2 = 1 then some x2 else none)))
set_option maxHeartbeats 4000000 in
set_option maxRecDepth 100000 in
theorem k_X9_isVoter (l : Launch) (κ : pv_K) (a1 : Int32) (M : pv_M) : pv_MtP l yX9_isVoter cX9_isVoter 2 (some .boolean) 1 κ [.ref (κ.1 + 196), .int a1] M pv_ji (f_X9_isVoter a1 M) := by
  refine pv_enterP (by decide +kernel) (Nat.le_of_ble_eq_true rfl) (fun g hl hR C => ?_)
  have C : pv_Ok g κ 2 cX9_isVoter RX9 (some .boolean) := C
  show pv_R g κ pv_T pv_RF 2 0 0 (pv_QP g κ pv_ji M) 0 [(0, .ref (κ.1 + 196)), (1, .int a1)] [] M (f_X9_isVoter a1 M)
  unfold f_X9_isVoter
  refine rw_iload_n C dX9_isVoter_0 rfl 1 rfl ?_
  refine rw_i2l C dX9_isVoter_1 ?_
  refine rw_lconst (c := 0) C dX9_isVoter_2 (by decide) ?_
  refine rw_aload_n C dX9_isVoter_3 rfl 0 rfl ?_
  refine rw_getR (k0 := 196) (k1 := 203) C dX9_isVoter_4 fl_X9_28 rfl (by decide) sh_196 (by decide) rfl ?_
  refine rw_iconst (c := 1) C dX9_isVoter_7 ci_1 ?_
  refine rw_ldI C dX9_isVoter_8 (fun x1 => ?_)
  refine rw_iconst (c := 1) C dX9_isVoter_9 ci_1 ?_
  refine rw_isub C dX9_isVoter_10 ?_
  refine rw_i2l C dX9_isVoter_11 ?_
  refine rw_callSPi (As := [.long (a1.toInt64), .long 0, .long ((x1 - 1).toInt64)]) C hR dX9_isVoter_12 cs_X9_88 (k_X9_in g.2.1 κ a1.toInt64 0 ((x1 - 1).toInt64) M) (by decide) (by decide) rfl (Nat.le_of_ble_eq_true rfl) rfl (fun x2 => ?_)
  exact rw_zret_ckP C dX9_isVoter_15
def f_X9_isYear (a1 : Int32) (M : pv_M) : Option Int32 := pv_cap (f_X9_in a1.toInt64 0 9 M) (fun x1 => (if x1 = 0 ∨ x1 = 1 then some x1 else none))
set_option maxHeartbeats 4000000 in
set_option maxRecDepth 100000 in
theorem k_X9_isYear (l : Launch) (κ : pv_K) (a1 : Int32) (M : pv_M) : pv_MtP l yX9_isYear cX9_isYear 1 (some .boolean) 1 κ [.int a1] M pv_ji (f_X9_isYear a1 M) := by
  refine pv_enterP (by decide +kernel) (Nat.le_of_ble_eq_true rfl) (fun g hl hR C => ?_)
  have C : pv_Ok g κ 1 cX9_isYear RX9 (some .boolean) := C
  show pv_R g κ pv_T pv_RF 1 0 0 (pv_QP g κ pv_ji M) 0 [(0, .int a1)] [] M (f_X9_isYear a1 M)
  unfold f_X9_isYear
  refine rw_iload_n C dX9_isYear_0 rfl 0 rfl ?_
  refine rw_i2l C dX9_isYear_1 ?_
  refine rw_lconst (c := 0) C dX9_isYear_2 (by decide) ?_
  refine rw_ldc2_w (c := 9) C dX9_isYear_3 mw_362 ?_
  refine rw_callSPi (As := [.long (a1.toInt64), .long 0, .long 9]) C hR dX9_isYear_6 cs_X9_88 (k_X9_in g.2.1 κ a1.toInt64 0 9 M) (by decide) (by decide) rfl (Nat.le_of_ble_eq_true rfl) rfl (fun x1 => ?_)
  exact rw_zret_ckP C dX9_isYear_9
def f_X9_isUnit (a1 : Int32) (M : pv_M) : Option Int32 := pv_cap (f_X9_in a1.toInt64 0 2 M) (fun x1 => (if x1 = 0 ∨ x1 = 1 then some x1 else none))
set_option maxHeartbeats 4000000 in
set_option maxRecDepth 100000 in
theorem k_X9_isUnit (l : Launch) (κ : pv_K) (a1 : Int32) (M : pv_M) : pv_MtP l yX9_isUnit cX9_isUnit 1 (some .boolean) 1 κ [.int a1] M pv_ji (f_X9_isUnit a1 M) := by
  refine pv_enterP (by decide +kernel) (Nat.le_of_ble_eq_true rfl) (fun g hl hR C => ?_)
  have C : pv_Ok g κ 1 cX9_isUnit RX9 (some .boolean) := C
  show pv_R g κ pv_T pv_RF 1 0 0 (pv_QP g κ pv_ji M) 0 [(0, .int a1)] [] M (f_X9_isUnit a1 M)
  unfold f_X9_isUnit
  refine rw_iload_n C dX9_isUnit_0 rfl 0 rfl ?_
  refine rw_i2l C dX9_isUnit_1 ?_
  refine rw_lconst (c := 0) C dX9_isUnit_2 (by decide) ?_
  refine rw_ldc2_w (c := 2) C dX9_isUnit_3 mw_196 ?_
  refine rw_callSPi (As := [.long (a1.toInt64), .long 0, .long 2]) C hR dX9_isUnit_6 cs_X9_88 (k_X9_in g.2.1 κ a1.toInt64 0 2 M) (by decide) (by decide) rfl (Nat.le_of_ble_eq_true rfl) rfl (fun x1 => ?_)
  exact rw_zret_ckP C dX9_isUnit_9
def f_X9_isAnyVoter (a1 : Int32) (M : pv_M) : Option Int32 := pv_cap (f_X9_in a1.toInt64 0 7 M) (fun x1 => (if x1 = 0 ∨ x1 = 1 then some x1 else none))
set_option maxHeartbeats 4000000 in
set_option maxRecDepth 100000 in
theorem k_X9_isAnyVoter (l : Launch) (κ : pv_K) (a1 : Int32) (M : pv_M) : pv_MtP l yX9_isAnyVoter cX9_isAnyVoter 1 (some .boolean) 1 κ [.int a1] M pv_ji (f_X9_isAnyVoter a1 M) := by
  refine pv_enterP (by decide +kernel) (Nat.le_of_ble_eq_true rfl) (fun g hl hR C => ?_)
  have C : pv_Ok g κ 1 cX9_isAnyVoter RX9 (some .boolean) := C
  show pv_R g κ pv_T pv_RF 1 0 0 (pv_QP g κ pv_ji M) 0 [(0, .int a1)] [] M (f_X9_isAnyVoter a1 M)
  unfold f_X9_isAnyVoter
  refine rw_iload_n C dX9_isAnyVoter_0 rfl 0 rfl ?_
  refine rw_i2l C dX9_isAnyVoter_1 ?_
  refine rw_lconst (c := 0) C dX9_isAnyVoter_2 (by decide) ?_
  refine rw_ldc2_w (c := 7) C dX9_isAnyVoter_3 mw_427 ?_
  refine rw_callSPi (As := [.long (a1.toInt64), .long 0, .long 7]) C hR dX9_isAnyVoter_6 cs_X9_88 (k_X9_in g.2.1 κ a1.toInt64 0 7 M) (by decide) (by decide) rfl (Nat.le_of_ble_eq_true rfl) rfl (fun x1 => ?_)
  exact rw_zret_ckP C dX9_isAnyVoter_9
def f_X9_voter (a1 : Int32) (a2 : Int32) (M : pv_M) : Option (Int32 × pv_M) := pv_cal (f_X9_reads M) (fun u1 M1 => pv_cap (f_X9_isVoter a1 M1) (fun x1 => (if x1 = 0 then some ((-2), M1) else pv_cap (f_X9_in a2.toInt64 0 2 M1) (fun x2 => (if x2 = 0 then some ((-2), M1) else pv_ldI pv_T 204 ((24 + (3 * a1)) + a2) M1 (fun x3 => some (x3, M1)))))))
set_option maxHeartbeats 4000000 in
set_option maxRecDepth 100000 in
theorem k_X9_voter (l : Launch) (κ : pv_K) (a1 : Int32) (a2 : Int32) (M : pv_M) : pv_Mt l yX9_voter cX9_voter 3 (some .int) 5 κ [.ref (κ.1 + 196), .int a1, .int a2] M pv_ji (f_X9_voter a1 a2 M) := by
  refine pv_enter (by decide +kernel) (Nat.le_of_ble_eq_true rfl) (fun g hl hR C => ?_)
  have C : pv_Ok g κ 3 cX9_voter RX9 (some .int) := C
  show pv_R g κ pv_T pv_RF 3 0 0 (pv_QF g κ pv_ji) 0 [(0, .ref (κ.1 + 196)), (1, .int a1), (2, .int a2)] [] M (f_X9_voter a1 a2 M)
  unfold f_X9_voter
  refine rw_aload_n C dX9_voter_0 rfl 0 rfl ?_
  refine rw_callVu (As := []) (k0 := 196) C hR dX9_voter_1 cv_X9_151 (k_X9_reads g.2.1 κ M) (by decide) (by decide) (by decide) sh_196 rfl rfl (Nat.le_of_ble_eq_true rfl) rfl (fun u1 M1 => ?_)
  refine rw_aload_n C dX9_voter_4 rfl 0 rfl ?_
  refine rw_iload_n C dX9_voter_5 rfl 1 rfl ?_
  refine rw_callVPi (As := [.int a1]) (k0 := 196) C hR dX9_voter_6 cv_X9_154 (k_X9_isVoter g.2.1 κ a1 M1) (by decide) (by decide) (by decide) sh_196 rfl rfl (Nat.le_of_ble_eq_true rfl) rfl (fun x1 => ?_)
  refine rw_if_eq (tgt := 40) C dX9_voter_9 (by decide) ?_ ?_
  · refine rw_bipush (c := (-2)) C dX9_voter_40 (by decide) ?_
    exact rw_iret C dX9_voter_42
  · refine rw_iload_n C dX9_voter_12 rfl 2 rfl ?_
    refine rw_i2l C dX9_voter_13 ?_
    refine rw_lconst (c := 0) C dX9_voter_14 (by decide) ?_
    refine rw_ldc2_w (c := 2) C dX9_voter_15 mw_196 ?_
    refine rw_callSPi (As := [.long (a2.toInt64), .long 0, .long 2]) C hR dX9_voter_18 cs_X9_88 (k_X9_in g.2.1 κ a2.toInt64 0 2 M1) (by decide) (by decide) rfl (Nat.le_of_ble_eq_true rfl) rfl (fun x2 => ?_)
    refine rw_if_eq (tgt := 40) C dX9_voter_21 (by decide) ?_ ?_
    · refine rw_bipush (c := (-2)) C dX9_voter_40 (by decide) ?_
      exact rw_iret C dX9_voter_42
    · refine rw_aload_n C dX9_voter_24 rfl 0 rfl ?_
      refine rw_getR (k0 := 196) (k1 := 204) C dX9_voter_25 fl_X9_31 rfl (by decide) sh_196 (by decide) rfl ?_
      refine rw_bipush (c := 24) C dX9_voter_28 (by decide) ?_
      refine rw_iconst (c := 3) C dX9_voter_30 ci_3 ?_
      refine rw_iload_n C dX9_voter_31 rfl 1 rfl ?_
      refine rw_imul C dX9_voter_32 ?_
      refine rw_iadd C dX9_voter_33 ?_
      refine rw_iload_n C dX9_voter_34 rfl 2 rfl ?_
      refine rw_iadd C dX9_voter_35 ?_
      refine rw_ldI C dX9_voter_36 (fun x3 => ?_)
      refine rw_goto (tgt := 42) C dX9_voter_37 (by decide) ?_
      exact rw_iret C dX9_voter_42
def f_X9_set (a1 : Int32) (a2 : Int32) (M : pv_M) : Option (Int32 × pv_M) := pv_cap (f_X9_isTwo a1 M) (fun x1 => (if x1 = 0 then some ((-2), M) else pv_jn (fun (x2 : Int64) => pv_cap (f_X9_in a2.toInt64 0 x2 M) (fun x3 => (if x3 = 0 then some ((-2), M) else pv_ldI pv_T 205 a1 M (fun x4 => pv_stI pv_T 205 a1 a2 M (fun M1 => some (x4, M1)))))) (fun j1 => (if a1 = 0 then j1 2 else j1 1))))
set_option maxHeartbeats 4000000 in
set_option maxRecDepth 100000 in
theorem k_X9_set (l : Launch) (κ : pv_K) (a1 : Int32) (a2 : Int32) (M : pv_M) : pv_Mt l yX9_set cX9_set 4 (some .int) 2 κ [.ref (κ.1 + 196), .int a1, .int a2] M pv_ji (f_X9_set a1 a2 M) := by
  refine pv_enter (by decide +kernel) (Nat.le_of_ble_eq_true rfl) (fun g hl hR C => ?_)
  have C : pv_Ok g κ 4 cX9_set RX9 (some .int) := C
  show pv_R g κ pv_T pv_RF 4 0 0 (pv_QF g κ pv_ji) 0 [(0, .ref (κ.1 + 196)), (1, .int a1), (2, .int a2)] [] M (f_X9_set a1 a2 M)
  unfold f_X9_set
  refine rw_iload_n C dX9_set_0 rfl 1 rfl ?_
  refine rw_callSPi (As := [.int a1]) C hR dX9_set_1 cs_X9_157 (k_X9_isTwo g.2.1 κ a1 M) (by decide) (by decide) rfl (Nat.le_of_ble_eq_true rfl) rfl (fun x1 => ?_)
  refine rw_if_eq (tgt := 27) C dX9_set_4 (by decide) ?_ ?_
  · refine rw_bipush (c := (-2)) C dX9_set_27 (by decide) ?_
    exact rw_iret C dX9_set_29
  · refine rw_iload_n C dX9_set_7 rfl 2 rfl ?_
    refine rw_i2l C dX9_set_8 ?_
    refine rw_lconst (c := 0) C dX9_set_9 (by decide) ?_
    refine rw_iload_n C dX9_set_10 rfl 1 rfl ?_
    refine rw_jn (fun j1 => ∀ (x2 : Int64), pv_R g κ pv_T pv_RF 4 0 0 (pv_QF g κ pv_ji) 21 [(0, .ref (κ.1 + 196)), (1, .int a1), (2, .int a2)] [.long x2, .long 0, .long (a2.toInt64)] M (j1 x2)) (fun x2 => ?_) (fun j1 hj1 => ?_)
    · refine rw_callSPi (As := [.long (a2.toInt64), .long 0, .long x2]) C hR dX9_set_21 cs_X9_88 (k_X9_in g.2.1 κ a2.toInt64 0 x2 M) (by decide) (by decide) rfl (Nat.le_of_ble_eq_true rfl) rfl (fun x3 => ?_)
      refine rw_if_ne (tgt := 30) C dX9_set_24 (by decide) ?_ ?_
      · refine rw_aload_n C dX9_set_30 rfl 0 rfl ?_
        refine rw_getR (k0 := 196) (k1 := 205) C dX9_set_31 fl_X9_34 rfl (by decide) sh_196 (by decide) rfl ?_
        refine rw_iload_n C dX9_set_34 rfl 1 rfl ?_
        refine rw_ldI C dX9_set_35 (fun x4 => ?_)
        refine rw_istore_n (lv' := [(3, .int x4), (0, .ref (κ.1 + 196)), (1, .int a1), (2, .int a2)]) C dX9_set_36 rfl (by decide) rfl ?_
        refine rw_aload_n C dX9_set_37 rfl 1 rfl ?_
        refine rw_getR (k0 := 196) (k1 := 205) C dX9_set_38 fl_X9_34 rfl (by decide) sh_196 (by decide) rfl ?_
        refine rw_iload_n C dX9_set_41 rfl 2 rfl ?_
        refine rw_iload_n C dX9_set_42 rfl 3 rfl ?_
        refine rw_stI C dX9_set_43 (fun M1 => ?_)
        refine rw_iload_n C dX9_set_44 rfl 0 rfl ?_
        exact rw_iret C dX9_set_45
      · refine rw_bipush (c := (-2)) C dX9_set_27 (by decide) ?_
        exact rw_iret C dX9_set_29
    · refine rw_if_ne (tgt := 20) C dX9_set_11 (by decide) ?_ ?_
      · refine rw_lconst (c := 1) C dX9_set_20 (by decide) ?_
        exact hj1 1
      · refine rw_ldc2_w (c := 2) C dX9_set_14 mw_196 ?_
        refine rw_goto (tgt := 21) C dX9_set_17 (by decide) ?_
        exact hj1 2
def f_X9_purse (a1 : Int32) (a2 : Int32) (M : pv_M) : Option (Int32 × pv_M) := pv_cap (f_X9_isAnyVoter a1 M) (fun x1 => (if x1 = 0 then some ((-2), M) else pv_cap (f_X9_in a2.toInt64 0 999 M) (fun x2 => (if x2 = 0 then some ((-2), M) else pv_ldI pv_T 206 a1 M (fun x3 => pv_stI pv_T 206 a1 a2 M (fun M1 => some (x3, M1)))))))
set_option maxHeartbeats 4000000 in
set_option maxRecDepth 100000 in
theorem k_X9_purse (l : Launch) (κ : pv_K) (a1 : Int32) (a2 : Int32) (M : pv_M) : pv_Mt l yX9_purse cX9_purse 4 (some .int) 2 κ [.ref (κ.1 + 196), .int a1, .int a2] M pv_ji (f_X9_purse a1 a2 M) := by
  refine pv_enter (by decide +kernel) (Nat.le_of_ble_eq_true rfl) (fun g hl hR C => ?_)
  have C : pv_Ok g κ 4 cX9_purse RX9 (some .int) := C
  show pv_R g κ pv_T pv_RF 4 0 0 (pv_QF g κ pv_ji) 0 [(0, .ref (κ.1 + 196)), (1, .int a1), (2, .int a2)] [] M (f_X9_purse a1 a2 M)
  unfold f_X9_purse
  refine rw_iload_n C dX9_purse_0 rfl 1 rfl ?_
  refine rw_callSPi (As := [.int a1]) C hR dX9_purse_1 cs_X9_160 (k_X9_isAnyVoter g.2.1 κ a1 M) (by decide) (by decide) rfl (Nat.le_of_ble_eq_true rfl) rfl (fun x1 => ?_)
  refine rw_if_eq (tgt := 19) C dX9_purse_4 (by decide) ?_ ?_
  · refine rw_bipush (c := (-2)) C dX9_purse_19 (by decide) ?_
    exact rw_iret C dX9_purse_21
  · refine rw_iload_n C dX9_purse_7 rfl 2 rfl ?_
    refine rw_i2l C dX9_purse_8 ?_
    refine rw_lconst (c := 0) C dX9_purse_9 (by decide) ?_
    refine rw_ldc2_w (c := 999) C dX9_purse_10 mw_423 ?_
    refine rw_callSPi (As := [.long (a2.toInt64), .long 0, .long 999]) C hR dX9_purse_13 cs_X9_88 (k_X9_in g.2.1 κ a2.toInt64 0 999 M) (by decide) (by decide) rfl (Nat.le_of_ble_eq_true rfl) rfl (fun x2 => ?_)
    refine rw_if_ne (tgt := 22) C dX9_purse_16 (by decide) ?_ ?_
    · refine rw_aload_n C dX9_purse_22 rfl 0 rfl ?_
      refine rw_getR (k0 := 196) (k1 := 206) C dX9_purse_23 fl_X9_37 rfl (by decide) sh_196 (by decide) rfl ?_
      refine rw_iload_n C dX9_purse_26 rfl 1 rfl ?_
      refine rw_ldI C dX9_purse_27 (fun x3 => ?_)
      refine rw_istore_n (lv' := [(3, .int x3), (0, .ref (κ.1 + 196)), (1, .int a1), (2, .int a2)]) C dX9_purse_28 rfl (by decide) rfl ?_
      refine rw_aload_n C dX9_purse_29 rfl 1 rfl ?_
      refine rw_getR (k0 := 196) (k1 := 206) C dX9_purse_30 fl_X9_37 rfl (by decide) sh_196 (by decide) rfl ?_
      refine rw_iload_n C dX9_purse_33 rfl 2 rfl ?_
      refine rw_iload_n C dX9_purse_34 rfl 3 rfl ?_
      refine rw_stI C dX9_purse_35 (fun M1 => ?_)
      refine rw_iload_n C dX9_purse_36 rfl 0 rfl ?_
      exact rw_iret C dX9_purse_37
    · refine rw_bipush (c := (-2)) C dX9_purse_19 (by decide) ?_
      exact rw_iret C dX9_purse_21
def f_X9_change (a1 : Int32) (a2 : Int32) (a3 : Int32) (a4 : Int32) (M : pv_M) : Option (Int32 × pv_M) := pv_cap (f_X9_isYear a1 M) (fun x1 => (if x1 = 0 then some ((-2), M) else pv_cap (f_X9_in a2.toInt64 0 3 M) (fun x2 => (if x2 = 0 then some ((-2), M) else pv_cap (f_X9_isUnit a3 M) (fun x3 => (if x3 = 0 then some ((-2), M) else pv_cap (f_X9_in a4.toInt64 1 9 M) (fun x4 => (if x4 = 0 then some ((-2), M) else pv_nm (M.1 196 12) (fun x5 => (if x5 = 10 then some ((-4), M) else pv_nm (M.1 196 12) (fun x6 => pv_stI pv_T 207 (4 * x6) a1 M (fun M1 => pv_nm (M1.1 196 12) (fun x7 => pv_stI pv_T 207 ((4 * x7) + 1) a2 M1 (fun M2 => pv_nm (M2.1 196 12) (fun x8 => pv_stI pv_T 207 ((4 * x8) + 2) a3 M2 (fun M3 => pv_nm (M3.1 196 12) (fun x9 => pv_stI pv_T 207 ((4 * x9) + 3) a4 M3 (fun M4 => pv_nm (M4.1 196 12) (fun x10 => pv_nm (pv_u M4.1 196 12 (x10 + 1), M4.2) (fun M5 => pv_nm (M5.1 196 12) (fun x11 => some (x11, M5))))))))))))))))))))))
set_option maxHeartbeats 4000000 in
set_option maxRecDepth 100000 in
theorem k_X9_change (l : Launch) (κ : pv_K) (a1 : Int32) (a2 : Int32) (a3 : Int32) (a4 : Int32) (M : pv_M) : pv_Mt l yX9_change cX9_change 5 (some .int) 2 κ [.ref (κ.1 + 196), .int a1, .int a2, .int a3, .int a4] M pv_ji (f_X9_change a1 a2 a3 a4 M) := by
  refine pv_enter (by decide +kernel) (Nat.le_of_ble_eq_true rfl) (fun g hl hR C => ?_)
  have C : pv_Ok g κ 5 cX9_change RX9 (some .int) := C
  show pv_R g κ pv_T pv_RF 5 0 0 (pv_QF g κ pv_ji) 0 [(0, .ref (κ.1 + 196)), (1, .int a1), (2, .int a2), (3, .int a3), (4, .int a4)] [] M (f_X9_change a1 a2 a3 a4 M)
  unfold f_X9_change
  refine rw_iload_n C dX9_change_0 rfl 1 rfl ?_
  refine rw_callSPi (As := [.int a1]) C hR dX9_change_1 cs_X9_165 (k_X9_isYear g.2.1 κ a1 M) (by decide) (by decide) rfl (Nat.le_of_ble_eq_true rfl) rfl (fun x1 => ?_)
  refine rw_if_eq (tgt := 39) C dX9_change_4 (by decide) ?_ ?_
  · refine rw_bipush (c := (-2)) C dX9_change_39 (by decide) ?_
    exact rw_iret C dX9_change_41
  · refine rw_iload_n C dX9_change_7 rfl 2 rfl ?_
    refine rw_i2l C dX9_change_8 ?_
    refine rw_lconst (c := 0) C dX9_change_9 (by decide) ?_
    refine rw_ldc2_w (c := 3) C dX9_change_10 mw_446 ?_
    refine rw_callSPi (As := [.long (a2.toInt64), .long 0, .long 3]) C hR dX9_change_13 cs_X9_88 (k_X9_in g.2.1 κ a2.toInt64 0 3 M) (by decide) (by decide) rfl (Nat.le_of_ble_eq_true rfl) rfl (fun x2 => ?_)
    refine rw_if_eq (tgt := 39) C dX9_change_16 (by decide) ?_ ?_
    · refine rw_bipush (c := (-2)) C dX9_change_39 (by decide) ?_
      exact rw_iret C dX9_change_41
    · refine rw_iload_n C dX9_change_19 rfl 3 rfl ?_
      refine rw_callSPi (As := [.int a3]) C hR dX9_change_20 cs_X9_168 (k_X9_isUnit g.2.1 κ a3 M) (by decide) (by decide) rfl (Nat.le_of_ble_eq_true rfl) rfl (fun x3 => ?_)
      refine rw_if_eq (tgt := 39) C dX9_change_23 (by decide) ?_ ?_
      · refine rw_bipush (c := (-2)) C dX9_change_39 (by decide) ?_
        exact rw_iret C dX9_change_41
      · refine rw_iload C dX9_change_26 4 rfl ?_
        refine rw_i2l C dX9_change_28 ?_
        refine rw_lconst (c := 1) C dX9_change_29 (by decide) ?_
        refine rw_ldc2_w (c := 9) C dX9_change_30 mw_362 ?_
        refine rw_callSPi (As := [.long (a4.toInt64), .long 1, .long 9]) C hR dX9_change_33 cs_X9_88 (k_X9_in g.2.1 κ a4.toInt64 1 9 M) (by decide) (by decide) rfl (Nat.le_of_ble_eq_true rfl) rfl (fun x4 => ?_)
        refine rw_if_ne (tgt := 42) C dX9_change_36 (by decide) ?_ ?_
        · refine rw_aload_n C dX9_change_42 rfl 0 rfl ?_
          refine rw_getI (k0 := 196) C dX9_change_43 fl_X9_171 rfl (by decide) sh_196 (by decide) (fun x5 => ?_)
          refine rw_bipush (c := 10) C dX9_change_46 (by decide) ?_
          refine rw_icmp_ne (tgt := 54) C dX9_change_48 (by decide) ?_ ?_
          · refine rw_aload_n C dX9_change_54 rfl 0 rfl ?_
            refine rw_getR (k0 := 196) (k1 := 207) C dX9_change_55 fl_X9_40 rfl (by decide) sh_196 (by decide) rfl ?_
            refine rw_iconst (c := 4) C dX9_change_58 ci_4 ?_
            refine rw_aload_n C dX9_change_59 rfl 0 rfl ?_
            refine rw_getI (k0 := 196) C dX9_change_60 fl_X9_171 rfl (by decide) sh_196 (by decide) (fun x6 => ?_)
            refine rw_imul C dX9_change_63 ?_
            refine rw_iload_n C dX9_change_64 rfl 1 rfl ?_
            refine rw_stI C dX9_change_65 (fun M1 => ?_)
            refine rw_aload_n C dX9_change_66 rfl 0 rfl ?_
            refine rw_getR (k0 := 196) (k1 := 207) C dX9_change_67 fl_X9_40 rfl (by decide) sh_196 (by decide) rfl ?_
            refine rw_iconst (c := 4) C dX9_change_70 ci_4 ?_
            refine rw_aload_n C dX9_change_71 rfl 0 rfl ?_
            refine rw_getI (k0 := 196) C dX9_change_72 fl_X9_171 rfl (by decide) sh_196 (by decide) (fun x7 => ?_)
            refine rw_imul C dX9_change_75 ?_
            refine rw_iconst (c := 1) C dX9_change_76 ci_1 ?_
            refine rw_iadd C dX9_change_77 ?_
            refine rw_iload_n C dX9_change_78 rfl 2 rfl ?_
            refine rw_stI C dX9_change_79 (fun M2 => ?_)
            refine rw_aload_n C dX9_change_80 rfl 0 rfl ?_
            refine rw_getR (k0 := 196) (k1 := 207) C dX9_change_81 fl_X9_40 rfl (by decide) sh_196 (by decide) rfl ?_
            refine rw_iconst (c := 4) C dX9_change_84 ci_4 ?_
            refine rw_aload_n C dX9_change_85 rfl 0 rfl ?_
            refine rw_getI (k0 := 196) C dX9_change_86 fl_X9_171 rfl (by decide) sh_196 (by decide) (fun x8 => ?_)
            refine rw_imul C dX9_change_89 ?_
            refine rw_iconst (c := 2) C dX9_change_90 ci_2 ?_
            refine rw_iadd C dX9_change_91 ?_
            refine rw_iload_n C dX9_change_92 rfl 3 rfl ?_
            refine rw_stI C dX9_change_93 (fun M3 => ?_)
            refine rw_aload_n C dX9_change_94 rfl 0 rfl ?_
            refine rw_getR (k0 := 196) (k1 := 207) C dX9_change_95 fl_X9_40 rfl (by decide) sh_196 (by decide) rfl ?_
            refine rw_iconst (c := 4) C dX9_change_98 ci_4 ?_
            refine rw_aload_n C dX9_change_99 rfl 0 rfl ?_
            refine rw_getI (k0 := 196) C dX9_change_100 fl_X9_171 rfl (by decide) sh_196 (by decide) (fun x9 => ?_)
            refine rw_imul C dX9_change_103 ?_
            refine rw_iconst (c := 3) C dX9_change_104 ci_3 ?_
            refine rw_iadd C dX9_change_105 ?_
            refine rw_iload C dX9_change_106 4 rfl ?_
            refine rw_stI C dX9_change_108 (fun M4 => ?_)
            refine rw_aload_n C dX9_change_109 rfl 0 rfl ?_
            refine rw_dup C dX9_change_110 rfl ?_
            refine rw_getI (k0 := 196) C dX9_change_111 fl_X9_171 rfl (by decide) sh_196 (by decide) (fun x10 => ?_)
            refine rw_iconst (c := 1) C dX9_change_114 ci_1 ?_
            refine rw_iadd C dX9_change_115 ?_
            refine rw_put (k0 := 196) C dX9_change_116 fl_X9_171 ff_X9_12 rfl rfl rfl (by decide) sh_196 (by decide) (fun M5 => ?_)
            refine rw_aload_n C dX9_change_119 rfl 0 rfl ?_
            refine rw_getI (k0 := 196) C dX9_change_120 fl_X9_171 rfl (by decide) sh_196 (by decide) (fun x11 => ?_)
            exact rw_iret C dX9_change_123
          · refine rw_bipush (c := (-4)) C dX9_change_51 (by decide) ?_
            exact rw_iret C dX9_change_53
        · refine rw_bipush (c := (-2)) C dX9_change_39 (by decide) ?_
          exact rw_iret C dX9_change_41
def f_X9_ticketOf_L18 (M : pv_M) (a1 : Int32) (a2 : Int32) (a3 : Int32) (rec1 : Int32 → Int32 → Int32 → Option Int32) (x2 : Int32) (x3 : Int32) (x4 : Int32) : Option Int32 := pv_nm (M.1 196 12) (fun x5 => (if x5 ≤ x4 then some x2 else pv_ldI pv_T 207 ((4 * x4) + 1) M (fun x6 => pv_jn (fun (x7 : Int32) => (if x7 = 0 then rec1 x2 x3 (x4 + 1) else pv_ldI pv_T 207 (4 * x4) M (fun x8 => pv_cap (f_X9_in x8.toInt64 x3.toInt64 a1.toInt64 M) (fun x9 => (if x9 = 0 then rec1 x2 x3 (x4 + 1) else pv_ldI pv_T 207 (4 * x4) M (fun x10 => pv_ldI pv_T 207 ((4 * x4) + 3) M (fun x11 => rec1 x11 x10 (x4 + 1)))))))) (fun j1 => (if x6 = a2 then pv_ldI pv_T 207 ((4 * x4) + 2) M (fun x12 => (if x12 = a3 then j1 1 else j1 0)) else j1 0)))))
def f_X9_ticketOf (a1 : Int32) (a2 : Int32) (a3 : Int32) (M : pv_M) : Option Int32 := pv_ldI pv_T 204 ((3 * a2) + a3) M (fun x1 => pv_lp3 (f_X9_ticketOf_L18 M a1 a2 a3) pv_FU x1 ((-1)) 0)
set_option maxHeartbeats 4000000 in
set_option maxRecDepth 100000 in
theorem k_X9_ticketOf (l : Launch) (κ : pv_K) (a1 : Int32) (a2 : Int32) (a3 : Int32) (M : pv_M) : pv_MtP l yX9_ticketOf cX9_ticketOf 8 (some .int) 1 κ [.ref (κ.1 + 196), .int a1, .int a2, .int a3] M pv_ji (f_X9_ticketOf a1 a2 a3 M) := by
  refine pv_enterP (by decide +kernel) (Nat.le_of_ble_eq_true rfl) (fun g hl hR C => ?_)
  have C : pv_Ok g κ 8 cX9_ticketOf RX9 (some .int) := C
  show pv_R g κ pv_T pv_RF 8 0 0 (pv_QP g κ pv_ji M) 0 [(0, .ref (κ.1 + 196)), (1, .int a1), (2, .int a2), (3, .int a3)] [] M (f_X9_ticketOf a1 a2 a3 M)
  unfold f_X9_ticketOf
  refine rw_aload_n C dX9_ticketOf_0 rfl 0 rfl ?_
  refine rw_getR (k0 := 196) (k1 := 204) C dX9_ticketOf_1 fl_X9_31 rfl (by decide) sh_196 (by decide) rfl ?_
  refine rw_iconst (c := 3) C dX9_ticketOf_4 ci_3 ?_
  refine rw_iload_n C dX9_ticketOf_5 rfl 2 rfl ?_
  refine rw_imul C dX9_ticketOf_6 ?_
  refine rw_iload_n C dX9_ticketOf_7 rfl 3 rfl ?_
  refine rw_iadd C dX9_ticketOf_8 ?_
  refine rw_ldI C dX9_ticketOf_9 (fun x1 => ?_)
  refine rw_istore (lv' := [(4, .int x1), (0, .ref (κ.1 + 196)), (1, .int a1), (2, .int a2), (3, .int a3)]) C dX9_ticketOf_10 (by decide) rfl ?_
  refine rw_iconst (c := (-1)) C dX9_ticketOf_12 ci_m1 ?_
  refine rw_istore (lv' := [(5, .int (-1)), (4, .int x1), (0, .ref (κ.1 + 196)), (1, .int a1), (2, .int a2), (3, .int a3)]) C dX9_ticketOf_13 (by decide) rfl ?_
  refine rw_iconst (c := 0) C dX9_ticketOf_15 ci_0 ?_
  refine rw_istore (lv' := [(6, .int 0), (5, .int (-1)), (4, .int x1), (0, .ref (κ.1 + 196)), (1, .int a1), (2, .int a2), (3, .int a3)]) C dX9_ticketOf_16 (by decide) rfl ?_
  refine rw_lv (lv' := [(0, .ref (κ.1 + 196)), (1, .int a1), (2, .int a2), (3, .int a3), (4, .int x1), (5, .int (-1)), (6, .int 0)]) [3, 4, 5, 6, 2, 1, 0] rfl ?_
  refine pv_lp3_ind (fun x2 x3 x4 xx => pv_R g κ pv_T pv_RF 8 0 0 (pv_QP g κ pv_ji M) 18 [(0, .ref (κ.1 + 196)), (1, .int a1), (2, .int a2), (3, .int a3), (4, .int x2), (5, .int x3), (6, .int x4)] [] M xx) (fun _ _ _ => rw_none) (fun rec1 hrec1 x2 x3 x4 => ?_) _ _ _ _
  unfold f_X9_ticketOf_L18
  refine rw_iload C dX9_ticketOf_18 6 rfl ?_
  refine rw_aload_n C dX9_ticketOf_20 rfl 0 rfl ?_
  refine rw_getI (k0 := 196) C dX9_ticketOf_21 fl_X9_171 rfl (by decide) sh_196 (by decide) (fun x5 => ?_)
  refine rw_icmp_ge (tgt := 120) C dX9_ticketOf_24 (by decide) ?_ ?_
  · refine rw_iload C dX9_ticketOf_120 4 rfl ?_
    exact rw_iretP C dX9_ticketOf_122
  · refine rw_aload_n C dX9_ticketOf_27 rfl 0 rfl ?_
    refine rw_getR (k0 := 196) (k1 := 207) C dX9_ticketOf_28 fl_X9_40 rfl (by decide) sh_196 (by decide) rfl ?_
    refine rw_iconst (c := 4) C dX9_ticketOf_31 ci_4 ?_
    refine rw_iload C dX9_ticketOf_32 6 rfl ?_
    refine rw_imul C dX9_ticketOf_34 ?_
    refine rw_iconst (c := 1) C dX9_ticketOf_35 ci_1 ?_
    refine rw_iadd C dX9_ticketOf_36 ?_
    refine rw_ldI C dX9_ticketOf_37 (fun x6 => ?_)
    refine rw_iload_n C dX9_ticketOf_38 rfl 2 rfl ?_
    refine rw_jn (fun j1 => ∀ (x7 : Int32), pv_R g κ pv_T pv_RF 8 0 0 (pv_QP g κ pv_ji M) 62 [(0, .ref (κ.1 + 196)), (1, .int a1), (2, .int a2), (3, .int a3), (4, .int x2), (5, .int x3), (6, .int x4)] [.int x7] M (j1 x7)) (fun x7 => ?_) (fun j1 hj1 => ?_)
    · refine rw_istore (lv' := [(7, .int x7), (0, .ref (κ.1 + 196)), (1, .int a1), (2, .int a2), (3, .int a3), (4, .int x2), (5, .int x3), (6, .int x4)]) C dX9_ticketOf_62 (by decide) rfl ?_
      refine rw_iload C dX9_ticketOf_64 0 rfl ?_
      refine rw_if_eq (tgt := 114) C dX9_ticketOf_66 (by decide) ?_ ?_
      · refine rw_iinc (c := 1) (lv' := [(6, .int (x4 + 1)), (7, .int x7), (0, .ref (κ.1 + 196)), (1, .int a1), (2, .int a2), (3, .int a3), (4, .int x2), (5, .int x3)]) C dX9_ticketOf_114 7 rfl (by decide) (by decide) rfl ?_
        refine rw_goto (tgt := 18) C dX9_ticketOf_117 (by decide) ?_
        exact rw_lv [2, 3, 4, 5, 6, 7, 0] rfl (hrec1 x2 x3 (x4 + 1))
      · refine rw_aload_n C dX9_ticketOf_69 rfl 1 rfl ?_
        refine rw_getR (k0 := 196) (k1 := 207) C dX9_ticketOf_70 fl_X9_40 rfl (by decide) sh_196 (by decide) rfl ?_
        refine rw_iconst (c := 4) C dX9_ticketOf_73 ci_4 ?_
        refine rw_iload C dX9_ticketOf_74 7 rfl ?_
        refine rw_imul C dX9_ticketOf_76 ?_
        refine rw_ldI C dX9_ticketOf_77 (fun x8 => ?_)
        refine rw_i2l C dX9_ticketOf_78 ?_
        refine rw_iload C dX9_ticketOf_79 6 rfl ?_
        refine rw_i2l C dX9_ticketOf_81 ?_
        refine rw_iload_n C dX9_ticketOf_82 rfl 2 rfl ?_
        refine rw_i2l C dX9_ticketOf_83 ?_
        refine rw_callSPi (As := [.long (x8.toInt64), .long (x3.toInt64), .long (a1.toInt64)]) C hR dX9_ticketOf_84 cs_X9_88 (k_X9_in g.2.1 κ x8.toInt64 x3.toInt64 a1.toInt64 M) (by decide) (by decide) rfl (Nat.le_of_ble_eq_true rfl) rfl (fun x9 => ?_)
        refine rw_if_eq (tgt := 114) C dX9_ticketOf_87 (by decide) ?_ ?_
        · refine rw_iinc (c := 1) (lv' := [(6, .int (x4 + 1)), (7, .int x7), (0, .ref (κ.1 + 196)), (1, .int a1), (2, .int a2), (3, .int a3), (4, .int x2), (5, .int x3)]) C dX9_ticketOf_114 7 rfl (by decide) (by decide) rfl ?_
          refine rw_goto (tgt := 18) C dX9_ticketOf_117 (by decide) ?_
          exact rw_lv [2, 3, 4, 5, 6, 7, 0] rfl (hrec1 x2 x3 (x4 + 1))
        · refine rw_aload_n C dX9_ticketOf_90 rfl 1 rfl ?_
          refine rw_getR (k0 := 196) (k1 := 207) C dX9_ticketOf_91 fl_X9_40 rfl (by decide) sh_196 (by decide) rfl ?_
          refine rw_iconst (c := 4) C dX9_ticketOf_94 ci_4 ?_
          refine rw_iload C dX9_ticketOf_95 7 rfl ?_
          refine rw_imul C dX9_ticketOf_97 ?_
          refine rw_ldI C dX9_ticketOf_98 (fun x10 => ?_)
          refine rw_istore (lv' := [(5, .int x10), (7, .int x7), (0, .ref (κ.1 + 196)), (1, .int a1), (2, .int a2), (3, .int a3), (4, .int x2), (6, .int x4)]) C dX9_ticketOf_99 (by decide) rfl ?_
          refine rw_aload_n C dX9_ticketOf_101 rfl 2 rfl ?_
          refine rw_getR (k0 := 196) (k1 := 207) C dX9_ticketOf_102 fl_X9_40 rfl (by decide) sh_196 (by decide) rfl ?_
          refine rw_iconst (c := 4) C dX9_ticketOf_105 ci_4 ?_
          refine rw_iload C dX9_ticketOf_106 7 rfl ?_
          refine rw_imul C dX9_ticketOf_108 ?_
          refine rw_iconst (c := 3) C dX9_ticketOf_109 ci_3 ?_
          refine rw_iadd C dX9_ticketOf_110 ?_
          refine rw_ldI C dX9_ticketOf_111 (fun x11 => ?_)
          refine rw_istore (lv' := [(4, .int x11), (5, .int x10), (7, .int x7), (0, .ref (κ.1 + 196)), (1, .int a1), (2, .int a2), (3, .int a3), (6, .int x4)]) C dX9_ticketOf_112 (by decide) rfl ?_
          refine rw_iinc (c := 1) (lv' := [(6, .int (x4 + 1)), (4, .int x11), (5, .int x10), (7, .int x7), (0, .ref (κ.1 + 196)), (1, .int a1), (2, .int a2), (3, .int a3)]) C dX9_ticketOf_114 7 rfl (by decide) (by decide) rfl ?_
          refine rw_goto (tgt := 18) C dX9_ticketOf_117 (by decide) ?_
          exact rw_lv [4, 5, 6, 7, 1, 2, 0] rfl (hrec1 x11 x10 (x4 + 1))
    · refine rw_icmp_ne (tgt := 61) C dX9_ticketOf_39 (by decide) ?_ ?_
      · refine rw_iconst (c := 0) C dX9_ticketOf_61 ci_0 ?_
        exact hj1 0
      · refine rw_aload_n C dX9_ticketOf_42 rfl 0 rfl ?_
        refine rw_getR (k0 := 196) (k1 := 207) C dX9_ticketOf_43 fl_X9_40 rfl (by decide) sh_196 (by decide) rfl ?_
        refine rw_iconst (c := 4) C dX9_ticketOf_46 ci_4 ?_
        refine rw_iload C dX9_ticketOf_47 6 rfl ?_
        refine rw_imul C dX9_ticketOf_49 ?_
        refine rw_iconst (c := 2) C dX9_ticketOf_50 ci_2 ?_
        refine rw_iadd C dX9_ticketOf_51 ?_
        refine rw_ldI C dX9_ticketOf_52 (fun x12 => ?_)
        refine rw_iload_n C dX9_ticketOf_53 rfl 3 rfl ?_
        refine rw_icmp_ne (tgt := 61) C dX9_ticketOf_54 (by decide) ?_ ?_
        · refine rw_iconst (c := 0) C dX9_ticketOf_61 ci_0 ?_
          exact hj1 0
        · refine rw_iconst (c := 1) C dX9_ticketOf_57 ci_1 ?_
          refine rw_goto (tgt := 62) C dX9_ticketOf_58 (by decide) ?_
          exact hj1 1
def f_X9_ticket (a1 : Int32) (a2 : Int32) (a3 : Int32) (M : pv_M) : Option (Int32 × pv_M) := pv_cal (f_X9_reads M) (fun u1 M1 => pv_cap (f_X9_isYear a1 M1) (fun x1 => (if x1 = 0 then some ((-2), M1) else pv_cap (f_X9_isParty a2 M1) (fun x2 => (if x2 = 0 then some ((-2), M1) else pv_cap (f_X9_isUnit a3 M1) (fun x3 => (if x3 = 0 then some ((-2), M1) else pv_cap (f_X9_ticketOf a1 a2 a3 M1) (fun x4 => some (x4, M1)))))))))
set_option maxHeartbeats 4000000 in
set_option maxRecDepth 100000 in
theorem k_X9_ticket (l : Launch) (κ : pv_K) (a1 : Int32) (a2 : Int32) (a3 : Int32) (M : pv_M) : pv_Mt l yX9_ticket cX9_ticket 4 (some .int) 5 κ [.ref (κ.1 + 196), .int a1, .int a2, .int a3] M pv_ji (f_X9_ticket a1 a2 a3 M) := by
  refine pv_enter (by decide +kernel) (Nat.le_of_ble_eq_true rfl) (fun g hl hR C => ?_)
  have C : pv_Ok g κ 4 cX9_ticket RX9 (some .int) := C
  show pv_R g κ pv_T pv_RF 4 0 0 (pv_QF g κ pv_ji) 0 [(0, .ref (κ.1 + 196)), (1, .int a1), (2, .int a2), (3, .int a3)] [] M (f_X9_ticket a1 a2 a3 M)
  unfold f_X9_ticket
  refine rw_aload_n C dX9_ticket_0 rfl 0 rfl ?_
  refine rw_callVu (As := []) (k0 := 196) C hR dX9_ticket_1 cv_X9_151 (k_X9_reads g.2.1 κ M) (by decide) (by decide) (by decide) sh_196 rfl rfl (Nat.le_of_ble_eq_true rfl) rfl (fun u1 M1 => ?_)
  refine rw_iload_n C dX9_ticket_4 rfl 1 rfl ?_
  refine rw_callSPi (As := [.int a1]) C hR dX9_ticket_5 cs_X9_165 (k_X9_isYear g.2.1 κ a1 M1) (by decide) (by decide) rfl (Nat.le_of_ble_eq_true rfl) rfl (fun x1 => ?_)
  refine rw_if_eq (tgt := 36) C dX9_ticket_8 (by decide) ?_ ?_
  · refine rw_bipush (c := (-2)) C dX9_ticket_36 (by decide) ?_
    exact rw_iret C dX9_ticket_38
  · refine rw_aload_n C dX9_ticket_11 rfl 0 rfl ?_
    refine rw_iload_n C dX9_ticket_12 rfl 2 rfl ?_
    refine rw_callVPi (As := [.int a2]) (k0 := 196) C hR dX9_ticket_13 cv_X9_174 (k_X9_isParty g.2.1 κ a2 M1) (by decide) (by decide) (by decide) sh_196 rfl rfl (Nat.le_of_ble_eq_true rfl) rfl (fun x2 => ?_)
    refine rw_if_eq (tgt := 36) C dX9_ticket_16 (by decide) ?_ ?_
    · refine rw_bipush (c := (-2)) C dX9_ticket_36 (by decide) ?_
      exact rw_iret C dX9_ticket_38
    · refine rw_iload_n C dX9_ticket_19 rfl 3 rfl ?_
      refine rw_callSPi (As := [.int a3]) C hR dX9_ticket_20 cs_X9_168 (k_X9_isUnit g.2.1 κ a3 M1) (by decide) (by decide) rfl (Nat.le_of_ble_eq_true rfl) rfl (fun x3 => ?_)
      refine rw_if_eq (tgt := 36) C dX9_ticket_23 (by decide) ?_ ?_
      · refine rw_bipush (c := (-2)) C dX9_ticket_36 (by decide) ?_
        exact rw_iret C dX9_ticket_38
      · refine rw_aload_n C dX9_ticket_26 rfl 0 rfl ?_
        refine rw_iload_n C dX9_ticket_27 rfl 1 rfl ?_
        refine rw_iload_n C dX9_ticket_28 rfl 2 rfl ?_
        refine rw_iload_n C dX9_ticket_29 rfl 3 rfl ?_
        refine rw_callVPi (As := [.int a1, .int a2, .int a3]) (k0 := 196) C hR dX9_ticket_30 cv_X9_177 (k_X9_ticketOf g.2.1 κ a1 a2 a3 M1) (by decide) (by decide) (by decide) sh_196 rfl rfl (Nat.le_of_ble_eq_true rfl) rfl (fun x4 => ?_)
        refine rw_goto (tgt := 38) C dX9_ticket_33 (by decide) ?_
        exact rw_iret C dX9_ticket_38
def f_X9_unitOf (a1 : Int32) (M : pv_M) : Option Int32 := pv_ldI pv_T 204 (24 + (3 * a1)) M (fun x1 => some x1)
set_option maxHeartbeats 4000000 in
set_option maxRecDepth 100000 in
theorem k_X9_unitOf (l : Launch) (κ : pv_K) (a1 : Int32) (M : pv_M) : pv_MtP l yX9_unitOf cX9_unitOf 2 (some .int) 0 κ [.ref (κ.1 + 196), .int a1] M pv_ji (f_X9_unitOf a1 M) := by
  refine pv_enterP (by decide +kernel) (Nat.le_of_ble_eq_true rfl) (fun g hl hR C => ?_)
  have C : pv_Ok g κ 2 cX9_unitOf RX9 (some .int) := C
  show pv_R g κ pv_T pv_RF 2 0 0 (pv_QP g κ pv_ji M) 0 [(0, .ref (κ.1 + 196)), (1, .int a1)] [] M (f_X9_unitOf a1 M)
  unfold f_X9_unitOf
  refine rw_aload_n C dX9_unitOf_0 rfl 0 rfl ?_
  refine rw_getR (k0 := 196) (k1 := 204) C dX9_unitOf_1 fl_X9_31 rfl (by decide) sh_196 (by decide) rfl ?_
  refine rw_bipush (c := 24) C dX9_unitOf_4 (by decide) ?_
  refine rw_iconst (c := 3) C dX9_unitOf_6 ci_3 ?_
  refine rw_iload_n C dX9_unitOf_7 rfl 1 rfl ?_
  refine rw_imul C dX9_unitOf_8 ?_
  refine rw_iadd C dX9_unitOf_9 ?_
  refine rw_ldI C dX9_unitOf_10 (fun x1 => ?_)
  exact rw_iretP C dX9_unitOf_11
def f_X9_holds (a1 : Int32) (M : pv_M) : Option Int32 := pv_ldI pv_T 204 (25 + (3 * a1)) M (fun x1 => (if x1 = 1 then pv_ldI pv_T 204 (26 + (3 * a1)) M (fun x3 => some x3) else pv_ldI pv_T 204 (26 + (3 * a1)) M (fun x2 => some (-x2))))
set_option maxHeartbeats 4000000 in
set_option maxRecDepth 100000 in
theorem k_X9_holds (l : Launch) (κ : pv_K) (a1 : Int32) (M : pv_M) : pv_MtP l yX9_holds cX9_holds 2 (some .int) 0 κ [.ref (κ.1 + 196), .int a1] M pv_ji (f_X9_holds a1 M) := by
  refine pv_enterP (by decide +kernel) (Nat.le_of_ble_eq_true rfl) (fun g hl hR C => ?_)
  have C : pv_Ok g κ 2 cX9_holds RX9 (some .int) := C
  show pv_R g κ pv_T pv_RF 2 0 0 (pv_QP g κ pv_ji M) 0 [(0, .ref (κ.1 + 196)), (1, .int a1)] [] M (f_X9_holds a1 M)
  unfold f_X9_holds
  refine rw_aload_n C dX9_holds_0 rfl 0 rfl ?_
  refine rw_getR (k0 := 196) (k1 := 204) C dX9_holds_1 fl_X9_31 rfl (by decide) sh_196 (by decide) rfl ?_
  refine rw_bipush (c := 25) C dX9_holds_4 (by decide) ?_
  refine rw_iconst (c := 3) C dX9_holds_6 ci_3 ?_
  refine rw_iload_n C dX9_holds_7 rfl 1 rfl ?_
  refine rw_imul C dX9_holds_8 ?_
  refine rw_iadd C dX9_holds_9 ?_
  refine rw_ldI C dX9_holds_10 (fun x1 => ?_)
  refine rw_iconst (c := 1) C dX9_holds_11 ci_1 ?_
  refine rw_icmp_ne (tgt := 29) C dX9_holds_12 (by decide) ?_ ?_
  · refine rw_aload_n C dX9_holds_29 rfl 0 rfl ?_
    refine rw_getR (k0 := 196) (k1 := 204) C dX9_holds_30 fl_X9_31 rfl (by decide) sh_196 (by decide) rfl ?_
    refine rw_bipush (c := 26) C dX9_holds_33 (by decide) ?_
    refine rw_iconst (c := 3) C dX9_holds_35 ci_3 ?_
    refine rw_iload_n C dX9_holds_36 rfl 1 rfl ?_
    refine rw_imul C dX9_holds_37 ?_
    refine rw_iadd C dX9_holds_38 ?_
    refine rw_ldI C dX9_holds_39 (fun x2 => ?_)
    refine rw_ineg C dX9_holds_40 ?_
    exact rw_iretP C dX9_holds_41
  · refine rw_aload_n C dX9_holds_15 rfl 0 rfl ?_
    refine rw_getR (k0 := 196) (k1 := 204) C dX9_holds_16 fl_X9_31 rfl (by decide) sh_196 (by decide) rfl ?_
    refine rw_bipush (c := 26) C dX9_holds_19 (by decide) ?_
    refine rw_iconst (c := 3) C dX9_holds_21 ci_3 ?_
    refine rw_iload_n C dX9_holds_22 rfl 1 rfl ?_
    refine rw_imul C dX9_holds_23 ?_
    refine rw_iadd C dX9_holds_24 ?_
    refine rw_ldI C dX9_holds_25 (fun x3 => ?_)
    refine rw_goto (tgt := 41) C dX9_holds_26 (by decide) ?_
    exact rw_iretP C dX9_holds_41
def f_X9_gain (a1 : Int32) (a2 : Int32) (a3 : Int32) (M : pv_M) : Option Int32 := pv_cap (f_X9_holds a3 M) (fun x1 => pv_cap (f_X9_unitOf a3 M) (fun x2 => pv_cap (f_X9_ticketOf a1 a2 x2 M) (fun x3 => some (x1 * x3))))
set_option maxHeartbeats 4000000 in
set_option maxRecDepth 100000 in
theorem k_X9_gain (l : Launch) (κ : pv_K) (a1 : Int32) (a2 : Int32) (a3 : Int32) (M : pv_M) : pv_MtP l yX9_gain cX9_gain 4 (some .int) 2 κ [.ref (κ.1 + 196), .int a1, .int a2, .int a3] M pv_ji (f_X9_gain a1 a2 a3 M) := by
  refine pv_enterP (by decide +kernel) (Nat.le_of_ble_eq_true rfl) (fun g hl hR C => ?_)
  have C : pv_Ok g κ 4 cX9_gain RX9 (some .int) := C
  show pv_R g κ pv_T pv_RF 4 0 0 (pv_QP g κ pv_ji M) 0 [(0, .ref (κ.1 + 196)), (1, .int a1), (2, .int a2), (3, .int a3)] [] M (f_X9_gain a1 a2 a3 M)
  unfold f_X9_gain
  refine rw_aload_n C dX9_gain_0 rfl 0 rfl ?_
  refine rw_iload_n C dX9_gain_1 rfl 3 rfl ?_
  refine rw_callVPi (As := [.int a3]) (k0 := 196) C hR dX9_gain_2 cv_X9_180 (k_X9_holds g.2.1 κ a3 M) (by decide) (by decide) (by decide) sh_196 rfl rfl (Nat.le_of_ble_eq_true rfl) rfl (fun x1 => ?_)
  refine rw_aload_n C dX9_gain_5 rfl 0 rfl ?_
  refine rw_iload_n C dX9_gain_6 rfl 1 rfl ?_
  refine rw_iload_n C dX9_gain_7 rfl 2 rfl ?_
  refine rw_aload_n C dX9_gain_8 rfl 0 rfl ?_
  refine rw_iload_n C dX9_gain_9 rfl 3 rfl ?_
  refine rw_callVPi (As := [.int a3]) (k0 := 196) C hR dX9_gain_10 cv_X9_183 (k_X9_unitOf g.2.1 κ a3 M) (by decide) (by decide) (by decide) sh_196 rfl rfl (Nat.le_of_ble_eq_true rfl) rfl (fun x2 => ?_)
  refine rw_callVPi (As := [.int a1, .int a2, .int x2]) (k0 := 196) C hR dX9_gain_13 cv_X9_177 (k_X9_ticketOf g.2.1 κ a1 a2 x2 M) (by decide) (by decide) (by decide) sh_196 rfl rfl (Nat.le_of_ble_eq_true rfl) rfl (fun x3 => ?_)
  refine rw_imul C dX9_gain_16 ?_
  exact rw_iretP C dX9_gain_17
def f_X9_choice_L15 (M : pv_M) (a1 : Int32) (a2 : Int32) (a3 : Int32) (rec1 : Int32 → Int32 → Option Int32) (x2 : Int32) (x3 : Int32) : Option Int32 := pv_ldI pv_T 203 0 M (fun x4 => (if x4 ≤ x3 then some x2 else pv_cap (f_X9_gain a1 x3 a2 M) (fun x5 => pv_cap (f_X9_gain a1 x2 a2 M) (fun x6 => pv_nm (x5 - x6) (fun x7 => (if 0 < x7 then rec1 x3 (x3 + 1) else (if x7 = 0 then (if x2 = a3 then rec1 x2 (x3 + 1) else (if x2 ≤ x3 then rec1 x2 (x3 + 1) else rec1 x3 (x3 + 1))) else rec1 x2 (x3 + 1))))))))
def f_X9_choice (a1 : Int32) (a2 : Int32) (a3 : Int32) (M : pv_M) : Option Int32 := pv_jn (fun (x1 : Int32) => pv_lp2 (f_X9_choice_L15 M a1 a2 a3) pv_FU x1 0) (fun j1 => (if a3 = ((-1)) then j1 0 else j1 a3))
set_option maxHeartbeats 4000000 in
set_option maxRecDepth 100000 in
theorem k_X9_choice (l : Launch) (κ : pv_K) (a1 : Int32) (a2 : Int32) (a3 : Int32) (M : pv_M) : pv_MtP l yX9_choice cX9_choice 7 (some .int) 3 κ [.ref (κ.1 + 196), .int a1, .int a2, .int a3] M pv_ji (f_X9_choice a1 a2 a3 M) := by
  refine pv_enterP (by decide +kernel) (Nat.le_of_ble_eq_true rfl) (fun g hl hR C => ?_)
  have C : pv_Ok g κ 7 cX9_choice RX9 (some .int) := C
  show pv_R g κ pv_T pv_RF 7 0 0 (pv_QP g κ pv_ji M) 0 [(0, .ref (κ.1 + 196)), (1, .int a1), (2, .int a2), (3, .int a3)] [] M (f_X9_choice a1 a2 a3 M)
  unfold f_X9_choice
  refine rw_iload_n C dX9_choice_0 rfl 3 rfl ?_
  refine rw_iconst (c := (-1)) C dX9_choice_1 ci_m1 ?_
  refine rw_jn (fun j1 => ∀ (x1 : Int32), pv_R g κ pv_T pv_RF 7 0 0 (pv_QP g κ pv_ji M) 10 [(0, .ref (κ.1 + 196)), (1, .int a1), (2, .int a2), (3, .int a3)] [.int x1] M (j1 x1)) (fun x1 => ?_) (fun j1 hj1 => ?_)
  · refine rw_istore (lv' := [(4, .int x1), (0, .ref (κ.1 + 196)), (1, .int a1), (2, .int a2), (3, .int a3)]) C dX9_choice_10 (by decide) rfl ?_
    refine rw_iconst (c := 0) C dX9_choice_12 ci_0 ?_
    refine rw_istore (lv' := [(5, .int 0), (4, .int x1), (0, .ref (κ.1 + 196)), (1, .int a1), (2, .int a2), (3, .int a3)]) C dX9_choice_13 (by decide) rfl ?_
    refine rw_lv (lv' := [(0, .ref (κ.1 + 196)), (1, .int a1), (2, .int a2), (3, .int a3), (4, .int x1), (5, .int 0)]) [2, 3, 4, 5, 1, 0] rfl ?_
    refine pv_lp2_ind (fun x2 x3 xx => pv_R g κ pv_T pv_RF 7 0 0 (pv_QP g κ pv_ji M) 15 [(0, .ref (κ.1 + 196)), (1, .int a1), (2, .int a2), (3, .int a3), (4, .int x2), (5, .int x3)] [] M xx) (fun _ _ => rw_none) (fun rec1 hrec1 x2 x3 => ?_) _ _ _
    unfold f_X9_choice_L15
    refine rw_iload C dX9_choice_15 5 rfl ?_
    refine rw_aload_n C dX9_choice_17 rfl 0 rfl ?_
    refine rw_getR (k0 := 196) (k1 := 203) C dX9_choice_18 fl_X9_28 rfl (by decide) sh_196 (by decide) rfl ?_
    refine rw_iconst (c := 0) C dX9_choice_21 ci_0 ?_
    refine rw_ldI C dX9_choice_22 (fun x4 => ?_)
    refine rw_icmp_ge (tgt := 83) C dX9_choice_23 (by decide) ?_ ?_
    · refine rw_iload C dX9_choice_83 4 rfl ?_
      exact rw_iretP C dX9_choice_85
    · refine rw_aload_n C dX9_choice_26 rfl 0 rfl ?_
      refine rw_iload_n C dX9_choice_27 rfl 1 rfl ?_
      refine rw_iload C dX9_choice_28 5 rfl ?_
      refine rw_iload_n C dX9_choice_30 rfl 2 rfl ?_
      refine rw_callVPi (As := [.int a1, .int x3, .int a2]) (k0 := 196) C hR dX9_choice_31 cv_X9_186 (k_X9_gain g.2.1 κ a1 x3 a2 M) (by decide) (by decide) (by decide) sh_196 rfl rfl (Nat.le_of_ble_eq_true rfl) rfl (fun x5 => ?_)
      refine rw_aload_n C dX9_choice_34 rfl 0 rfl ?_
      refine rw_iload_n C dX9_choice_35 rfl 1 rfl ?_
      refine rw_iload C dX9_choice_36 4 rfl ?_
      refine rw_iload_n C dX9_choice_38 rfl 2 rfl ?_
      refine rw_callVPi (As := [.int a1, .int x2, .int a2]) (k0 := 196) C hR dX9_choice_39 cv_X9_186 (k_X9_gain g.2.1 κ a1 x2 a2 M) (by decide) (by decide) (by decide) sh_196 rfl rfl (Nat.le_of_ble_eq_true rfl) rfl (fun x6 => ?_)
      refine rw_isub C dX9_choice_42 ?_
      refine rw_nm (fun x7 => ?_)
      refine rw_istore (lv' := [(6, .int x7), (0, .ref (κ.1 + 196)), (1, .int a1), (2, .int a2), (3, .int a3), (4, .int x2), (5, .int x3)]) C dX9_choice_43 (by decide) rfl ?_
      refine rw_iload C dX9_choice_45 0 rfl ?_
      refine rw_if_gt (tgt := 68) C dX9_choice_47 (by decide) ?_ ?_
      · refine rw_iload C dX9_choice_68 6 rfl ?_
        refine rw_goto (tgt := 75) C dX9_choice_70 (by decide) ?_
        refine rw_istore (lv' := [(4, .int x3), (6, .int x7), (0, .ref (κ.1 + 196)), (1, .int a1), (2, .int a2), (3, .int a3), (5, .int x3)]) C dX9_choice_75 (by decide) rfl ?_
        refine rw_iinc (c := 1) (lv' := [(5, .int (x3 + 1)), (4, .int x3), (6, .int x7), (0, .ref (κ.1 + 196)), (1, .int a1), (2, .int a2), (3, .int a3)]) C dX9_choice_77 6 rfl (by decide) (by decide) rfl ?_
        refine rw_goto (tgt := 15) C dX9_choice_80 (by decide) ?_
        exact rw_lv [3, 4, 5, 6, 1, 0] rfl (hrec1 x3 (x3 + 1))
      · refine rw_iload C dX9_choice_50 0 rfl ?_
        refine rw_if_ne (tgt := 73) C dX9_choice_52 (by decide) ?_ ?_
        · refine rw_iload C dX9_choice_73 5 rfl ?_
          refine rw_istore (lv' := [(4, .int x2), (6, .int x7), (0, .ref (κ.1 + 196)), (1, .int a1), (2, .int a2), (3, .int a3), (5, .int x3)]) C dX9_choice_75 (by decide) rfl ?_
          refine rw_iinc (c := 1) (lv' := [(5, .int (x3 + 1)), (4, .int x2), (6, .int x7), (0, .ref (κ.1 + 196)), (1, .int a1), (2, .int a2), (3, .int a3)]) C dX9_choice_77 6 rfl (by decide) (by decide) rfl ?_
          refine rw_goto (tgt := 15) C dX9_choice_80 (by decide) ?_
          exact rw_lv [3, 4, 5, 6, 1, 0] rfl (hrec1 x2 (x3 + 1))
        · refine rw_iload C dX9_choice_55 5 rfl ?_
          refine rw_iload_n C dX9_choice_57 rfl 4 rfl ?_
          refine rw_icmp_eq (tgt := 73) C dX9_choice_58 (by decide) ?_ ?_
          · refine rw_iload C dX9_choice_73 5 rfl ?_
            refine rw_istore (lv' := [(4, .int x2), (6, .int x7), (0, .ref (κ.1 + 196)), (1, .int a1), (2, .int a2), (3, .int a3), (5, .int x3)]) C dX9_choice_75 (by decide) rfl ?_
            refine rw_iinc (c := 1) (lv' := [(5, .int (x3 + 1)), (4, .int x2), (6, .int x7), (0, .ref (κ.1 + 196)), (1, .int a1), (2, .int a2), (3, .int a3)]) C dX9_choice_77 6 rfl (by decide) (by decide) rfl ?_
            refine rw_goto (tgt := 15) C dX9_choice_80 (by decide) ?_
            exact rw_lv [3, 4, 5, 6, 1, 0] rfl (hrec1 x2 (x3 + 1))
          · refine rw_iload C dX9_choice_61 6 rfl ?_
            refine rw_iload C dX9_choice_63 5 rfl ?_
            refine rw_icmp_ge (tgt := 73) C dX9_choice_65 (by decide) ?_ ?_
            · refine rw_iload C dX9_choice_73 5 rfl ?_
              refine rw_istore (lv' := [(4, .int x2), (6, .int x7), (0, .ref (κ.1 + 196)), (1, .int a1), (2, .int a2), (3, .int a3), (5, .int x3)]) C dX9_choice_75 (by decide) rfl ?_
              refine rw_iinc (c := 1) (lv' := [(5, .int (x3 + 1)), (4, .int x2), (6, .int x7), (0, .ref (κ.1 + 196)), (1, .int a1), (2, .int a2), (3, .int a3)]) C dX9_choice_77 6 rfl (by decide) (by decide) rfl ?_
              refine rw_goto (tgt := 15) C dX9_choice_80 (by decide) ?_
              exact rw_lv [3, 4, 5, 6, 1, 0] rfl (hrec1 x2 (x3 + 1))
            · refine rw_iload C dX9_choice_68 6 rfl ?_
              refine rw_goto (tgt := 75) C dX9_choice_70 (by decide) ?_
              refine rw_istore (lv' := [(4, .int x3), (6, .int x7), (0, .ref (κ.1 + 196)), (1, .int a1), (2, .int a2), (3, .int a3), (5, .int x3)]) C dX9_choice_75 (by decide) rfl ?_
              refine rw_iinc (c := 1) (lv' := [(5, .int (x3 + 1)), (4, .int x3), (6, .int x7), (0, .ref (κ.1 + 196)), (1, .int a1), (2, .int a2), (3, .int a3)]) C dX9_choice_77 6 rfl (by decide) (by decide) rfl ?_
              refine rw_goto (tgt := 15) C dX9_choice_80 (by decide) ?_
              exact rw_lv [3, 4, 5, 6, 1, 0] rfl (hrec1 x3 (x3 + 1))
  · refine rw_icmp_ne (tgt := 9) C dX9_choice_2 (by decide) ?_ ?_
    · refine rw_iload_n C dX9_choice_9 rfl 3 rfl ?_
      exact hj1 a3
    · refine rw_iconst (c := 0) C dX9_choice_5 ci_0 ?_
      refine rw_goto (tgt := 10) C dX9_choice_6 (by decide) ?_
      exact hj1 0
def f_X9_approves_L36 (M : pv_M) (j1 : Int32 → Option Int32) (a1 : Int32) (a2 : Int32) (rec1 : Int32 → Int32 → Option Int32) (x4 : Int32) (x5 : Int32) : Option Int32 := pv_ldI pv_T 203 0 M (fun x6 => (if x6 ≤ x5 then j1 x4 else pv_cap (f_X9_gain a1 x5 a2 M) (fun x7 => pv_nm (x4 + x7) (fun x8 => rec1 x8 (x5 + 1)))))
def f_X9_approves (a1 : Int32) (a2 : Int32) (a3 : Int32) (a4 : Int32) (M : pv_M) : Option Int32 := (if a4 = ((-1)) then pv_jn (fun (x1 : Int32) => pv_cap (f_X9_gain a1 a3 a2 M) (fun x2 => pv_ldI pv_T 203 0 M (fun x3 => (if (x2 * x3) < x1 then some 0 else some 1)))) (fun j1 => pv_lp2 (f_X9_approves_L36 M j1 a1 a2) pv_FU 0 0) else pv_cap (f_X9_gain a1 a3 a2 M) (fun x9 => pv_cap (f_X9_gain a1 a4 a2 M) (fun x10 => (if x9 < x10 then some 0 else some 1))))
set_option maxHeartbeats 4000000 in
set_option maxRecDepth 100000 in
theorem k_X9_approves (l : Launch) (κ : pv_K) (a1 : Int32) (a2 : Int32) (a3 : Int32) (a4 : Int32) (M : pv_M) : pv_MtP l yX9_approves cX9_approves 7 (some .boolean) 3 κ [.ref (κ.1 + 196), .int a1, .int a2, .int a3, .int a4] M pv_ji (f_X9_approves a1 a2 a3 a4 M) := by
  refine pv_enterP (by decide +kernel) (Nat.le_of_ble_eq_true rfl) (fun g hl hR C => ?_)
  have C : pv_Ok g κ 7 cX9_approves RX9 (some .boolean) := C
  show pv_R g κ pv_T pv_RF 7 0 0 (pv_QP g κ pv_ji M) 0 [(0, .ref (κ.1 + 196)), (1, .int a1), (2, .int a2), (3, .int a3), (4, .int a4)] [] M (f_X9_approves a1 a2 a3 a4 M)
  unfold f_X9_approves
  refine rw_iload C dX9_approves_0 4 rfl ?_
  refine rw_iconst (c := (-1)) C dX9_approves_2 ci_m1 ?_
  refine rw_icmp_eq (tgt := 30) C dX9_approves_3 (by decide) ?_ ?_
  · refine rw_iconst (c := 0) C dX9_approves_30 ci_0 ?_
    refine rw_istore (lv' := [(5, .int 0), (0, .ref (κ.1 + 196)), (1, .int a1), (2, .int a2), (3, .int a3), (4, .int a4)]) C dX9_approves_31 (by decide) rfl ?_
    refine rw_iconst (c := 0) C dX9_approves_33 ci_0 ?_
    refine rw_istore (lv' := [(6, .int 0), (5, .int 0), (0, .ref (κ.1 + 196)), (1, .int a1), (2, .int a2), (3, .int a3), (4, .int a4)]) C dX9_approves_34 (by decide) rfl ?_
    refine rw_jn (fun j1 => ∀ (x1 : Int32), pv_R g κ pv_T pv_RF 7 0 0 (pv_QP g κ pv_ji M) 66 [(0, .ref (κ.1 + 196)), (1, .int a1), (2, .int a2), (3, .int a3), (5, .int x1)] [] M (j1 x1)) (fun x1 => ?_) (fun j1 hj1 => ?_)
    · refine rw_aload_n C dX9_approves_66 rfl 0 rfl ?_
      refine rw_iload_n C dX9_approves_67 rfl 1 rfl ?_
      refine rw_iload_n C dX9_approves_68 rfl 3 rfl ?_
      refine rw_iload_n C dX9_approves_69 rfl 2 rfl ?_
      refine rw_callVPi (As := [.int a1, .int a3, .int a2]) (k0 := 196) C hR dX9_approves_70 cv_X9_186 (k_X9_gain g.2.1 κ a1 a3 a2 M) (by decide) (by decide) (by decide) sh_196 rfl rfl (Nat.le_of_ble_eq_true rfl) rfl (fun x2 => ?_)
      refine rw_aload_n C dX9_approves_73 rfl 0 rfl ?_
      refine rw_getR (k0 := 196) (k1 := 203) C dX9_approves_74 fl_X9_28 rfl (by decide) sh_196 (by decide) rfl ?_
      refine rw_iconst (c := 0) C dX9_approves_77 ci_0 ?_
      refine rw_ldI C dX9_approves_78 (fun x3 => ?_)
      refine rw_imul C dX9_approves_79 ?_
      refine rw_iload C dX9_approves_80 4 rfl ?_
      refine rw_icmp_lt (tgt := 89) C dX9_approves_82 (by decide) ?_ ?_
      · refine rw_iconst (c := 0) C dX9_approves_89 ci_0 ?_
        exact rw_zretP (Or.inl rfl) C dX9_approves_90
      · refine rw_iconst (c := 1) C dX9_approves_85 ci_1 ?_
        refine rw_goto (tgt := 90) C dX9_approves_86 (by decide) ?_
        exact rw_zretP (Or.inr rfl) C dX9_approves_90
    · refine rw_lv (lv' := [(0, .ref (κ.1 + 196)), (1, .int a1), (2, .int a2), (3, .int a3), (5, .int 0), (6, .int 0)]) [2, 3, 4, 5, 1, 0] rfl ?_
      refine pv_lp2_ind (fun x4 x5 xx => pv_R g κ pv_T pv_RF 7 0 0 (pv_QP g κ pv_ji M) 36 [(0, .ref (κ.1 + 196)), (1, .int a1), (2, .int a2), (3, .int a3), (5, .int x4), (6, .int x5)] [] M xx) (fun _ _ => rw_none) (fun rec1 hrec1 x4 x5 => ?_) _ _ _
      unfold f_X9_approves_L36
      refine rw_iload C dX9_approves_36 5 rfl ?_
      refine rw_aload_n C dX9_approves_38 rfl 0 rfl ?_
      refine rw_getR (k0 := 196) (k1 := 203) C dX9_approves_39 fl_X9_28 rfl (by decide) sh_196 (by decide) rfl ?_
      refine rw_iconst (c := 0) C dX9_approves_42 ci_0 ?_
      refine rw_ldI C dX9_approves_43 (fun x6 => ?_)
      refine rw_icmp_ge (tgt := 66) C dX9_approves_44 (by decide) ?_ ?_
      · exact rw_lv [0, 1, 2, 3, 4] rfl (hj1 x4)
      · refine rw_iload C dX9_approves_47 4 rfl ?_
        refine rw_aload_n C dX9_approves_49 rfl 0 rfl ?_
        refine rw_iload_n C dX9_approves_50 rfl 1 rfl ?_
        refine rw_iload C dX9_approves_51 5 rfl ?_
        refine rw_iload_n C dX9_approves_53 rfl 2 rfl ?_
        refine rw_callVPi (As := [.int a1, .int x5, .int a2]) (k0 := 196) C hR dX9_approves_54 cv_X9_186 (k_X9_gain g.2.1 κ a1 x5 a2 M) (by decide) (by decide) (by decide) sh_196 rfl rfl (Nat.le_of_ble_eq_true rfl) rfl (fun x7 => ?_)
        refine rw_iadd C dX9_approves_57 ?_
        refine rw_nm (fun x8 => ?_)
        refine rw_istore (lv' := [(5, .int x8), (0, .ref (κ.1 + 196)), (1, .int a1), (2, .int a2), (3, .int a3), (6, .int x5)]) C dX9_approves_58 (by decide) rfl ?_
        refine rw_iinc (c := 1) (lv' := [(6, .int (x5 + 1)), (5, .int x8), (0, .ref (κ.1 + 196)), (1, .int a1), (2, .int a2), (3, .int a3)]) C dX9_approves_60 5 rfl (by decide) (by decide) rfl ?_
        refine rw_goto (tgt := 36) C dX9_approves_63 (by decide) ?_
        exact rw_lv [2, 3, 4, 5, 1, 0] rfl (hrec1 x8 (x5 + 1))
  · refine rw_aload_n C dX9_approves_6 rfl 0 rfl ?_
    refine rw_iload_n C dX9_approves_7 rfl 1 rfl ?_
    refine rw_iload_n C dX9_approves_8 rfl 3 rfl ?_
    refine rw_iload_n C dX9_approves_9 rfl 2 rfl ?_
    refine rw_callVPi (As := [.int a1, .int a3, .int a2]) (k0 := 196) C hR dX9_approves_10 cv_X9_186 (k_X9_gain g.2.1 κ a1 a3 a2 M) (by decide) (by decide) (by decide) sh_196 rfl rfl (Nat.le_of_ble_eq_true rfl) rfl (fun x9 => ?_)
    refine rw_aload_n C dX9_approves_13 rfl 0 rfl ?_
    refine rw_iload_n C dX9_approves_14 rfl 1 rfl ?_
    refine rw_iload C dX9_approves_15 4 rfl ?_
    refine rw_iload_n C dX9_approves_17 rfl 2 rfl ?_
    refine rw_callVPi (As := [.int a1, .int a4, .int a2]) (k0 := 196) C hR dX9_approves_18 cv_X9_186 (k_X9_gain g.2.1 κ a1 a4 a2 M) (by decide) (by decide) (by decide) sh_196 rfl rfl (Nat.le_of_ble_eq_true rfl) rfl (fun x10 => ?_)
    refine rw_icmp_lt (tgt := 28) C dX9_approves_21 (by decide) ?_ ?_
    · refine rw_iconst (c := 0) C dX9_approves_28 ci_0 ?_
      exact rw_zretP (Or.inl rfl) C dX9_approves_29
    · refine rw_iconst (c := 1) C dX9_approves_24 ci_1 ?_
      refine rw_goto (tgt := 29) C dX9_approves_25 (by decide) ?_
      exact rw_zretP (Or.inr rfl) C dX9_approves_29
def f_X9_counts_L58 (rec1 : Int32 → pv_M → Option (Unit × pv_M)) (x2 : Int32) (x1 : Int32) (a1 : Int32) (a4 : Int32) (rec2 : Int32 → pv_M → Option (Unit × pv_M)) (x8 : Int32) (M4 : pv_M) : Option (Unit × pv_M) := pv_ldI pv_T 203 0 M4 (fun x9 => (if x9 ≤ x8 then rec1 (x2 + 1) M4 else pv_nm (x1 + x8) (fun x10 => pv_ldI pv_T 209 x10 M4 (fun x11 => pv_cap (f_X9_approves a1 x2 x8 a4 M4) (fun x12 => pv_jn (fun (x13 : Int32) => pv_stI pv_T 209 x10 (x11 + x13) M4 (fun M5 => rec2 (x8 + 1) M5)) (fun j3 => (if x12 = 0 then j3 0 else j3 1)))))))
def f_X9_counts_L39 (a3 : Int32) (x1 : Int32) (a1 : Int32) (a4 : Int32) (a2 : Int32) (rec1 : Int32 → pv_M → Option (Unit × pv_M)) (x2 : Int32) (M2 : pv_M) : Option (Unit × pv_M) := pv_ldI pv_T 203 1 M2 (fun x3 => (if x3 ≤ x2 then some ((), M2) else (if a3 = 2 then pv_lp2 (f_X9_counts_L58 rec1 x2 x1 a1 a4) pv_FU 0 M2 else pv_jn (pv_cap (f_X9_choice a1 x2 a4 M2) (fun x4 => pv_nm (x1 + x4) (fun x5 => pv_ldI pv_T 209 x5 M2 (fun x6 => pv_stI pv_T 209 x5 (x6 + 1) M2 (fun M3 => rec1 (x2 + 1) M3))))) (fun j2 => (if a3 = 0 then j2 else pv_cap (f_X9_unitOf x2 M2) (fun x7 => (if x7 = a2 then j2 else rec1 (x2 + 1) M2)))))))
def f_X9_counts_L13 (j1 : pv_M → Option (Unit × pv_M)) (x1 : Int32) (rec3 : Int32 → pv_M → Option (Unit × pv_M)) (x14 : Int32) (M6 : pv_M) : Option (Unit × pv_M) := (if 4 ≤ x14 then j1 M6 else pv_stI pv_T 209 (x1 + x14) 0 M6 (fun M7 => rec3 (x14 + 1) M7))
def f_X9_counts (a1 : Int32) (a2 : Int32) (a3 : Int32) (a4 : Int32) (M : pv_M) : Option (Unit × pv_M) := pv_nm ((12 * a1) + (4 * a2)) (fun x1 => pv_jn (fun (M1 : pv_M) => pv_lp2 (f_X9_counts_L39 a3 x1 a1 a4 a2) pv_FU 0 M1) (fun j1 => pv_lp2 (f_X9_counts_L13 j1 x1) pv_FU 0 M))
set_option maxHeartbeats 4000000 in
set_option maxRecDepth 100000 in
theorem k_X9_counts (l : Launch) (κ : pv_K) (a1 : Int32) (a2 : Int32) (a3 : Int32) (a4 : Int32) (M : pv_M) : pv_Mt l yX9_counts cX9_counts 8 none 4 κ [.ref (κ.1 + 196), .int a1, .int a2, .int a3, .int a4] M pv_ju (f_X9_counts a1 a2 a3 a4 M) := by
  refine pv_enter (by decide +kernel) (Nat.le_of_ble_eq_true rfl) (fun g hl hR C => ?_)
  have C : pv_Ok g κ 8 cX9_counts RX9 none := C
  show pv_R g κ pv_T pv_RF 8 0 0 (pv_QF g κ pv_ju) 0 [(0, .ref (κ.1 + 196)), (1, .int a1), (2, .int a2), (3, .int a3), (4, .int a4)] [] M (f_X9_counts a1 a2 a3 a4 M)
  unfold f_X9_counts
  refine rw_bipush (c := 12) C dX9_counts_0 (by decide) ?_
  refine rw_iload_n C dX9_counts_2 rfl 1 rfl ?_
  refine rw_imul C dX9_counts_3 ?_
  refine rw_iconst (c := 4) C dX9_counts_4 ci_4 ?_
  refine rw_iload_n C dX9_counts_5 rfl 2 rfl ?_
  refine rw_imul C dX9_counts_6 ?_
  refine rw_iadd C dX9_counts_7 ?_
  refine rw_nm (fun x1 => ?_)
  refine rw_istore (lv' := [(5, .int x1), (0, .ref (κ.1 + 196)), (1, .int a1), (2, .int a2), (3, .int a3), (4, .int a4)]) C dX9_counts_8 (by decide) rfl ?_
  refine rw_iconst (c := 0) C dX9_counts_10 ci_0 ?_
  refine rw_istore (lv' := [(6, .int 0), (5, .int x1), (0, .ref (κ.1 + 196)), (1, .int a1), (2, .int a2), (3, .int a3), (4, .int a4)]) C dX9_counts_11 (by decide) rfl ?_
  refine rw_jn (fun j1 => ∀ (M1 : pv_M), pv_R g κ pv_T pv_RF 8 0 0 (pv_QF g κ pv_ju) 36 [(0, .ref (κ.1 + 196)), (1, .int a1), (2, .int a2), (3, .int a3), (4, .int a4), (5, .int x1)] [] M1 (j1 M1)) (fun M1 => ?_) (fun j1 hj1 => ?_)
  · refine rw_iconst (c := 0) C dX9_counts_36 ci_0 ?_
    refine rw_istore (lv' := [(6, .int 0), (0, .ref (κ.1 + 196)), (1, .int a1), (2, .int a2), (3, .int a3), (4, .int a4), (5, .int x1)]) C dX9_counts_37 (by decide) rfl ?_
    refine rw_lv (lv' := [(0, .ref (κ.1 + 196)), (1, .int a1), (2, .int a2), (3, .int a3), (4, .int a4), (5, .int x1), (6, .int 0)]) [1, 2, 3, 4, 5, 6, 0] rfl ?_
    refine pv_lp2_ind (fun x2 M2 xx => pv_R g κ pv_T pv_RF 8 0 0 (pv_QF g κ pv_ju) 39 [(0, .ref (κ.1 + 196)), (1, .int a1), (2, .int a2), (3, .int a3), (4, .int a4), (5, .int x1), (6, .int x2)] [] M2 xx) (fun _ _ => rw_none) (fun rec1 hrec1 x2 M2 => ?_) _ _ _
    unfold f_X9_counts_L39
    refine rw_iload C dX9_counts_39 6 rfl ?_
    refine rw_aload_n C dX9_counts_41 rfl 0 rfl ?_
    refine rw_getR (k0 := 196) (k1 := 203) C dX9_counts_42 fl_X9_28 rfl (by decide) sh_196 (by decide) rfl ?_
    refine rw_iconst (c := 1) C dX9_counts_45 ci_1 ?_
    refine rw_ldI C dX9_counts_46 (fun x3 => ?_)
    refine rw_icmp_ge (tgt := 151) C dX9_counts_47 (by decide) ?_ ?_
    · exact rw_vret C dX9_counts_151
    · refine rw_iload_n C dX9_counts_50 rfl 3 rfl ?_
      refine rw_iconst (c := 2) C dX9_counts_51 ci_2 ?_
      refine rw_icmp_ne (tgt := 110) C dX9_counts_52 (by decide) ?_ ?_
      · refine rw_iload_n C dX9_counts_110 rfl 3 rfl ?_
        refine rw_jn (fun j2 => pv_R g κ pv_T pv_RF 8 0 0 (pv_QF g κ pv_ju) 124 [(0, .ref (κ.1 + 196)), (1, .int a1), (2, .int a2), (3, .int a3), (4, .int a4), (5, .int x1), (6, .int x2)] [] M2 (j2)) (?_) (fun j2 hj2 => ?_)
        · refine rw_aload_n C dX9_counts_124 rfl 0 rfl ?_
          refine rw_getR (k0 := 196) (k1 := 209) C dX9_counts_125 fl_X9_46 rfl (by decide) sh_196 (by decide) rfl ?_
          refine rw_iload C dX9_counts_128 5 rfl ?_
          refine rw_aload_n C dX9_counts_130 rfl 0 rfl ?_
          refine rw_iload_n C dX9_counts_131 rfl 1 rfl ?_
          refine rw_iload C dX9_counts_132 6 rfl ?_
          refine rw_iload C dX9_counts_134 4 rfl ?_
          refine rw_callVPi (As := [.int a1, .int x2, .int a4]) (k0 := 196) C hR dX9_counts_136 cv_X9_193 (k_X9_choice g.2.1 κ a1 x2 a4 M2) (by decide) (by decide) (by decide) sh_196 rfl rfl (Nat.le_of_ble_eq_true rfl) rfl (fun x4 => ?_)
          refine rw_iadd C dX9_counts_139 ?_
          refine rw_nm (fun x5 => ?_)
          refine rw_dup2 C dX9_counts_140 rfl rfl ?_
          refine rw_ldI C dX9_counts_141 (fun x6 => ?_)
          refine rw_iconst (c := 1) C dX9_counts_142 ci_1 ?_
          refine rw_iadd C dX9_counts_143 ?_
          refine rw_stI C dX9_counts_144 (fun M3 => ?_)
          refine rw_iinc (c := 1) (lv' := [(6, .int (x2 + 1)), (0, .ref (κ.1 + 196)), (1, .int a1), (2, .int a2), (3, .int a3), (4, .int a4), (5, .int x1)]) C dX9_counts_145 6 rfl (by decide) (by decide) rfl ?_
          refine rw_goto (tgt := 39) C dX9_counts_148 (by decide) ?_
          exact rw_lv [1, 2, 3, 4, 5, 6, 0] rfl (hrec1 (x2 + 1) M3)
        · refine rw_if_eq (tgt := 124) C dX9_counts_111 (by decide) ?_ ?_
          · exact hj2
          · refine rw_aload_n C dX9_counts_114 rfl 0 rfl ?_
            refine rw_iload C dX9_counts_115 6 rfl ?_
            refine rw_callVPi (As := [.int x2]) (k0 := 196) C hR dX9_counts_117 cv_X9_183 (k_X9_unitOf g.2.1 κ x2 M2) (by decide) (by decide) (by decide) sh_196 rfl rfl (Nat.le_of_ble_eq_true rfl) rfl (fun x7 => ?_)
            refine rw_iload_n C dX9_counts_120 rfl 2 rfl ?_
            refine rw_icmp_ne (tgt := 145) C dX9_counts_121 (by decide) ?_ ?_
            · refine rw_iinc (c := 1) (lv' := [(6, .int (x2 + 1)), (0, .ref (κ.1 + 196)), (1, .int a1), (2, .int a2), (3, .int a3), (4, .int a4), (5, .int x1)]) C dX9_counts_145 6 rfl (by decide) (by decide) rfl ?_
              refine rw_goto (tgt := 39) C dX9_counts_148 (by decide) ?_
              exact rw_lv [1, 2, 3, 4, 5, 6, 0] rfl (hrec1 (x2 + 1) M2)
            · exact hj2
      · refine rw_iconst (c := 0) C dX9_counts_55 ci_0 ?_
        refine rw_istore (lv' := [(7, .int 0), (0, .ref (κ.1 + 196)), (1, .int a1), (2, .int a2), (3, .int a3), (4, .int a4), (5, .int x1), (6, .int x2)]) C dX9_counts_56 (by decide) rfl ?_
        refine rw_lv (lv' := [(0, .ref (κ.1 + 196)), (1, .int a1), (2, .int a2), (3, .int a3), (4, .int a4), (5, .int x1), (6, .int x2), (7, .int 0)]) [1, 2, 3, 4, 5, 6, 7, 0] rfl ?_
        refine pv_lp2_ind (fun x8 M4 xx => pv_R g κ pv_T pv_RF 8 0 0 (pv_QF g κ pv_ju) 58 [(0, .ref (κ.1 + 196)), (1, .int a1), (2, .int a2), (3, .int a3), (4, .int a4), (5, .int x1), (6, .int x2), (7, .int x8)] [] M4 xx) (fun _ _ => rw_none) (fun rec2 hrec2 x8 M4 => ?_) _ _ _
        unfold f_X9_counts_L58
        refine rw_iload C dX9_counts_58 7 rfl ?_
        refine rw_aload_n C dX9_counts_60 rfl 0 rfl ?_
        refine rw_getR (k0 := 196) (k1 := 203) C dX9_counts_61 fl_X9_28 rfl (by decide) sh_196 (by decide) rfl ?_
        refine rw_iconst (c := 0) C dX9_counts_64 ci_0 ?_
        refine rw_ldI C dX9_counts_65 (fun x9 => ?_)
        refine rw_icmp_ge (tgt := 107) C dX9_counts_66 (by decide) ?_ ?_
        · refine rw_goto (tgt := 145) C dX9_counts_107 (by decide) ?_
          refine rw_iinc (c := 1) (lv' := [(6, .int (x2 + 1)), (0, .ref (κ.1 + 196)), (1, .int a1), (2, .int a2), (3, .int a3), (4, .int a4), (5, .int x1), (7, .int x8)]) C dX9_counts_145 6 rfl (by decide) (by decide) rfl ?_
          refine rw_goto (tgt := 39) C dX9_counts_148 (by decide) ?_
          exact rw_lv [1, 2, 3, 4, 5, 6, 0] rfl (hrec1 (x2 + 1) M4)
        · refine rw_aload_n C dX9_counts_69 rfl 0 rfl ?_
          refine rw_getR (k0 := 196) (k1 := 209) C dX9_counts_70 fl_X9_46 rfl (by decide) sh_196 (by decide) rfl ?_
          refine rw_iload C dX9_counts_73 5 rfl ?_
          refine rw_iload C dX9_counts_75 7 rfl ?_
          refine rw_iadd C dX9_counts_77 ?_
          refine rw_nm (fun x10 => ?_)
          refine rw_dup2 C dX9_counts_78 rfl rfl ?_
          refine rw_ldI C dX9_counts_79 (fun x11 => ?_)
          refine rw_aload_n C dX9_counts_80 rfl 0 rfl ?_
          refine rw_iload_n C dX9_counts_81 rfl 1 rfl ?_
          refine rw_iload C dX9_counts_82 6 rfl ?_
          refine rw_iload C dX9_counts_84 7 rfl ?_
          refine rw_iload C dX9_counts_86 4 rfl ?_
          refine rw_callVPi (As := [.int a1, .int x2, .int x8, .int a4]) (k0 := 196) C hR dX9_counts_88 cv_X9_189 (k_X9_approves g.2.1 κ a1 x2 x8 a4 M4) (by decide) (by decide) (by decide) sh_196 rfl rfl (Nat.le_of_ble_eq_true rfl) rfl (fun x12 => ?_)
          refine rw_jn (fun j3 => ∀ (x13 : Int32), pv_R g κ pv_T pv_RF 8 0 0 (pv_QF g κ pv_ju) 99 [(0, .ref (κ.1 + 196)), (1, .int a1), (2, .int a2), (3, .int a3), (4, .int a4), (5, .int x1), (6, .int x2), (7, .int x8)] [.int x13, .int x11, .int x10, .ref (κ.1 + 209)] M4 (j3 x13)) (fun x13 => ?_) (fun j3 hj3 => ?_)
          · refine rw_iadd C dX9_counts_99 ?_
            refine rw_stI C dX9_counts_100 (fun M5 => ?_)
            refine rw_iinc (c := 1) (lv' := [(7, .int (x8 + 1)), (0, .ref (κ.1 + 196)), (1, .int a1), (2, .int a2), (3, .int a3), (4, .int a4), (5, .int x1), (6, .int x2)]) C dX9_counts_101 7 rfl (by decide) (by decide) rfl ?_
            refine rw_goto (tgt := 58) C dX9_counts_104 (by decide) ?_
            exact rw_lv [1, 2, 3, 4, 5, 6, 7, 0] rfl (hrec2 (x8 + 1) M5)
          · refine rw_if_eq (tgt := 98) C dX9_counts_91 (by decide) ?_ ?_
            · refine rw_iconst (c := 0) C dX9_counts_98 ci_0 ?_
              exact hj3 0
            · refine rw_iconst (c := 1) C dX9_counts_94 ci_1 ?_
              refine rw_goto (tgt := 99) C dX9_counts_95 (by decide) ?_
              exact hj3 1
  · refine rw_lv (lv' := [(0, .ref (κ.1 + 196)), (1, .int a1), (2, .int a2), (3, .int a3), (4, .int a4), (5, .int x1), (6, .int 0)]) [2, 3, 4, 5, 6, 1, 0] rfl ?_
    refine pv_lp2_ind (fun x14 M6 xx => pv_R g κ pv_T pv_RF 8 0 0 (pv_QF g κ pv_ju) 13 [(0, .ref (κ.1 + 196)), (1, .int a1), (2, .int a2), (3, .int a3), (4, .int a4), (5, .int x1), (6, .int x14)] [] M6 xx) (fun _ _ => rw_none) (fun rec3 hrec3 x14 M6 => ?_) _ _ _
    unfold f_X9_counts_L13
    refine rw_iload C dX9_counts_13 6 rfl ?_
    refine rw_iconst (c := 4) C dX9_counts_15 ci_4 ?_
    refine rw_icmp_ge (tgt := 36) C dX9_counts_16 (by decide) ?_ ?_
    · exact rw_lv [0, 1, 2, 3, 4, 5] rfl (hj1 M6)
    · refine rw_aload_n C dX9_counts_19 rfl 0 rfl ?_
      refine rw_getR (k0 := 196) (k1 := 209) C dX9_counts_20 fl_X9_46 rfl (by decide) sh_196 (by decide) rfl ?_
      refine rw_iload C dX9_counts_23 5 rfl ?_
      refine rw_iload C dX9_counts_25 6 rfl ?_
      refine rw_iadd C dX9_counts_27 ?_
      refine rw_iconst (c := 0) C dX9_counts_28 ci_0 ?_
      refine rw_stI C dX9_counts_29 (fun M7 => ?_)
      refine rw_iinc (c := 1) (lv' := [(6, .int (x14 + 1)), (0, .ref (κ.1 + 196)), (1, .int a1), (2, .int a2), (3, .int a3), (4, .int a4), (5, .int x1)]) C dX9_counts_30 6 rfl (by decide) (by decide) rfl ?_
      refine rw_goto (tgt := 13) C dX9_counts_33 (by decide) ?_
      exact rw_lv [1, 2, 3, 4, 5, 6, 0] rfl (hrec3 (x14 + 1) M7)
def f_X9_mostAt_L14 (M : pv_M) (a1 : Int32) (a2 : Int32) (rec1 : Int32 → Int32 → Option Int32) (x2 : Int32) (x3 : Int32) : Option Int32 := pv_ldI pv_T 203 0 M (fun x4 => (if x4 ≤ x3 then some x2 else pv_ldI pv_T 209 (a1 + x3) M (fun x5 => pv_ldI pv_T 209 (a1 + x2) M (fun x6 => pv_nm (x5 - x6) (fun x7 => (if 0 < x7 then rec1 x3 (x3 + 1) else (if x7 = 0 then (if x2 = a2 then rec1 x2 (x3 + 1) else (if x2 ≤ x3 then rec1 x2 (x3 + 1) else rec1 x3 (x3 + 1))) else rec1 x2 (x3 + 1))))))))
def f_X9_mostAt (a1 : Int32) (a2 : Int32) (M : pv_M) : Option Int32 := pv_jn (fun (x1 : Int32) => pv_lp2 (f_X9_mostAt_L14 M a1 a2) pv_FU x1 0) (fun j1 => (if a2 = ((-1)) then j1 0 else j1 a2))
set_option maxHeartbeats 4000000 in
set_option maxRecDepth 100000 in
theorem k_X9_mostAt (l : Launch) (κ : pv_K) (a1 : Int32) (a2 : Int32) (M : pv_M) : pv_MtP l yX9_mostAt cX9_mostAt 6 (some .int) 0 κ [.ref (κ.1 + 196), .int a1, .int a2] M pv_ji (f_X9_mostAt a1 a2 M) := by
  refine pv_enterP (by decide +kernel) (Nat.le_of_ble_eq_true rfl) (fun g hl hR C => ?_)
  have C : pv_Ok g κ 6 cX9_mostAt RX9 (some .int) := C
  show pv_R g κ pv_T pv_RF 6 0 0 (pv_QP g κ pv_ji M) 0 [(0, .ref (κ.1 + 196)), (1, .int a1), (2, .int a2)] [] M (f_X9_mostAt a1 a2 M)
  unfold f_X9_mostAt
  refine rw_iload_n C dX9_mostAt_0 rfl 2 rfl ?_
  refine rw_iconst (c := (-1)) C dX9_mostAt_1 ci_m1 ?_
  refine rw_jn (fun j1 => ∀ (x1 : Int32), pv_R g κ pv_T pv_RF 6 0 0 (pv_QP g κ pv_ji M) 10 [(0, .ref (κ.1 + 196)), (1, .int a1), (2, .int a2)] [.int x1] M (j1 x1)) (fun x1 => ?_) (fun j1 hj1 => ?_)
  · refine rw_istore_n (lv' := [(3, .int x1), (0, .ref (κ.1 + 196)), (1, .int a1), (2, .int a2)]) C dX9_mostAt_10 rfl (by decide) rfl ?_
    refine rw_iconst (c := 0) C dX9_mostAt_11 ci_0 ?_
    refine rw_istore (lv' := [(4, .int 0), (3, .int x1), (0, .ref (κ.1 + 196)), (1, .int a1), (2, .int a2)]) C dX9_mostAt_12 (by decide) rfl ?_
    refine rw_lv (lv' := [(0, .ref (κ.1 + 196)), (1, .int a1), (2, .int a2), (3, .int x1), (4, .int 0)]) [2, 3, 4, 1, 0] rfl ?_
    refine pv_lp2_ind (fun x2 x3 xx => pv_R g κ pv_T pv_RF 6 0 0 (pv_QP g κ pv_ji M) 14 [(0, .ref (κ.1 + 196)), (1, .int a1), (2, .int a2), (3, .int x2), (4, .int x3)] [] M xx) (fun _ _ => rw_none) (fun rec1 hrec1 x2 x3 => ?_) _ _ _
    unfold f_X9_mostAt_L14
    refine rw_iload C dX9_mostAt_14 4 rfl ?_
    refine rw_aload_n C dX9_mostAt_16 rfl 0 rfl ?_
    refine rw_getR (k0 := 196) (k1 := 203) C dX9_mostAt_17 fl_X9_28 rfl (by decide) sh_196 (by decide) rfl ?_
    refine rw_iconst (c := 0) C dX9_mostAt_20 ci_0 ?_
    refine rw_ldI C dX9_mostAt_21 (fun x4 => ?_)
    refine rw_icmp_ge (tgt := 79) C dX9_mostAt_22 (by decide) ?_ ?_
    · refine rw_iload_n C dX9_mostAt_79 rfl 3 rfl ?_
      exact rw_iretP C dX9_mostAt_80
    · refine rw_aload_n C dX9_mostAt_25 rfl 0 rfl ?_
      refine rw_getR (k0 := 196) (k1 := 209) C dX9_mostAt_26 fl_X9_46 rfl (by decide) sh_196 (by decide) rfl ?_
      refine rw_iload_n C dX9_mostAt_29 rfl 1 rfl ?_
      refine rw_iload C dX9_mostAt_30 4 rfl ?_
      refine rw_iadd C dX9_mostAt_32 ?_
      refine rw_ldI C dX9_mostAt_33 (fun x5 => ?_)
      refine rw_aload_n C dX9_mostAt_34 rfl 0 rfl ?_
      refine rw_getR (k0 := 196) (k1 := 209) C dX9_mostAt_35 fl_X9_46 rfl (by decide) sh_196 (by decide) rfl ?_
      refine rw_iload_n C dX9_mostAt_38 rfl 1 rfl ?_
      refine rw_iload_n C dX9_mostAt_39 rfl 3 rfl ?_
      refine rw_iadd C dX9_mostAt_40 ?_
      refine rw_ldI C dX9_mostAt_41 (fun x6 => ?_)
      refine rw_isub C dX9_mostAt_42 ?_
      refine rw_nm (fun x7 => ?_)
      refine rw_istore (lv' := [(5, .int x7), (0, .ref (κ.1 + 196)), (1, .int a1), (2, .int a2), (3, .int x2), (4, .int x3)]) C dX9_mostAt_43 (by decide) rfl ?_
      refine rw_iload C dX9_mostAt_45 0 rfl ?_
      refine rw_if_gt (tgt := 66) C dX9_mostAt_47 (by decide) ?_ ?_
      · refine rw_iload C dX9_mostAt_66 5 rfl ?_
        refine rw_goto (tgt := 72) C dX9_mostAt_68 (by decide) ?_
        refine rw_istore_n (lv' := [(3, .int x3), (5, .int x7), (0, .ref (κ.1 + 196)), (1, .int a1), (2, .int a2), (4, .int x3)]) C dX9_mostAt_72 rfl (by decide) rfl ?_
        refine rw_iinc (c := 1) (lv' := [(4, .int (x3 + 1)), (3, .int x3), (5, .int x7), (0, .ref (κ.1 + 196)), (1, .int a1), (2, .int a2)]) C dX9_mostAt_73 5 rfl (by decide) (by decide) rfl ?_
        refine rw_goto (tgt := 14) C dX9_mostAt_76 (by decide) ?_
        exact rw_lv [3, 4, 5, 1, 0] rfl (hrec1 x3 (x3 + 1))
      · refine rw_iload C dX9_mostAt_50 0 rfl ?_
        refine rw_if_ne (tgt := 71) C dX9_mostAt_52 (by decide) ?_ ?_
        · refine rw_iload_n C dX9_mostAt_71 rfl 4 rfl ?_
          refine rw_istore_n (lv' := [(3, .int x2), (5, .int x7), (0, .ref (κ.1 + 196)), (1, .int a1), (2, .int a2), (4, .int x3)]) C dX9_mostAt_72 rfl (by decide) rfl ?_
          refine rw_iinc (c := 1) (lv' := [(4, .int (x3 + 1)), (3, .int x2), (5, .int x7), (0, .ref (κ.1 + 196)), (1, .int a1), (2, .int a2)]) C dX9_mostAt_73 5 rfl (by decide) (by decide) rfl ?_
          refine rw_goto (tgt := 14) C dX9_mostAt_76 (by decide) ?_
          exact rw_lv [3, 4, 5, 1, 0] rfl (hrec1 x2 (x3 + 1))
        · refine rw_iload_n C dX9_mostAt_55 rfl 4 rfl ?_
          refine rw_iload_n C dX9_mostAt_56 rfl 3 rfl ?_
          refine rw_icmp_eq (tgt := 71) C dX9_mostAt_57 (by decide) ?_ ?_
          · refine rw_iload_n C dX9_mostAt_71 rfl 4 rfl ?_
            refine rw_istore_n (lv' := [(3, .int x2), (5, .int x7), (0, .ref (κ.1 + 196)), (1, .int a1), (2, .int a2), (4, .int x3)]) C dX9_mostAt_72 rfl (by decide) rfl ?_
            refine rw_iinc (c := 1) (lv' := [(4, .int (x3 + 1)), (3, .int x2), (5, .int x7), (0, .ref (κ.1 + 196)), (1, .int a1), (2, .int a2)]) C dX9_mostAt_73 5 rfl (by decide) (by decide) rfl ?_
            refine rw_goto (tgt := 14) C dX9_mostAt_76 (by decide) ?_
            exact rw_lv [3, 4, 5, 1, 0] rfl (hrec1 x2 (x3 + 1))
          · refine rw_iload C dX9_mostAt_60 5 rfl ?_
            refine rw_iload_n C dX9_mostAt_62 rfl 4 rfl ?_
            refine rw_icmp_ge (tgt := 71) C dX9_mostAt_63 (by decide) ?_ ?_
            · refine rw_iload_n C dX9_mostAt_71 rfl 4 rfl ?_
              refine rw_istore_n (lv' := [(3, .int x2), (5, .int x7), (0, .ref (κ.1 + 196)), (1, .int a1), (2, .int a2), (4, .int x3)]) C dX9_mostAt_72 rfl (by decide) rfl ?_
              refine rw_iinc (c := 1) (lv' := [(4, .int (x3 + 1)), (3, .int x2), (5, .int x7), (0, .ref (κ.1 + 196)), (1, .int a1), (2, .int a2)]) C dX9_mostAt_73 5 rfl (by decide) (by decide) rfl ?_
              refine rw_goto (tgt := 14) C dX9_mostAt_76 (by decide) ?_
              exact rw_lv [3, 4, 5, 1, 0] rfl (hrec1 x2 (x3 + 1))
            · refine rw_iload C dX9_mostAt_66 5 rfl ?_
              refine rw_goto (tgt := 72) C dX9_mostAt_68 (by decide) ?_
              refine rw_istore_n (lv' := [(3, .int x3), (5, .int x7), (0, .ref (κ.1 + 196)), (1, .int a1), (2, .int a2), (4, .int x3)]) C dX9_mostAt_72 rfl (by decide) rfl ?_
              refine rw_iinc (c := 1) (lv' := [(4, .int (x3 + 1)), (3, .int x3), (5, .int x7), (0, .ref (κ.1 + 196)), (1, .int a1), (2, .int a2)]) C dX9_mostAt_73 5 rfl (by decide) (by decide) rfl ?_
              refine rw_goto (tgt := 14) C dX9_mostAt_76 (by decide) ?_
              exact rw_lv [3, 4, 5, 1, 0] rfl (hrec1 x3 (x3 + 1))
  · refine rw_icmp_ne (tgt := 9) C dX9_mostAt_2 (by decide) ?_ ?_
    · refine rw_iload_n C dX9_mostAt_9 rfl 2 rfl ?_
      exact hj1 a2
    · refine rw_iconst (c := 0) C dX9_mostAt_5 ci_0 ?_
      refine rw_goto (tgt := 10) C dX9_mostAt_6 (by decide) ?_
      exact hj1 0
def f_X9_lives_J39 (M3 : pv_M) (x1 : Int32) (x2 : Int32) (rec2 : Int32 → pv_M → Option (Unit × pv_M)) (a1 : Int32) (x3 : Int32) : Option (Unit × pv_M) := pv_ldI pv_T 203 0 M3 (fun x4 => pv_jn (fun (M4 : pv_M) => pv_ldI pv_T 203 0 M4 (fun x5 => pv_jn (fun (x6 : Int32) => pv_stI pv_T 208 ((3 * x1) + x2) x6 M4 (fun M5 => rec2 (x2 + 1) M5)) (fun j3 => (if x5 = 0 then j3 ((-1)) else pv_cap (f_X9_mostAt ((12 * x1) + (4 * x2)) x3 M4) (fun x7 => j3 x7))))) (fun j2 => (if x4 ≤ 0 then j2 M3 else pv_cal (f_X9_counts x1 x2 a1 x3 M3) (fun u2 M6 => j2 M6))))
def f_X9_lives_L14 (rec1 : Int32 → pv_M → Option (Unit × pv_M)) (x1 : Int32) (a1 : Int32) (rec2 : Int32 → pv_M → Option (Unit × pv_M)) (x2 : Int32) (M3 : pv_M) : Option (Unit × pv_M) := (if 3 ≤ x2 then rec1 (x1 + 1) M3 else pv_jn (f_X9_lives_J39 M3 x1 x2 rec2 a1) (fun j1 => (if x1 = 0 then j1 ((-1)) else pv_ldI pv_T 208 (((3 * x1) - 3) + x2) M3 (fun x8 => j1 x8))))
def f_X9_lives_L6 (a1 : Int32) (rec1 : Int32 → pv_M → Option (Unit × pv_M)) (x1 : Int32) (M2 : pv_M) : Option (Unit × pv_M) := (if 10 ≤ x1 then some ((), M2) else pv_lp2 (f_X9_lives_L14 rec1 x1 a1) pv_FU 0 M2)
def f_X9_lives (a1 : Int32) (M : pv_M) : Option (Unit × pv_M) := pv_cal (f_X9_reads M) (fun u1 M1 => pv_lp2 (f_X9_lives_L6 a1) pv_FU 0 M1)
set_option maxHeartbeats 4000000 in
set_option maxRecDepth 100000 in
theorem k_X9_lives (l : Launch) (κ : pv_K) (a1 : Int32) (M : pv_M) : pv_Mt l yX9_lives cX9_lives 5 none 5 κ [.ref (κ.1 + 196), .int a1] M pv_ju (f_X9_lives a1 M) := by
  refine pv_enter (by decide +kernel) (Nat.le_of_ble_eq_true rfl) (fun g hl hR C => ?_)
  have C : pv_Ok g κ 5 cX9_lives RX9 none := C
  show pv_R g κ pv_T pv_RF 5 0 0 (pv_QF g κ pv_ju) 0 [(0, .ref (κ.1 + 196)), (1, .int a1)] [] M (f_X9_lives a1 M)
  unfold f_X9_lives
  refine rw_aload_n C dX9_lives_0 rfl 0 rfl ?_
  refine rw_callVu (As := []) (k0 := 196) C hR dX9_lives_1 cv_X9_151 (k_X9_reads g.2.1 κ M) (by decide) (by decide) (by decide) sh_196 rfl rfl (Nat.le_of_ble_eq_true rfl) rfl (fun u1 M1 => ?_)
  refine rw_iconst (c := 0) C dX9_lives_4 ci_0 ?_
  refine rw_istore_n (lv' := [(2, .int 0), (0, .ref (κ.1 + 196)), (1, .int a1)]) C dX9_lives_5 rfl (by decide) rfl ?_
  refine rw_lv (lv' := [(0, .ref (κ.1 + 196)), (1, .int a1), (2, .int 0)]) [1, 2, 0] rfl ?_
  refine pv_lp2_ind (fun x1 M2 xx => pv_R g κ pv_T pv_RF 5 0 0 (pv_QF g κ pv_ju) 6 [(0, .ref (κ.1 + 196)), (1, .int a1), (2, .int x1)] [] M2 xx) (fun _ _ => rw_none) (fun rec1 hrec1 x1 M2 => ?_) _ _ _
  unfold f_X9_lives_L6
  refine rw_iload_n C dX9_lives_6 rfl 2 rfl ?_
  refine rw_bipush (c := 10) C dX9_lives_7 (by decide) ?_
  refine rw_icmp_ge (tgt := 108) C dX9_lives_9 (by decide) ?_ ?_
  · exact rw_vret C dX9_lives_108
  · refine rw_iconst (c := 0) C dX9_lives_12 ci_0 ?_
    refine rw_istore_n (lv' := [(3, .int 0), (0, .ref (κ.1 + 196)), (1, .int a1), (2, .int x1)]) C dX9_lives_13 rfl (by decide) rfl ?_
    refine rw_lv (lv' := [(0, .ref (κ.1 + 196)), (1, .int a1), (2, .int x1), (3, .int 0)]) [1, 2, 3, 0] rfl ?_
    refine pv_lp2_ind (fun x2 M3 xx => pv_R g κ pv_T pv_RF 5 0 0 (pv_QF g κ pv_ju) 14 [(0, .ref (κ.1 + 196)), (1, .int a1), (2, .int x1), (3, .int x2)] [] M3 xx) (fun _ _ => rw_none) (fun rec2 hrec2 x2 M3 => ?_) _ _ _
    unfold f_X9_lives_L14
    refine rw_iload_n C dX9_lives_14 rfl 3 rfl ?_
    refine rw_iconst (c := 3) C dX9_lives_15 ci_3 ?_
    refine rw_icmp_ge (tgt := 102) C dX9_lives_16 (by decide) ?_ ?_
    · refine rw_iinc (c := 1) (lv' := [(2, .int (x1 + 1)), (0, .ref (κ.1 + 196)), (1, .int a1), (3, .int x2)]) C dX9_lives_102 2 rfl (by decide) (by decide) rfl ?_
      refine rw_goto (tgt := 6) C dX9_lives_105 (by decide) ?_
      exact rw_lv [1, 2, 0] rfl (hrec1 (x1 + 1) M3)
    · refine rw_iload_n C dX9_lives_19 rfl 2 rfl ?_
      refine rw_jn (fun j1 => ∀ (x3 : Int32), pv_R g κ pv_T pv_RF 5 0 0 (pv_QF g κ pv_ju) 39 [(0, .ref (κ.1 + 196)), (1, .int a1), (2, .int x1), (3, .int x2)] [.int x3] M3 (j1 x3)) (fun x3 => ?_) (fun j1 hj1 => ?_)
      · unfold f_X9_lives_J39
        refine rw_istore (lv' := [(4, .int x3), (0, .ref (κ.1 + 196)), (1, .int a1), (2, .int x1), (3, .int x2)]) C dX9_lives_39 (by decide) rfl ?_
        refine rw_aload_n C dX9_lives_41 rfl 1 rfl ?_
        refine rw_getR (k0 := 196) (k1 := 203) C dX9_lives_42 fl_X9_28 rfl (by decide) sh_196 (by decide) rfl ?_
        refine rw_iconst (c := 0) C dX9_lives_45 ci_0 ?_
        refine rw_ldI C dX9_lives_46 (fun x4 => ?_)
        refine rw_jn (fun j2 => ∀ (M4 : pv_M), pv_R g κ pv_T pv_RF 5 0 0 (pv_QF g κ pv_ju) 59 [(0, .ref (κ.1 + 196)), (1, .int a1), (2, .int x1), (3, .int x2), (4, .int x3)] [] M4 (j2 M4)) (fun M4 => ?_) (fun j2 hj2 => ?_)
        · refine rw_aload_n C dX9_lives_59 rfl 0 rfl ?_
          refine rw_getR (k0 := 196) (k1 := 208) C dX9_lives_60 fl_X9_43 rfl (by decide) sh_196 (by decide) rfl ?_
          refine rw_iconst (c := 3) C dX9_lives_63 ci_3 ?_
          refine rw_iload_n C dX9_lives_64 rfl 2 rfl ?_
          refine rw_imul C dX9_lives_65 ?_
          refine rw_iload_n C dX9_lives_66 rfl 3 rfl ?_
          refine rw_iadd C dX9_lives_67 ?_
          refine rw_aload_n C dX9_lives_68 rfl 0 rfl ?_
          refine rw_getR (k0 := 196) (k1 := 203) C dX9_lives_69 fl_X9_28 rfl (by decide) sh_196 (by decide) rfl ?_
          refine rw_iconst (c := 0) C dX9_lives_72 ci_0 ?_
          refine rw_ldI C dX9_lives_73 (fun x5 => ?_)
          refine rw_jn (fun j3 => ∀ (x6 : Int32), pv_R g κ pv_T pv_RF 5 0 0 (pv_QF g κ pv_ju) 95 [(0, .ref (κ.1 + 196)), (1, .int a1), (2, .int x1), (3, .int x2)] [.int x6, .int ((3 * x1) + x2), .ref (κ.1 + 208)] M4 (j3 x6)) (fun x6 => ?_) (fun j3 hj3 => ?_)
          · refine rw_stI C dX9_lives_95 (fun M5 => ?_)
            refine rw_iinc (c := 1) (lv' := [(3, .int (x2 + 1)), (0, .ref (κ.1 + 196)), (1, .int a1), (2, .int x1)]) C dX9_lives_96 3 rfl (by decide) (by decide) rfl ?_
            refine rw_goto (tgt := 14) C dX9_lives_99 (by decide) ?_
            exact rw_lv [1, 2, 3, 0] rfl (hrec2 (x2 + 1) M5)
          · refine rw_if_ne (tgt := 81) C dX9_lives_74 (by decide) ?_ ?_
            · refine rw_aload_n C dX9_lives_81 rfl 0 rfl ?_
              refine rw_bipush (c := 12) C dX9_lives_82 (by decide) ?_
              refine rw_iload_n C dX9_lives_84 rfl 2 rfl ?_
              refine rw_imul C dX9_lives_85 ?_
              refine rw_iconst (c := 4) C dX9_lives_86 ci_4 ?_
              refine rw_iload_n C dX9_lives_87 rfl 3 rfl ?_
              refine rw_imul C dX9_lives_88 ?_
              refine rw_iadd C dX9_lives_89 ?_
              refine rw_iload C dX9_lives_90 4 rfl ?_
              refine rw_callVPi (As := [.int ((12 * x1) + (4 * x2)), .int x3]) (k0 := 196) C hR dX9_lives_92 cv_X9_200 (k_X9_mostAt g.2.1 κ ((12 * x1) + (4 * x2)) x3 M4) (by decide) (by decide) (by decide) sh_196 rfl rfl (Nat.le_of_ble_eq_true rfl) rfl (fun x7 => ?_)
              exact rw_lv [0, 1, 2, 3] rfl (hj3 x7)
            · refine rw_iconst (c := (-1)) C dX9_lives_77 ci_m1 ?_
              refine rw_goto (tgt := 95) C dX9_lives_78 (by decide) ?_
              exact rw_lv [0, 1, 2, 3] rfl (hj3 ((-1)))
        · refine rw_if_le (tgt := 59) C dX9_lives_47 (by decide) ?_ ?_
          · exact rw_lv [1, 2, 3, 4, 0] rfl (hj2 M3)
          · refine rw_aload_n C dX9_lives_50 rfl 1 rfl ?_
            refine rw_iload_n C dX9_lives_51 rfl 3 rfl ?_
            refine rw_iload_n C dX9_lives_52 rfl 4 rfl ?_
            refine rw_iload_n C dX9_lives_53 rfl 2 rfl ?_
            refine rw_iload C dX9_lives_54 0 rfl ?_
            refine rw_callVu (As := [.int x1, .int x2, .int a1, .int x3]) (k0 := 196) C hR dX9_lives_56 cv_X9_196 (k_X9_counts g.2.1 κ x1 x2 a1 x3 M3) (by decide) (by decide) (by decide) sh_196 rfl rfl (Nat.le_of_ble_eq_true rfl) rfl (fun u2 M6 => ?_)
            exact rw_lv [1, 2, 3, 4, 0] rfl (hj2 M6)
      · refine rw_if_ne (tgt := 27) C dX9_lives_20 (by decide) ?_ ?_
        · refine rw_aload_n C dX9_lives_27 rfl 0 rfl ?_
          refine rw_getR (k0 := 196) (k1 := 208) C dX9_lives_28 fl_X9_43 rfl (by decide) sh_196 (by decide) rfl ?_
          refine rw_iconst (c := 3) C dX9_lives_31 ci_3 ?_
          refine rw_iload_n C dX9_lives_32 rfl 2 rfl ?_
          refine rw_imul C dX9_lives_33 ?_
          refine rw_iconst (c := 3) C dX9_lives_34 ci_3 ?_
          refine rw_isub C dX9_lives_35 ?_
          refine rw_iload_n C dX9_lives_36 rfl 3 rfl ?_
          refine rw_iadd C dX9_lives_37 ?_
          refine rw_ldI C dX9_lives_38 (fun x8 => ?_)
          exact hj1 x8
        · refine rw_iconst (c := (-1)) C dX9_lives_23 ci_m1 ?_
          refine rw_goto (tgt := 39) C dX9_lives_24 (by decide) ?_
          exact hj1 ((-1))
def f_X9_livesNow (M : pv_M) : Option (Unit × pv_M) := pv_ldI pv_T 205 0 M (fun x1 => pv_cal (f_X9_lives x1 M) (fun u1 M1 => some ((), M1)))
set_option maxHeartbeats 4000000 in
set_option maxRecDepth 100000 in
theorem k_X9_livesNow (l : Launch) (κ : pv_K) (M : pv_M) : pv_Mt l yX9_livesNow cX9_livesNow 1 none 6 κ [.ref (κ.1 + 196)] M pv_ju (f_X9_livesNow M) := by
  refine pv_enter (by decide +kernel) (Nat.le_of_ble_eq_true rfl) (fun g hl hR C => ?_)
  have C : pv_Ok g κ 1 cX9_livesNow RX9 none := C
  show pv_R g κ pv_T pv_RF 1 0 0 (pv_QF g κ pv_ju) 0 [(0, .ref (κ.1 + 196))] [] M (f_X9_livesNow M)
  unfold f_X9_livesNow
  refine rw_aload_n C dX9_livesNow_0 rfl 0 rfl ?_
  refine rw_aload_n C dX9_livesNow_1 rfl 0 rfl ?_
  refine rw_getR (k0 := 196) (k1 := 205) C dX9_livesNow_2 fl_X9_34 rfl (by decide) sh_196 (by decide) rfl ?_
  refine rw_iconst (c := 0) C dX9_livesNow_5 ci_0 ?_
  refine rw_ldI C dX9_livesNow_6 (fun x1 => ?_)
  refine rw_callVu (As := [.int x1]) (k0 := 196) C hR dX9_livesNow_7 cv_X9_203 (k_X9_lives g.2.1 κ x1 M) (by decide) (by decide) (by decide) sh_196 rfl rfl (Nat.le_of_ble_eq_true rfl) rfl (fun u1 M1 => ?_)
  exact rw_vret C dX9_livesNow_10
def f_X9_greatOf (a1 : Int32) (a2 : Int32) (M : pv_M) : Option Int32 := pv_ldI pv_T 208 ((3 * a1) + a2) M (fun x1 => (if x1 = ((-1)) then some 1 else pv_cap (f_X9_ticketOf a1 x1 a2 M) (fun x2 => some x2)))
set_option maxHeartbeats 4000000 in
set_option maxRecDepth 100000 in
theorem k_X9_greatOf (l : Launch) (κ : pv_K) (a1 : Int32) (a2 : Int32) (M : pv_M) : pv_MtP l yX9_greatOf cX9_greatOf 4 (some .int) 2 κ [.ref (κ.1 + 196), .int a1, .int a2] M pv_ji (f_X9_greatOf a1 a2 M) := by
  refine pv_enterP (by decide +kernel) (Nat.le_of_ble_eq_true rfl) (fun g hl hR C => ?_)
  have C : pv_Ok g κ 4 cX9_greatOf RX9 (some .int) := C
  show pv_R g κ pv_T pv_RF 4 0 0 (pv_QP g κ pv_ji M) 0 [(0, .ref (κ.1 + 196)), (1, .int a1), (2, .int a2)] [] M (f_X9_greatOf a1 a2 M)
  unfold f_X9_greatOf
  refine rw_aload_n C dX9_greatOf_0 rfl 0 rfl ?_
  refine rw_getR (k0 := 196) (k1 := 208) C dX9_greatOf_1 fl_X9_43 rfl (by decide) sh_196 (by decide) rfl ?_
  refine rw_iconst (c := 3) C dX9_greatOf_4 ci_3 ?_
  refine rw_iload_n C dX9_greatOf_5 rfl 1 rfl ?_
  refine rw_imul C dX9_greatOf_6 ?_
  refine rw_iload_n C dX9_greatOf_7 rfl 2 rfl ?_
  refine rw_iadd C dX9_greatOf_8 ?_
  refine rw_ldI C dX9_greatOf_9 (fun x1 => ?_)
  refine rw_istore_n (lv' := [(3, .int x1), (0, .ref (κ.1 + 196)), (1, .int a1), (2, .int a2)]) C dX9_greatOf_10 rfl (by decide) rfl ?_
  refine rw_iload_n C dX9_greatOf_11 rfl 0 rfl ?_
  refine rw_iconst (c := (-1)) C dX9_greatOf_12 ci_m1 ?_
  refine rw_icmp_ne (tgt := 20) C dX9_greatOf_13 (by decide) ?_ ?_
  · refine rw_aload_n C dX9_greatOf_20 rfl 1 rfl ?_
    refine rw_iload_n C dX9_greatOf_21 rfl 2 rfl ?_
    refine rw_iload_n C dX9_greatOf_22 rfl 0 rfl ?_
    refine rw_iload_n C dX9_greatOf_23 rfl 3 rfl ?_
    refine rw_callVPi (As := [.int a1, .int x1, .int a2]) (k0 := 196) C hR dX9_greatOf_24 cv_X9_177 (k_X9_ticketOf g.2.1 κ a1 x1 a2 M) (by decide) (by decide) (by decide) sh_196 rfl rfl (Nat.le_of_ble_eq_true rfl) rfl (fun x2 => ?_)
    exact rw_iretP C dX9_greatOf_27
  · refine rw_iconst (c := 1) C dX9_greatOf_16 ci_1 ?_
    refine rw_goto (tgt := 27) C dX9_greatOf_17 (by decide) ?_
    exact rw_iretP C dX9_greatOf_27
def f_X9_elected (a1 : Int32) (a2 : Int32) (M : pv_M) : Option (Int32 × pv_M) := pv_cal (f_X9_livesNow M) (fun u1 M1 => pv_cap (f_X9_isYear a1 M1) (fun x1 => (if x1 = 0 then some ((-2), M1) else pv_cap (f_X9_isUnit a2 M1) (fun x2 => (if x2 = 0 then some ((-2), M1) else pv_ldI pv_T 208 ((3 * a1) + a2) M1 (fun x3 => some (x3, M1)))))))
set_option maxHeartbeats 4000000 in
set_option maxRecDepth 100000 in
theorem k_X9_elected (l : Launch) (κ : pv_K) (a1 : Int32) (a2 : Int32) (M : pv_M) : pv_Mt l yX9_elected cX9_elected 3 (some .int) 7 κ [.ref (κ.1 + 196), .int a1, .int a2] M pv_ji (f_X9_elected a1 a2 M) := by
  refine pv_enter (by decide +kernel) (Nat.le_of_ble_eq_true rfl) (fun g hl hR C => ?_)
  have C : pv_Ok g κ 3 cX9_elected RX9 (some .int) := C
  show pv_R g κ pv_T pv_RF 3 0 0 (pv_QF g κ pv_ji) 0 [(0, .ref (κ.1 + 196)), (1, .int a1), (2, .int a2)] [] M (f_X9_elected a1 a2 M)
  unfold f_X9_elected
  refine rw_aload_n C dX9_elected_0 rfl 0 rfl ?_
  refine rw_callVu (As := []) (k0 := 196) C hR dX9_elected_1 cv_X9_207 (k_X9_livesNow g.2.1 κ M) (by decide) (by decide) (by decide) sh_196 rfl rfl (Nat.le_of_ble_eq_true rfl) rfl (fun u1 M1 => ?_)
  refine rw_iload_n C dX9_elected_4 rfl 1 rfl ?_
  refine rw_callSPi (As := [.int a1]) C hR dX9_elected_5 cs_X9_165 (k_X9_isYear g.2.1 κ a1 M1) (by decide) (by decide) rfl (Nat.le_of_ble_eq_true rfl) rfl (fun x1 => ?_)
  refine rw_if_eq (tgt := 31) C dX9_elected_8 (by decide) ?_ ?_
  · refine rw_bipush (c := (-2)) C dX9_elected_31 (by decide) ?_
    exact rw_iret C dX9_elected_33
  · refine rw_iload_n C dX9_elected_11 rfl 2 rfl ?_
    refine rw_callSPi (As := [.int a2]) C hR dX9_elected_12 cs_X9_168 (k_X9_isUnit g.2.1 κ a2 M1) (by decide) (by decide) rfl (Nat.le_of_ble_eq_true rfl) rfl (fun x2 => ?_)
    refine rw_if_eq (tgt := 31) C dX9_elected_15 (by decide) ?_ ?_
    · refine rw_bipush (c := (-2)) C dX9_elected_31 (by decide) ?_
      exact rw_iret C dX9_elected_33
    · refine rw_aload_n C dX9_elected_18 rfl 0 rfl ?_
      refine rw_getR (k0 := 196) (k1 := 208) C dX9_elected_19 fl_X9_43 rfl (by decide) sh_196 (by decide) rfl ?_
      refine rw_iconst (c := 3) C dX9_elected_22 ci_3 ?_
      refine rw_iload_n C dX9_elected_23 rfl 1 rfl ?_
      refine rw_imul C dX9_elected_24 ?_
      refine rw_iload_n C dX9_elected_25 rfl 2 rfl ?_
      refine rw_iadd C dX9_elected_26 ?_
      refine rw_ldI C dX9_elected_27 (fun x3 => ?_)
      refine rw_goto (tgt := 33) C dX9_elected_28 (by decide) ?_
      exact rw_iret C dX9_elected_33
def f_X9_great (a1 : Int32) (a2 : Int32) (M : pv_M) : Option (Int32 × pv_M) := pv_cal (f_X9_livesNow M) (fun u1 M1 => pv_cap (f_X9_isYear a1 M1) (fun x1 => (if x1 = 0 then some ((-2), M1) else pv_cap (f_X9_isUnit a2 M1) (fun x2 => (if x2 = 0 then some ((-2), M1) else pv_cap (f_X9_greatOf a1 a2 M1) (fun x3 => some (x3, M1)))))))
set_option maxHeartbeats 4000000 in
set_option maxRecDepth 100000 in
theorem k_X9_great (l : Launch) (κ : pv_K) (a1 : Int32) (a2 : Int32) (M : pv_M) : pv_Mt l yX9_great cX9_great 3 (some .int) 7 κ [.ref (κ.1 + 196), .int a1, .int a2] M pv_ji (f_X9_great a1 a2 M) := by
  refine pv_enter (by decide +kernel) (Nat.le_of_ble_eq_true rfl) (fun g hl hR C => ?_)
  have C : pv_Ok g κ 3 cX9_great RX9 (some .int) := C
  show pv_R g κ pv_T pv_RF 3 0 0 (pv_QF g κ pv_ji) 0 [(0, .ref (κ.1 + 196)), (1, .int a1), (2, .int a2)] [] M (f_X9_great a1 a2 M)
  unfold f_X9_great
  refine rw_aload_n C dX9_great_0 rfl 0 rfl ?_
  refine rw_callVu (As := []) (k0 := 196) C hR dX9_great_1 cv_X9_207 (k_X9_livesNow g.2.1 κ M) (by decide) (by decide) (by decide) sh_196 rfl rfl (Nat.le_of_ble_eq_true rfl) rfl (fun u1 M1 => ?_)
  refine rw_iload_n C dX9_great_4 rfl 1 rfl ?_
  refine rw_callSPi (As := [.int a1]) C hR dX9_great_5 cs_X9_165 (k_X9_isYear g.2.1 κ a1 M1) (by decide) (by decide) rfl (Nat.le_of_ble_eq_true rfl) rfl (fun x1 => ?_)
  refine rw_if_eq (tgt := 27) C dX9_great_8 (by decide) ?_ ?_
  · refine rw_bipush (c := (-2)) C dX9_great_27 (by decide) ?_
    exact rw_iret C dX9_great_29
  · refine rw_iload_n C dX9_great_11 rfl 2 rfl ?_
    refine rw_callSPi (As := [.int a2]) C hR dX9_great_12 cs_X9_168 (k_X9_isUnit g.2.1 κ a2 M1) (by decide) (by decide) rfl (Nat.le_of_ble_eq_true rfl) rfl (fun x2 => ?_)
    refine rw_if_eq (tgt := 27) C dX9_great_15 (by decide) ?_ ?_
    · refine rw_bipush (c := (-2)) C dX9_great_27 (by decide) ?_
      exact rw_iret C dX9_great_29
    · refine rw_aload_n C dX9_great_18 rfl 0 rfl ?_
      refine rw_iload_n C dX9_great_19 rfl 1 rfl ?_
      refine rw_iload_n C dX9_great_20 rfl 2 rfl ?_
      refine rw_callVPi (As := [.int a1, .int a2]) (k0 := 196) C hR dX9_great_21 cv_X9_210 (k_X9_greatOf g.2.1 κ a1 a2 M1) (by decide) (by decide) (by decide) sh_196 rfl rfl (Nat.le_of_ble_eq_true rfl) rfl (fun x3 => ?_)
      refine rw_goto (tgt := 29) C dX9_great_24 (by decide) ?_
      exact rw_iret C dX9_great_29
def f_X9_votes (a1 : Int32) (a2 : Int32) (a3 : Int32) (M : pv_M) : Option (Int32 × pv_M) := pv_cal (f_X9_livesNow M) (fun u1 M1 => pv_cap (f_X9_isYear a1 M1) (fun x1 => (if x1 = 0 then some ((-2), M1) else pv_cap (f_X9_isUnit a2 M1) (fun x2 => (if x2 = 0 then some ((-2), M1) else pv_cap (f_X9_isParty a3 M1) (fun x3 => (if x3 = 0 then some ((-2), M1) else pv_ldI pv_T 209 (((12 * a1) + (4 * a2)) + a3) M1 (fun x4 => some (x4, M1)))))))))
set_option maxHeartbeats 4000000 in
set_option maxRecDepth 100000 in
theorem k_X9_votes (l : Launch) (κ : pv_K) (a1 : Int32) (a2 : Int32) (a3 : Int32) (M : pv_M) : pv_Mt l yX9_votes cX9_votes 4 (some .int) 7 κ [.ref (κ.1 + 196), .int a1, .int a2, .int a3] M pv_ji (f_X9_votes a1 a2 a3 M) := by
  refine pv_enter (by decide +kernel) (Nat.le_of_ble_eq_true rfl) (fun g hl hR C => ?_)
  have C : pv_Ok g κ 4 cX9_votes RX9 (some .int) := C
  show pv_R g κ pv_T pv_RF 4 0 0 (pv_QF g κ pv_ji) 0 [(0, .ref (κ.1 + 196)), (1, .int a1), (2, .int a2), (3, .int a3)] [] M (f_X9_votes a1 a2 a3 M)
  unfold f_X9_votes
  refine rw_aload_n C dX9_votes_0 rfl 0 rfl ?_
  refine rw_callVu (As := []) (k0 := 196) C hR dX9_votes_1 cv_X9_207 (k_X9_livesNow g.2.1 κ M) (by decide) (by decide) (by decide) sh_196 rfl rfl (Nat.le_of_ble_eq_true rfl) rfl (fun u1 M1 => ?_)
  refine rw_iload_n C dX9_votes_4 rfl 1 rfl ?_
  refine rw_callSPi (As := [.int a1]) C hR dX9_votes_5 cs_X9_165 (k_X9_isYear g.2.1 κ a1 M1) (by decide) (by decide) rfl (Nat.le_of_ble_eq_true rfl) rfl (fun x1 => ?_)
  refine rw_if_eq (tgt := 44) C dX9_votes_8 (by decide) ?_ ?_
  · refine rw_bipush (c := (-2)) C dX9_votes_44 (by decide) ?_
    exact rw_iret C dX9_votes_46
  · refine rw_iload_n C dX9_votes_11 rfl 2 rfl ?_
    refine rw_callSPi (As := [.int a2]) C hR dX9_votes_12 cs_X9_168 (k_X9_isUnit g.2.1 κ a2 M1) (by decide) (by decide) rfl (Nat.le_of_ble_eq_true rfl) rfl (fun x2 => ?_)
    refine rw_if_eq (tgt := 44) C dX9_votes_15 (by decide) ?_ ?_
    · refine rw_bipush (c := (-2)) C dX9_votes_44 (by decide) ?_
      exact rw_iret C dX9_votes_46
    · refine rw_aload_n C dX9_votes_18 rfl 0 rfl ?_
      refine rw_iload_n C dX9_votes_19 rfl 3 rfl ?_
      refine rw_callVPi (As := [.int a3]) (k0 := 196) C hR dX9_votes_20 cv_X9_174 (k_X9_isParty g.2.1 κ a3 M1) (by decide) (by decide) (by decide) sh_196 rfl rfl (Nat.le_of_ble_eq_true rfl) rfl (fun x3 => ?_)
      refine rw_if_eq (tgt := 44) C dX9_votes_23 (by decide) ?_ ?_
      · refine rw_bipush (c := (-2)) C dX9_votes_44 (by decide) ?_
        exact rw_iret C dX9_votes_46
      · refine rw_aload_n C dX9_votes_26 rfl 0 rfl ?_
        refine rw_getR (k0 := 196) (k1 := 209) C dX9_votes_27 fl_X9_46 rfl (by decide) sh_196 (by decide) rfl ?_
        refine rw_bipush (c := 12) C dX9_votes_30 (by decide) ?_
        refine rw_iload_n C dX9_votes_32 rfl 1 rfl ?_
        refine rw_imul C dX9_votes_33 ?_
        refine rw_iconst (c := 4) C dX9_votes_34 ci_4 ?_
        refine rw_iload_n C dX9_votes_35 rfl 2 rfl ?_
        refine rw_imul C dX9_votes_36 ?_
        refine rw_iadd C dX9_votes_37 ?_
        refine rw_iload_n C dX9_votes_38 rfl 3 rfl ?_
        refine rw_iadd C dX9_votes_39 ?_
        refine rw_ldI C dX9_votes_40 (fun x4 => ?_)
        refine rw_goto (tgt := 46) C dX9_votes_41 (by decide) ?_
        exact rw_iret C dX9_votes_46
def f_X9_splitNow_L44 (M3 : pv_M) (rec1 : Int32 → Int32 → Option (Int32 × pv_M)) (x1 : Int32) (x2 : Int32) : Option (Int32 × pv_M) := (if 30 ≤ x2 then some (x1, M3) else pv_ldI pv_T 210 x2 M3 (fun x3 => pv_cap (f_X9_greatOf (x2 / 3) (x2 - x2 / 3 * 3) M3) (fun x4 => pv_jn (fun (x5 : Int32) => pv_nm (x1 ||| x5) (fun x6 => rec1 x6 (x2 + 1))) (fun j2 => (if x3 = x4 then j2 0 else j2 (1 <<< ((x2 / 3) &&& 31)))))))
def f_X9_splitNow_L7 (j1 : pv_M → Option (Int32 × pv_M)) (rec2 : Int32 → pv_M → Option (Int32 × pv_M)) (x7 : Int32) (M4 : pv_M) : Option (Int32 × pv_M) := (if 30 ≤ x7 then j1 M4 else pv_cap (f_X9_greatOf (x7 / 3) (x7 - x7 / 3 * 3) M4) (fun x8 => pv_stI pv_T 210 x7 x8 M4 (fun M5 => rec2 (x7 + 1) M5)))
def f_X9_splitNow (M : pv_M) : Option (Int32 × pv_M) := pv_cal (f_X9_lives 0 M) (fun u1 M1 => pv_jn (fun (M2 : pv_M) => pv_cal (f_X9_lives 1 M2) (fun u2 M3 => pv_lp2 (f_X9_splitNow_L44 M3) pv_FU 0 0)) (fun j1 => pv_lp2 (f_X9_splitNow_L7 j1) pv_FU 0 M1))
set_option maxHeartbeats 4000000 in
set_option maxRecDepth 100000 in
theorem k_X9_splitNow (l : Launch) (κ : pv_K) (M : pv_M) : pv_Mt l yX9_splitNow cX9_splitNow 3 (some .int) 6 κ [.ref (κ.1 + 196)] M pv_ji (f_X9_splitNow M) := by
  refine pv_enter (by decide +kernel) (Nat.le_of_ble_eq_true rfl) (fun g hl hR C => ?_)
  have C : pv_Ok g κ 3 cX9_splitNow RX9 (some .int) := C
  show pv_R g κ pv_T pv_RF 3 0 0 (pv_QF g κ pv_ji) 0 [(0, .ref (κ.1 + 196))] [] M (f_X9_splitNow M)
  unfold f_X9_splitNow
  refine rw_aload_n C dX9_splitNow_0 rfl 0 rfl ?_
  refine rw_iconst (c := 0) C dX9_splitNow_1 ci_0 ?_
  refine rw_callVu (As := [.int 0]) (k0 := 196) C hR dX9_splitNow_2 cv_X9_203 (k_X9_lives g.2.1 κ 0 M) (by decide) (by decide) (by decide) sh_196 rfl rfl (Nat.le_of_ble_eq_true rfl) rfl (fun u1 M1 => ?_)
  refine rw_iconst (c := 0) C dX9_splitNow_5 ci_0 ?_
  refine rw_istore_n (lv' := [(1, .int 0), (0, .ref (κ.1 + 196))]) C dX9_splitNow_6 rfl (by decide) rfl ?_
  refine rw_jn (fun j1 => ∀ (M2 : pv_M), pv_R g κ pv_T pv_RF 3 0 0 (pv_QF g κ pv_ji) 35 [(0, .ref (κ.1 + 196))] [] M2 (j1 M2)) (fun M2 => ?_) (fun j1 hj1 => ?_)
  · refine rw_aload_n C dX9_splitNow_35 rfl 0 rfl ?_
    refine rw_iconst (c := 1) C dX9_splitNow_36 ci_1 ?_
    refine rw_callVu (As := [.int 1]) (k0 := 196) C hR dX9_splitNow_37 cv_X9_203 (k_X9_lives g.2.1 κ 1 M2) (by decide) (by decide) (by decide) sh_196 rfl rfl (Nat.le_of_ble_eq_true rfl) rfl (fun u2 M3 => ?_)
    refine rw_iconst (c := 0) C dX9_splitNow_40 ci_0 ?_
    refine rw_istore_n (lv' := [(1, .int 0), (0, .ref (κ.1 + 196))]) C dX9_splitNow_41 rfl (by decide) rfl ?_
    refine rw_iconst (c := 0) C dX9_splitNow_42 ci_0 ?_
    refine rw_istore_n (lv' := [(2, .int 0), (1, .int 0), (0, .ref (κ.1 + 196))]) C dX9_splitNow_43 rfl (by decide) rfl ?_
    refine rw_lv (lv' := [(0, .ref (κ.1 + 196)), (1, .int 0), (2, .int 0)]) [2, 1, 0] rfl ?_
    refine pv_lp2_ind (fun x1 x2 xx => pv_R g κ pv_T pv_RF 3 0 0 (pv_QF g κ pv_ji) 44 [(0, .ref (κ.1 + 196)), (1, .int x1), (2, .int x2)] [] M3 xx) (fun _ _ => rw_none) (fun rec1 hrec1 x1 x2 => ?_) _ _ _
    unfold f_X9_splitNow_L44
    refine rw_iload_n C dX9_splitNow_44 rfl 2 rfl ?_
    refine rw_bipush (c := 30) C dX9_splitNow_45 (by decide) ?_
    refine rw_icmp_ge (tgt := 87) C dX9_splitNow_47 (by decide) ?_ ?_
    · refine rw_iload_n C dX9_splitNow_87 rfl 1 rfl ?_
      exact rw_iret C dX9_splitNow_88
    · refine rw_iload_n C dX9_splitNow_50 rfl 1 rfl ?_
      refine rw_aload_n C dX9_splitNow_51 rfl 0 rfl ?_
      refine rw_getR (k0 := 196) (k1 := 210) C dX9_splitNow_52 fl_X9_49 rfl (by decide) sh_196 (by decide) rfl ?_
      refine rw_iload_n C dX9_splitNow_55 rfl 2 rfl ?_
      refine rw_ldI C dX9_splitNow_56 (fun x3 => ?_)
      refine rw_aload_n C dX9_splitNow_57 rfl 0 rfl ?_
      refine rw_iload_n C dX9_splitNow_58 rfl 2 rfl ?_
      refine rw_iconst (c := 3) C dX9_splitNow_59 ci_3 ?_
      refine rw_idiv C dX9_splitNow_60 (by decide) ?_
      refine rw_iload_n C dX9_splitNow_61 rfl 2 rfl ?_
      refine rw_iconst (c := 3) C dX9_splitNow_62 ci_3 ?_
      refine rw_irem C dX9_splitNow_63 (by decide) ?_
      refine rw_callVPi (As := [.int (x2 / 3), .int (x2 - x2 / 3 * 3)]) (k0 := 196) C hR dX9_splitNow_64 cv_X9_210 (k_X9_greatOf g.2.1 κ (x2 / 3) (x2 - x2 / 3 * 3) M3) (by decide) (by decide) (by decide) sh_196 rfl rfl (Nat.le_of_ble_eq_true rfl) rfl (fun x4 => ?_)
      refine rw_jn (fun j2 => ∀ (x5 : Int32), pv_R g κ pv_T pv_RF 3 0 0 (pv_QF g κ pv_ji) 79 [(0, .ref (κ.1 + 196)), (2, .int x2)] [.int x5, .int x1] M3 (j2 x5)) (fun x5 => ?_) (fun j2 hj2 => ?_)
      · refine rw_ior C dX9_splitNow_79 ?_
        refine rw_nm (fun x6 => ?_)
        refine rw_istore_n (lv' := [(1, .int x6), (0, .ref (κ.1 + 196)), (2, .int x2)]) C dX9_splitNow_80 rfl (by decide) rfl ?_
        refine rw_iinc (c := 1) (lv' := [(2, .int (x2 + 1)), (1, .int x6), (0, .ref (κ.1 + 196))]) C dX9_splitNow_81 2 rfl (by decide) (by decide) rfl ?_
        refine rw_goto (tgt := 44) C dX9_splitNow_84 (by decide) ?_
        exact rw_lv [2, 1, 0] rfl (hrec1 x6 (x2 + 1))
      · refine rw_icmp_ne (tgt := 74) C dX9_splitNow_67 (by decide) ?_ ?_
        · refine rw_iconst (c := 1) C dX9_splitNow_74 ci_1 ?_
          refine rw_iload_n C dX9_splitNow_75 rfl 2 rfl ?_
          refine rw_iconst (c := 3) C dX9_splitNow_76 ci_3 ?_
          refine rw_idiv C dX9_splitNow_77 (by decide) ?_
          refine rw_ishl C dX9_splitNow_78 ?_
          exact rw_lv [0, 2] rfl (hj2 (1 <<< ((x2 / 3) &&& 31)))
        · refine rw_iconst (c := 0) C dX9_splitNow_70 ci_0 ?_
          refine rw_goto (tgt := 79) C dX9_splitNow_71 (by decide) ?_
          exact rw_lv [0, 2] rfl (hj2 0)
  · refine rw_lv (lv' := [(0, .ref (κ.1 + 196)), (1, .int 0)]) [1, 0] rfl ?_
    refine pv_lp2_ind (fun x7 M4 xx => pv_R g κ pv_T pv_RF 3 0 0 (pv_QF g κ pv_ji) 7 [(0, .ref (κ.1 + 196)), (1, .int x7)] [] M4 xx) (fun _ _ => rw_none) (fun rec2 hrec2 x7 M4 => ?_) _ _ _
    unfold f_X9_splitNow_L7
    refine rw_iload_n C dX9_splitNow_7 rfl 1 rfl ?_
    refine rw_bipush (c := 30) C dX9_splitNow_8 (by decide) ?_
    refine rw_icmp_ge (tgt := 35) C dX9_splitNow_10 (by decide) ?_ ?_
    · exact rw_lv [0] rfl (hj1 M4)
    · refine rw_aload_n C dX9_splitNow_13 rfl 0 rfl ?_
      refine rw_getR (k0 := 196) (k1 := 210) C dX9_splitNow_14 fl_X9_49 rfl (by decide) sh_196 (by decide) rfl ?_
      refine rw_iload_n C dX9_splitNow_17 rfl 1 rfl ?_
      refine rw_aload_n C dX9_splitNow_18 rfl 0 rfl ?_
      refine rw_iload_n C dX9_splitNow_19 rfl 1 rfl ?_
      refine rw_iconst (c := 3) C dX9_splitNow_20 ci_3 ?_
      refine rw_idiv C dX9_splitNow_21 (by decide) ?_
      refine rw_iload_n C dX9_splitNow_22 rfl 1 rfl ?_
      refine rw_iconst (c := 3) C dX9_splitNow_23 ci_3 ?_
      refine rw_irem C dX9_splitNow_24 (by decide) ?_
      refine rw_callVPi (As := [.int (x7 / 3), .int (x7 - x7 / 3 * 3)]) (k0 := 196) C hR dX9_splitNow_25 cv_X9_210 (k_X9_greatOf g.2.1 κ (x7 / 3) (x7 - x7 / 3 * 3) M4) (by decide) (by decide) (by decide) sh_196 rfl rfl (Nat.le_of_ble_eq_true rfl) rfl (fun x8 => ?_)
      refine rw_stI C dX9_splitNow_28 (fun M5 => ?_)
      refine rw_iinc (c := 1) (lv' := [(1, .int (x7 + 1)), (0, .ref (κ.1 + 196))]) C dX9_splitNow_29 1 rfl (by decide) (by decide) rfl ?_
      refine rw_goto (tgt := 7) C dX9_splitNow_32 (by decide) ?_
      exact rw_lv [1, 0] rfl (hrec2 (x7 + 1) M5)
def f_X9_split (M : pv_M) : Option (Int32 × pv_M) := pv_cal (f_X9_splitNow M) (fun x1 M1 => some (x1, M1))
set_option maxHeartbeats 4000000 in
set_option maxRecDepth 100000 in
theorem k_X9_split (l : Launch) (κ : pv_K) (M : pv_M) : pv_Mt l yX9_split cX9_split 1 (some .int) 7 κ [.ref (κ.1 + 196)] M pv_ji (f_X9_split M) := by
  refine pv_enter (by decide +kernel) (Nat.le_of_ble_eq_true rfl) (fun g hl hR C => ?_)
  have C : pv_Ok g κ 1 cX9_split RX9 (some .int) := C
  show pv_R g κ pv_T pv_RF 1 0 0 (pv_QF g κ pv_ji) 0 [(0, .ref (κ.1 + 196))] [] M (f_X9_split M)
  unfold f_X9_split
  refine rw_aload_n C dX9_split_0 rfl 0 rfl ?_
  refine rw_callVi (As := []) (k0 := 196) C hR dX9_split_1 cv_X9_213 (k_X9_splitNow g.2.1 κ M) (by decide) (by decide) (by decide) sh_196 rfl rfl (Nat.le_of_ble_eq_true rfl) rfl (fun x1 M1 => ?_)
  exact rw_iret C dX9_split_4
