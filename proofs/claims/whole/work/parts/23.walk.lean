def f_X8_undo (a1 : Int32) (M : pv_M) : Option (Int32 × pv_M) := pv_cap (f_X8_isText a1 M) (fun x1 => (if x1 = 0 then some ((-2), M) else pv_cap (f_X8_textOf a1 M) (fun k1 => pv_ck (pv_isT k1) (pv_nm (M.1 k1 2) (fun x2 => (if 0 < x2 then pv_nm (M.1 k1 2) (fun x3 => pv_nm (pv_u M.1 k1 2 (x3 - 1), M.2) (fun M1 => pv_nm (pv_u M1.1 0 19 1, M1.2) (fun M2 => pv_nm (M2.1 k1 2) (fun x4 => some (x4, M2))))) else some ((-3), M)))))))
set_option maxHeartbeats 4000000 in
set_option maxRecDepth 100000 in
theorem k_X8_undo (l : Launch) (κ : pv_K) (a1 : Int32) (M : pv_M) : pv_Mt l yX8_undo cX8_undo 3 (some .int) 2 κ [.ref (κ.1 + 0), .int a1] M pv_ji (f_X8_undo a1 M) := by
  refine pv_enter (by decide +kernel) (Nat.le_of_ble_eq_true rfl) (fun g hl hR C => ?_)
  have C : pv_Ok g κ 3 cX8_undo RX8 (some .int) := C
  show pv_R g κ pv_T pv_RF 3 0 0 (pv_QF g κ pv_ji) 0 [(0, .ref (κ.1 + 0)), (1, .int a1)] [] M (f_X8_undo a1 M)
  unfold f_X8_undo
  refine rw_iload_n C dX8_undo_0 rfl 1 rfl ?_
  refine rw_callSPi (As := [.int a1]) C hR dX8_undo_1 cs_X8_116 (k_X8_isText g.2.1 κ a1 M) (by decide) (by decide) rfl (Nat.le_of_ble_eq_true rfl) rfl (fun x1 => ?_)
  refine rw_if_ne (tgt := 10) C dX8_undo_4 (by decide) ?_ ?_
  · refine rw_aload_n C dX8_undo_10 rfl 0 rfl ?_
    refine rw_iload_n C dX8_undo_11 rfl 1 rfl ?_
    refine rw_callVPr (As := [.int a1]) (k0 := 0) C hR dX8_undo_12 cv_X8_124 (k_X8_textOf g.2.1 κ a1 M) (by decide) (by decide) (by decide) sh_0 rfl rfl (Nat.le_of_ble_eq_true rfl) rfl (fun k1 => ?_)
    refine rw_ck (fun hc1 => ?_)
    refine rw_astore_n (lv' := [(2, .ref (κ.1 + k1)), (0, .ref (κ.1 + 0)), (1, .int a1)]) C dX8_undo_15 rfl (by decide) rfl ?_
    refine rw_aload_n C dX8_undo_16 rfl 0 rfl ?_
    refine rw_getI (k0 := k1) C dX8_undo_17 fl_X8_136 rfl (pv_isT_lt hc1) (pv_isT_sh hc1) (by decide) (fun x2 => ?_)
    refine rw_if_gt (tgt := 26) C dX8_undo_20 (by decide) ?_ ?_
    · refine rw_aload_n C dX8_undo_26 rfl 0 rfl ?_
      refine rw_dup C dX8_undo_27 rfl ?_
      refine rw_getI (k0 := k1) C dX8_undo_28 fl_X8_136 rfl (pv_isT_lt hc1) (pv_isT_sh hc1) (by decide) (fun x3 => ?_)
      refine rw_iconst (c := 1) C dX8_undo_31 ci_1 ?_
      refine rw_isub C dX8_undo_32 ?_
      refine rw_put (k0 := k1) C dX8_undo_33 fl_X8_136 ff_X5_2 rfl rfl rfl (pv_isT_lt hc1) (pv_isT_sh hc1) (by decide) (fun M1 => ?_)
      refine rw_aload_n C dX8_undo_36 rfl 1 rfl ?_
      refine rw_iconst (c := 1) C dX8_undo_37 ci_1 ?_
      refine rw_put (k0 := 0) C dX8_undo_38 fl_X8_106 ff_X8_19 rfl (by decide +kernel) (by decide +kernel) (by decide) sh_0 (by decide) (fun M2 => ?_)
      refine rw_aload_n C dX8_undo_41 rfl 0 rfl ?_
      refine rw_getI (k0 := k1) C dX8_undo_42 fl_X8_136 rfl (pv_isT_lt hc1) (pv_isT_sh hc1) (by decide) (fun x4 => ?_)
      exact rw_iret C dX8_undo_45
    · refine rw_bipush (c := (-3)) C dX8_undo_23 (by decide) ?_
      exact rw_iret C dX8_undo_25
  · refine rw_bipush (c := (-2)) C dX8_undo_7 (by decide) ?_
    exact rw_iret C dX8_undo_9
def f_X8_fault (a1 : Int32) (M : pv_M) : Option Int32 := pv_cap (f_X8_isText a1 M) (fun x1 => (if x1 = 0 then some ((-2)) else pv_cap (f_X8_textOf a1 M) (fun k1 => pv_ck (pv_isT k1) (pv_cap (f_X5_faultPlace k1 M) (fun x2 => some x2)))))
set_option maxHeartbeats 4000000 in
set_option maxRecDepth 100000 in
theorem k_X8_fault (l : Launch) (κ : pv_K) (a1 : Int32) (M : pv_M) : pv_MtP l yX8_fault cX8_fault 2 (some .int) 2 κ [.ref (κ.1 + 0), .int a1] M pv_ji (f_X8_fault a1 M) := by
  refine pv_enterP (by decide +kernel) (Nat.le_of_ble_eq_true rfl) (fun g hl hR C => ?_)
  have C : pv_Ok g κ 2 cX8_fault RX8 (some .int) := C
  show pv_R g κ pv_T pv_RF 2 0 0 (pv_QP g κ pv_ji M) 0 [(0, .ref (κ.1 + 0)), (1, .int a1)] [] M (f_X8_fault a1 M)
  unfold f_X8_fault
  refine rw_iload_n C dX8_fault_0 rfl 1 rfl ?_
  refine rw_callSPi (As := [.int a1]) C hR dX8_fault_1 cs_X8_116 (k_X8_isText g.2.1 κ a1 M) (by decide) (by decide) rfl (Nat.le_of_ble_eq_true rfl) rfl (fun x1 => ?_)
  refine rw_if_ne (tgt := 10) C dX8_fault_4 (by decide) ?_ ?_
  · refine rw_aload_n C dX8_fault_10 rfl 0 rfl ?_
    refine rw_iload_n C dX8_fault_11 rfl 1 rfl ?_
    refine rw_callVPr (As := [.int a1]) (k0 := 0) C hR dX8_fault_12 cv_X8_124 (k_X8_textOf g.2.1 κ a1 M) (by decide) (by decide) (by decide) sh_0 rfl rfl (Nat.le_of_ble_eq_true rfl) rfl (fun k1 => ?_)
    refine rw_ck (fun hc1 => ?_)
    refine rw_callVPi (As := []) (k0 := k1) C hR dX8_fault_15 cv_X8_139 (k_X5_faultPlace g.2.1 κ k1 M) (by decide) (by decide) (pv_isT_lt hc1) (pv_isT_sh hc1) rfl rfl (Nat.le_of_ble_eq_true rfl) rfl (fun x2 => ?_)
    exact rw_iretP C dX8_fault_18
  · refine rw_bipush (c := (-2)) C dX8_fault_7 (by decide) ?_
    exact rw_iretP C dX8_fault_9
def f_X8_pollBy (a1 : Int32) (M : pv_M) : Option Nat := (if a1 = 0 then some 53 else (if a1 = 1 then some 88 else some 123))
set_option maxHeartbeats 4000000 in
set_option maxRecDepth 100000 in
theorem k_X8_pollBy (l : Launch) (κ : pv_K) (a1 : Int32) (M : pv_M) : pv_MtP l yX8_pollBy cX8_pollBy 2 (some (.object "PoundVotes$Poll")) 0 κ [.ref (κ.1 + 0), .int a1] M (pv_jr κ) (f_X8_pollBy a1 M) := by
  refine pv_enterP (by decide +kernel) (Nat.le_of_ble_eq_true rfl) (fun g hl hR C => ?_)
  have C : pv_Ok g κ 2 cX8_pollBy RX8 (some (.object "PoundVotes$Poll")) := C
  show pv_R g κ pv_T pv_RF 2 0 0 (pv_QP g κ (pv_jr κ) M) 0 [(0, .ref (κ.1 + 0)), (1, .int a1)] [] M (f_X8_pollBy a1 M)
  unfold f_X8_pollBy
  refine rw_iload_n C dX8_pollBy_0 rfl 1 rfl ?_
  refine rw_if_ne (tgt := 11) C dX8_pollBy_1 (by decide) ?_ ?_
  · refine rw_iload_n C dX8_pollBy_11 rfl 1 rfl ?_
    refine rw_iconst (c := 1) C dX8_pollBy_12 ci_1 ?_
    refine rw_icmp_ne (tgt := 23) C dX8_pollBy_13 (by decide) ?_ ?_
    · refine rw_aload_n C dX8_pollBy_23 rfl 0 rfl ?_
      refine rw_getR (k0 := 0) (k1 := 123) C dX8_pollBy_24 fl_X8_65 rfl (by decide) sh_0 (by decide) rfl ?_
      exact rw_aretP (Or.inl ⟨_, rfl⟩) C dX8_pollBy_27
    · refine rw_aload_n C dX8_pollBy_16 rfl 0 rfl ?_
      refine rw_getR (k0 := 0) (k1 := 88) C dX8_pollBy_17 fl_X8_62 rfl (by decide) sh_0 (by decide) rfl ?_
      refine rw_goto (tgt := 27) C dX8_pollBy_20 (by decide) ?_
      exact rw_aretP (Or.inl ⟨_, rfl⟩) C dX8_pollBy_27
  · refine rw_aload_n C dX8_pollBy_4 rfl 0 rfl ?_
    refine rw_getR (k0 := 0) (k1 := 53) C dX8_pollBy_5 fl_X8_58 rfl (by decide) sh_0 (by decide) rfl ?_
    refine rw_goto (tgt := 27) C dX8_pollBy_8 (by decide) ?_
    exact rw_aretP (Or.inl ⟨_, rfl⟩) C dX8_pollBy_27
def f_X8_settle (M : pv_M) : Option (Unit × pv_M) := pv_nm (M.1 0 19) (fun x1 => pv_jn (fun (M1 : pv_M) => pv_nm (M1.1 0 16) (fun x2 => pv_cap (f_X8_pollBy x2 M1) (fun k1 => pv_ck (pv_isP k1) (pv_cal (f_X1_update k1 M1) (fun u1 M2 => some ((), M2)))))) (fun j1 => (if x1 = 0 then j1 M else pv_nm (pv_u M.1 0 19 0, M.2) (fun M3 => pv_cal (f_X2_take 1 3 7 M3) (fun u2 M4 => j1 M4)))))
set_option maxHeartbeats 4000000 in
set_option maxRecDepth 100000 in
theorem k_X8_settle (l : Launch) (κ : pv_K) (M : pv_M) : pv_Mt l yX8_settle cX8_settle 1 none 4 κ [.ref (κ.1 + 0)] M pv_ju (f_X8_settle M) := by
  refine pv_enter (by decide +kernel) (Nat.le_of_ble_eq_true rfl) (fun g hl hR C => ?_)
  have C : pv_Ok g κ 1 cX8_settle RX8 none := C
  show pv_R g κ pv_T pv_RF 1 0 0 (pv_QF g κ pv_ju) 0 [(0, .ref (κ.1 + 0))] [] M (f_X8_settle M)
  unfold f_X8_settle
  refine rw_aload_n C dX8_settle_0 rfl 0 rfl ?_
  refine rw_getI (k0 := 0) C dX8_settle_1 fl_X8_106 rfl (by decide) sh_0 (by decide) (fun x1 => ?_)
  refine rw_jn (fun j1 => ∀ (M1 : pv_M), pv_R g κ pv_T pv_RF 1 0 0 (pv_QF g κ pv_ju) 31 [(0, .ref (κ.1 + 0))] [] M1 (j1 M1)) (fun M1 => ?_) (fun j1 hj1 => ?_)
  · refine rw_aload_n C dX8_settle_31 rfl 0 rfl ?_
    refine rw_aload_n C dX8_settle_32 rfl 0 rfl ?_
    refine rw_getI (k0 := 0) C dX8_settle_33 fl_X8_96 rfl (by decide) sh_0 (by decide) (fun x2 => ?_)
    refine rw_callVPr (As := [.int x2]) (k0 := 0) C hR dX8_settle_36 cv_X8_183 (k_X8_pollBy g.2.1 κ x2 M1) (by decide) (by decide) (by decide) sh_0 rfl rfl (Nat.le_of_ble_eq_true rfl) rfl (fun k1 => ?_)
    refine rw_ck (fun hc1 => ?_)
    refine rw_callVu (As := []) (k0 := k1) C hR dX8_settle_39 cv_X8_197 (k_X1_update g.2.1 κ k1 M1) (by decide) (by decide) (pv_isP_lt hc1) (pv_isP_sh hc1) rfl rfl (Nat.le_of_ble_eq_true rfl) rfl (fun u1 M2 => ?_)
    exact rw_vret C dX8_settle_42
  · refine rw_if_eq (tgt := 31) C dX8_settle_4 (by decide) ?_ ?_
    · exact hj1 M
    · refine rw_aload_n C dX8_settle_7 rfl 0 rfl ?_
      refine rw_iconst (c := 0) C dX8_settle_8 ci_0 ?_
      refine rw_put (k0 := 0) C dX8_settle_9 fl_X8_106 ff_X8_19 rfl (by decide +kernel) (by decide +kernel) (by decide) sh_0 (by decide) (fun M3 => ?_)
      refine rw_aload_n C dX8_settle_12 rfl 0 rfl ?_
      refine rw_getR (k0 := 0) (k1 := 39) C dX8_settle_13 fl_X8_49 rfl (by decide) sh_0 (by decide) rfl ?_
      refine rw_aload_n C dX8_settle_16 rfl 0 rfl ?_
      refine rw_getR (k0 := 0) (k1 := 1) C dX8_settle_17 fl_X8_14 rfl (by decide) sh_0 (by decide) rfl ?_
      refine rw_aload_n C dX8_settle_20 rfl 0 rfl ?_
      refine rw_getR (k0 := 0) (k1 := 3) C dX8_settle_21 fl_X8_18 rfl (by decide) sh_0 (by decide) rfl ?_
      refine rw_aload_n C dX8_settle_24 rfl 0 rfl ?_
      refine rw_getR (k0 := 0) (k1 := 7) C dX8_settle_25 fl_X8_29 rfl (by decide) sh_0 (by decide) rfl ?_
      refine rw_callVu (As := [.ref (κ.1 + 1), .ref (κ.1 + 3), .ref (κ.1 + 7)]) (k0 := 39) C hR dX8_settle_28 cv_X8_409 (k_X2_take g.2.1 κ 1 3 7 M3) (by decide) (by decide) (by decide) sh_39 rfl rfl (Nat.le_of_ble_eq_true rfl) rfl (fun u2 M4 => ?_)
      exact hj1 M4
def f_X8_isYear (a1 : Int32) (M : pv_M) : Option Int32 := pv_cap (f_X8_isWithin a1 0 9 M) (fun x1 => (if x1 = 0 ∨ x1 = 1 then some x1 else none))
set_option maxHeartbeats 4000000 in
set_option maxRecDepth 100000 in
theorem k_X8_isYear (l : Launch) (κ : pv_K) (a1 : Int32) (M : pv_M) : pv_MtP l yX8_isYear cX8_isYear 1 (some .boolean) 1 κ [.int a1] M pv_ji (f_X8_isYear a1 M) := by
  refine pv_enterP (by decide +kernel) (Nat.le_of_ble_eq_true rfl) (fun g hl hR C => ?_)
  have C : pv_Ok g κ 1 cX8_isYear RX8 (some .boolean) := C
  show pv_R g κ pv_T pv_RF 1 0 0 (pv_QP g κ pv_ji M) 0 [(0, .int a1)] [] M (f_X8_isYear a1 M)
  unfold f_X8_isYear
  refine rw_iload_n C dX8_isYear_0 rfl 0 rfl ?_
  refine rw_iconst (c := 0) C dX8_isYear_1 ci_0 ?_
  refine rw_bipush (c := 9) C dX8_isYear_2 (by decide) ?_
  refine rw_callSPi (As := [.int a1, .int 0, .int 9]) C hR dX8_isYear_4 cs_X8_120 (k_X8_isWithin g.2.1 κ a1 0 9 M) (by decide) (by decide) rfl (Nat.le_of_ble_eq_true rfl) rfl (fun x1 => ?_)
  exact rw_zret_ckP C dX8_isYear_7
def f_X8_isParty (a1 : Int32) (M : pv_M) : Option Int32 := pv_nm (M.1 39 0) (fun x1 => pv_cap (f_X8_isWithin a1 0 (x1 - 1) M) (fun x2 => (if x2 = 0 ∨ x2 = 1 then some x2 else none)))
set_option maxHeartbeats 4000000 in
set_option maxRecDepth 100000 in
theorem k_X8_isParty (l : Launch) (κ : pv_K) (a1 : Int32) (M : pv_M) : pv_MtP l yX8_isParty cX8_isParty 2 (some .boolean) 1 κ [.ref (κ.1 + 0), .int a1] M pv_ji (f_X8_isParty a1 M) := by
  refine pv_enterP (by decide +kernel) (Nat.le_of_ble_eq_true rfl) (fun g hl hR C => ?_)
  have C : pv_Ok g κ 2 cX8_isParty RX8 (some .boolean) := C
  show pv_R g κ pv_T pv_RF 2 0 0 (pv_QP g κ pv_ji M) 0 [(0, .ref (κ.1 + 0)), (1, .int a1)] [] M (f_X8_isParty a1 M)
  unfold f_X8_isParty
  refine rw_iload_n C dX8_isParty_0 rfl 1 rfl ?_
  refine rw_iconst (c := 0) C dX8_isParty_1 ci_0 ?_
  refine rw_aload_n C dX8_isParty_2 rfl 0 rfl ?_
  refine rw_getR (k0 := 0) (k1 := 39) C dX8_isParty_3 fl_X8_49 rfl (by decide) sh_0 (by decide) rfl ?_
  refine rw_getI (k0 := 39) C dX8_isParty_6 fl_X8_215 rfl (by decide) sh_39 (by decide) (fun x1 => ?_)
  refine rw_iconst (c := 1) C dX8_isParty_9 ci_1 ?_
  refine rw_isub C dX8_isParty_10 ?_
  refine rw_callSPi (As := [.int a1, .int 0, .int (x1 - 1)]) C hR dX8_isParty_11 cs_X8_120 (k_X8_isWithin g.2.1 κ a1 0 (x1 - 1) M) (by decide) (by decide) rfl (Nat.le_of_ble_eq_true rfl) rfl (fun x2 => ?_)
  exact rw_zret_ckP C dX8_isParty_14
def f_X8_isUnit (a1 : Int32) (M : pv_M) : Option Int32 := pv_cap (f_X8_isWithin a1 0 2 M) (fun x1 => (if x1 = 0 ∨ x1 = 1 then some x1 else none))
set_option maxHeartbeats 4000000 in
set_option maxRecDepth 100000 in
theorem k_X8_isUnit (l : Launch) (κ : pv_K) (a1 : Int32) (M : pv_M) : pv_MtP l yX8_isUnit cX8_isUnit 1 (some .boolean) 1 κ [.int a1] M pv_ji (f_X8_isUnit a1 M) := by
  refine pv_enterP (by decide +kernel) (Nat.le_of_ble_eq_true rfl) (fun g hl hR C => ?_)
  have C : pv_Ok g κ 1 cX8_isUnit RX8 (some .boolean) := C
  show pv_R g κ pv_T pv_RF 1 0 0 (pv_QP g κ pv_ji M) 0 [(0, .int a1)] [] M (f_X8_isUnit a1 M)
  unfold f_X8_isUnit
  refine rw_iload_n C dX8_isUnit_0 rfl 0 rfl ?_
  refine rw_iconst (c := 0) C dX8_isUnit_1 ci_0 ?_
  refine rw_iconst (c := 2) C dX8_isUnit_2 ci_2 ?_
  refine rw_callSPi (As := [.int a1, .int 0, .int 2]) C hR dX8_isUnit_3 cs_X8_120 (k_X8_isWithin g.2.1 κ a1 0 2 M) (by decide) (by decide) rfl (Nat.le_of_ble_eq_true rfl) rfl (fun x1 => ?_)
  exact rw_zret_ckP C dX8_isUnit_6
def f_X8_ticket (a1 : Int32) (a2 : Int32) (a3 : Int32) (M : pv_M) : Option (Int32 × pv_M) := pv_cal (f_X8_settle M) (fun u1 M1 => pv_cap (f_X8_isYear a1 M1) (fun x1 => (if x1 = 0 then some ((-2), M1) else pv_cap (f_X8_isParty a2 M1) (fun x2 => (if x2 = 0 then some ((-2), M1) else pv_cap (f_X8_isUnit a3 M1) (fun x3 => (if x3 = 0 then some ((-2), M1) else pv_cap (f_X2_figure a1 a2 a3 M1) (fun x4 => some (x4, M1)))))))))
set_option maxHeartbeats 4000000 in
set_option maxRecDepth 100000 in
theorem k_X8_ticket (l : Launch) (κ : pv_K) (a1 : Int32) (a2 : Int32) (a3 : Int32) (M : pv_M) : pv_Mt l yX8_ticket cX8_ticket 4 (some .int) 5 κ [.ref (κ.1 + 0), .int a1, .int a2, .int a3] M pv_ji (f_X8_ticket a1 a2 a3 M) := by
  refine pv_enter (by decide +kernel) (Nat.le_of_ble_eq_true rfl) (fun g hl hR C => ?_)
  have C : pv_Ok g κ 4 cX8_ticket RX8 (some .int) := C
  show pv_R g κ pv_T pv_RF 4 0 0 (pv_QF g κ pv_ji) 0 [(0, .ref (κ.1 + 0)), (1, .int a1), (2, .int a2), (3, .int a3)] [] M (f_X8_ticket a1 a2 a3 M)
  unfold f_X8_ticket
  refine rw_aload_n C dX8_ticket_0 rfl 0 rfl ?_
  refine rw_callVu (As := []) (k0 := 0) C hR dX8_ticket_1 cv_X8_143 (k_X8_settle g.2.1 κ M) (by decide) (by decide) (by decide) sh_0 rfl rfl (Nat.le_of_ble_eq_true rfl) rfl (fun u1 M1 => ?_)
  refine rw_iload_n C dX8_ticket_4 rfl 1 rfl ?_
  refine rw_callSPi (As := [.int a1]) C hR dX8_ticket_5 cs_X8_146 (k_X8_isYear g.2.1 κ a1 M1) (by decide) (by decide) rfl (Nat.le_of_ble_eq_true rfl) rfl (fun x1 => ?_)
  refine rw_if_eq (tgt := 26) C dX8_ticket_8 (by decide) ?_ ?_
  · refine rw_bipush (c := (-2)) C dX8_ticket_26 (by decide) ?_
    exact rw_iret C dX8_ticket_28
  · refine rw_aload_n C dX8_ticket_11 rfl 0 rfl ?_
    refine rw_iload_n C dX8_ticket_12 rfl 2 rfl ?_
    refine rw_callVPi (As := [.int a2]) (k0 := 0) C hR dX8_ticket_13 cv_X8_149 (k_X8_isParty g.2.1 κ a2 M1) (by decide) (by decide) (by decide) sh_0 rfl rfl (Nat.le_of_ble_eq_true rfl) rfl (fun x2 => ?_)
    refine rw_if_eq (tgt := 26) C dX8_ticket_16 (by decide) ?_ ?_
    · refine rw_bipush (c := (-2)) C dX8_ticket_26 (by decide) ?_
      exact rw_iret C dX8_ticket_28
    · refine rw_iload_n C dX8_ticket_19 rfl 3 rfl ?_
      refine rw_callSPi (As := [.int a3]) C hR dX8_ticket_20 cs_X8_152 (k_X8_isUnit g.2.1 κ a3 M1) (by decide) (by decide) rfl (Nat.le_of_ble_eq_true rfl) rfl (fun x3 => ?_)
      refine rw_if_ne (tgt := 29) C dX8_ticket_23 (by decide) ?_ ?_
      · refine rw_aload_n C dX8_ticket_29 rfl 0 rfl ?_
        refine rw_getR (k0 := 0) (k1 := 39) C dX8_ticket_30 fl_X8_49 rfl (by decide) sh_0 (by decide) rfl ?_
        refine rw_iload_n C dX8_ticket_33 rfl 1 rfl ?_
        refine rw_iload_n C dX8_ticket_34 rfl 2 rfl ?_
        refine rw_iload_n C dX8_ticket_35 rfl 3 rfl ?_
        refine rw_callVPi (As := [.int a1, .int a2, .int a3]) (k0 := 39) C hR dX8_ticket_36 cv_X8_155 (k_X2_figure g.2.1 κ a1 a2 a3 M1) (by decide) (by decide) (by decide) sh_39 rfl rfl (Nat.le_of_ble_eq_true rfl) rfl (fun x4 => ?_)
        exact rw_iret C dX8_ticket_39
      · refine rw_bipush (c := (-2)) C dX8_ticket_26 (by decide) ?_
        exact rw_iret C dX8_ticket_28
def f_X8_isOnRoll (a1 : Int32) (M : pv_M) : Option Int32 := pv_nm (M.1 39 1) (fun x1 => pv_cap (f_X8_isWithin a1 0 (x1 - 1) M) (fun x2 => (if x2 = 0 ∨ x2 = 1 then some x2 else none)))
set_option maxHeartbeats 4000000 in
set_option maxRecDepth 100000 in
theorem k_X8_isOnRoll (l : Launch) (κ : pv_K) (a1 : Int32) (M : pv_M) : pv_MtP l yX8_isOnRoll cX8_isOnRoll 2 (some .boolean) 1 κ [.ref (κ.1 + 0), .int a1] M pv_ji (f_X8_isOnRoll a1 M) := by
  refine pv_enterP (by decide +kernel) (Nat.le_of_ble_eq_true rfl) (fun g hl hR C => ?_)
  have C : pv_Ok g κ 2 cX8_isOnRoll RX8 (some .boolean) := C
  show pv_R g κ pv_T pv_RF 2 0 0 (pv_QP g κ pv_ji M) 0 [(0, .ref (κ.1 + 0)), (1, .int a1)] [] M (f_X8_isOnRoll a1 M)
  unfold f_X8_isOnRoll
  refine rw_iload_n C dX8_isOnRoll_0 rfl 1 rfl ?_
  refine rw_iconst (c := 0) C dX8_isOnRoll_1 ci_0 ?_
  refine rw_aload_n C dX8_isOnRoll_2 rfl 0 rfl ?_
  refine rw_getR (k0 := 0) (k1 := 39) C dX8_isOnRoll_3 fl_X8_49 rfl (by decide) sh_0 (by decide) rfl ?_
  refine rw_getI (k0 := 39) C dX8_isOnRoll_6 fl_X8_407 rfl (by decide) sh_39 (by decide) (fun x1 => ?_)
  refine rw_iconst (c := 1) C dX8_isOnRoll_9 ci_1 ?_
  refine rw_isub C dX8_isOnRoll_10 ?_
  refine rw_callSPi (As := [.int a1, .int 0, .int (x1 - 1)]) C hR dX8_isOnRoll_11 cs_X8_120 (k_X8_isWithin g.2.1 κ a1 0 (x1 - 1) M) (by decide) (by decide) rfl (Nat.le_of_ble_eq_true rfl) rfl (fun x2 => ?_)
  exact rw_zret_ckP C dX8_isOnRoll_14
def f_X8_voter (a1 : Int32) (a2 : Int32) (M : pv_M) : Option (Int32 × pv_M) := pv_cal (f_X8_settle M) (fun u1 M1 => pv_cap (f_X8_isOnRoll a1 M1) (fun x1 => (if x1 = 0 then some ((-2), M1) else (if a2 = 0 then pv_cap (f_X2_unitOf a1 M1) (fun x4 => some (x4, M1)) else (if a2 = 1 then pv_cap (f_X2_owed a1 M1) (fun x3 => (if x3 ≤ 0 then some (0, M1) else some (1, M1))) else (if a2 = 2 then pv_cap (f_X2_owed a1 M1) (fun x2 => some (if 0 ≤ x2 then x2 else 0 - x2, M1)) else some ((-2), M1)))))))
set_option maxHeartbeats 4000000 in
set_option maxRecDepth 100000 in
theorem k_X8_voter (l : Launch) (κ : pv_K) (a1 : Int32) (a2 : Int32) (M : pv_M) : pv_Mt l yX8_voter cX8_voter 3 (some .int) 5 κ [.ref (κ.1 + 0), .int a1, .int a2] M pv_ji (f_X8_voter a1 a2 M) := by
  refine pv_enter (by decide +kernel) (Nat.le_of_ble_eq_true rfl) (fun g hl hR C => ?_)
  have C : pv_Ok g κ 3 cX8_voter RX8 (some .int) := C
  show pv_R g κ pv_T pv_RF 3 0 0 (pv_QF g κ pv_ji) 0 [(0, .ref (κ.1 + 0)), (1, .int a1), (2, .int a2)] [] M (f_X8_voter a1 a2 M)
  unfold f_X8_voter
  refine rw_aload_n C dX8_voter_0 rfl 0 rfl ?_
  refine rw_callVu (As := []) (k0 := 0) C hR dX8_voter_1 cv_X8_143 (k_X8_settle g.2.1 κ M) (by decide) (by decide) (by decide) sh_0 rfl rfl (Nat.le_of_ble_eq_true rfl) rfl (fun u1 M1 => ?_)
  refine rw_aload_n C dX8_voter_4 rfl 0 rfl ?_
  refine rw_iload_n C dX8_voter_5 rfl 1 rfl ?_
  refine rw_callVPi (As := [.int a1]) (k0 := 0) C hR dX8_voter_6 cv_X8_159 (k_X8_isOnRoll g.2.1 κ a1 M1) (by decide) (by decide) (by decide) sh_0 rfl rfl (Nat.le_of_ble_eq_true rfl) rfl (fun x1 => ?_)
  refine rw_if_ne (tgt := 15) C dX8_voter_9 (by decide) ?_ ?_
  · refine rw_iload_n C dX8_voter_15 rfl 2 rfl ?_
    refine rw_if_ne (tgt := 28) C dX8_voter_16 (by decide) ?_ ?_
    · refine rw_iload_n C dX8_voter_28 rfl 2 rfl ?_
      refine rw_iconst (c := 1) C dX8_voter_29 ci_1 ?_
      refine rw_icmp_ne (tgt := 50) C dX8_voter_30 (by decide) ?_ ?_
      · refine rw_iload_n C dX8_voter_50 rfl 2 rfl ?_
        refine rw_iconst (c := 2) C dX8_voter_51 ci_2 ?_
        refine rw_icmp_ne (tgt := 67) C dX8_voter_52 (by decide) ?_ ?_
        · refine rw_bipush (c := (-2)) C dX8_voter_67 (by decide) ?_
          exact rw_iret C dX8_voter_69
        · refine rw_aload_n C dX8_voter_55 rfl 0 rfl ?_
          refine rw_getR (k0 := 0) (k1 := 39) C dX8_voter_56 fl_X8_49 rfl (by decide) sh_0 (by decide) rfl ?_
          refine rw_iload_n C dX8_voter_59 rfl 1 rfl ?_
          refine rw_callVPi (As := [.int a1]) (k0 := 39) C hR dX8_voter_60 cv_X8_166 (k_X2_owed g.2.1 κ a1 M1) (by decide) (by decide) (by decide) sh_39 rfl rfl (Nat.le_of_ble_eq_true rfl) rfl (fun x2 => ?_)
          refine rw_abs C hR dX8_voter_63 ⟨mw_379, mw_380, mw_381, mw_382⟩ (by decide) (Nat.le_of_ble_eq_true rfl) ⟨rfl, rfl⟩ ?_
          exact rw_iret C dX8_voter_66
      · refine rw_aload_n C dX8_voter_33 rfl 0 rfl ?_
        refine rw_getR (k0 := 0) (k1 := 39) C dX8_voter_34 fl_X8_49 rfl (by decide) sh_0 (by decide) rfl ?_
        refine rw_iload_n C dX8_voter_37 rfl 1 rfl ?_
        refine rw_callVPi (As := [.int a1]) (k0 := 39) C hR dX8_voter_38 cv_X8_166 (k_X2_owed g.2.1 κ a1 M1) (by decide) (by decide) (by decide) sh_39 rfl rfl (Nat.le_of_ble_eq_true rfl) rfl (fun x3 => ?_)
        refine rw_if_le (tgt := 48) C dX8_voter_41 (by decide) ?_ ?_
        · refine rw_iconst (c := 0) C dX8_voter_48 ci_0 ?_
          exact rw_iret C dX8_voter_49
        · refine rw_iconst (c := 1) C dX8_voter_44 ci_1 ?_
          refine rw_goto (tgt := 49) C dX8_voter_45 (by decide) ?_
          exact rw_iret C dX8_voter_49
    · refine rw_aload_n C dX8_voter_19 rfl 0 rfl ?_
      refine rw_getR (k0 := 0) (k1 := 39) C dX8_voter_20 fl_X8_49 rfl (by decide) sh_0 (by decide) rfl ?_
      refine rw_iload_n C dX8_voter_23 rfl 1 rfl ?_
      refine rw_callVPi (As := [.int a1]) (k0 := 39) C hR dX8_voter_24 cv_X8_162 (k_X2_unitOf g.2.1 κ a1 M1) (by decide) (by decide) (by decide) sh_39 rfl rfl (Nat.le_of_ble_eq_true rfl) rfl (fun x4 => ?_)
      exact rw_iret C dX8_voter_27
  · refine rw_bipush (c := (-2)) C dX8_voter_12 (by decide) ?_
    exact rw_iret C dX8_voter_14
def f_X8_set (a1 : Int32) (a2 : Int32) (M : pv_M) : Option (Int32 × pv_M) := pv_jn ((if a1 = 1 then pv_cap (f_X8_isWithin a2 0 1 M) (fun x1 => (if x1 = 0 then some ((-2), M) else pv_nm (M.1 0 17) (fun x2 => pv_nm (pv_u M.1 0 17 a2, M.2) (fun M1 => some (x2, M1))))) else some ((-2), M))) (fun j1 => (if a1 = 0 then pv_cap (f_X8_isWithin a2 0 2 M) (fun x3 => (if x3 = 0 then j1 else pv_nm (M.1 0 16) (fun x4 => pv_nm (pv_u M.1 0 16 a2, M.2) (fun M2 => some (x4, M2))))) else j1))
set_option maxHeartbeats 4000000 in
set_option maxRecDepth 100000 in
theorem k_X8_set (l : Launch) (κ : pv_K) (a1 : Int32) (a2 : Int32) (M : pv_M) : pv_Mt l yX8_set cX8_set 4 (some .int) 1 κ [.ref (κ.1 + 0), .int a1, .int a2] M pv_ji (f_X8_set a1 a2 M) := by
  refine pv_enter (by decide +kernel) (Nat.le_of_ble_eq_true rfl) (fun g hl hR C => ?_)
  have C : pv_Ok g κ 4 cX8_set RX8 (some .int) := C
  show pv_R g κ pv_T pv_RF 4 0 0 (pv_QF g κ pv_ji) 0 [(0, .ref (κ.1 + 0)), (1, .int a1), (2, .int a2)] [] M (f_X8_set a1 a2 M)
  unfold f_X8_set
  refine rw_iload_n C dX8_set_0 rfl 1 rfl ?_
  refine rw_jn (fun j1 => pv_R g κ pv_T pv_RF 4 0 0 (pv_QF g κ pv_ji) 25 [(0, .ref (κ.1 + 0)), (1, .int a1), (2, .int a2)] [] M (j1)) (?_) (fun j1 hj1 => ?_)
  · refine rw_iload_n C dX8_set_25 rfl 1 rfl ?_
    refine rw_iconst (c := 1) C dX8_set_26 ci_1 ?_
    refine rw_icmp_ne (tgt := 51) C dX8_set_27 (by decide) ?_ ?_
    · refine rw_bipush (c := (-2)) C dX8_set_51 (by decide) ?_
      exact rw_iret C dX8_set_53
    · refine rw_iload_n C dX8_set_30 rfl 2 rfl ?_
      refine rw_iconst (c := 0) C dX8_set_31 ci_0 ?_
      refine rw_iconst (c := 1) C dX8_set_32 ci_1 ?_
      refine rw_callSPi (As := [.int a2, .int 0, .int 1]) C hR dX8_set_33 cs_X8_120 (k_X8_isWithin g.2.1 κ a2 0 1 M) (by decide) (by decide) rfl (Nat.le_of_ble_eq_true rfl) rfl (fun x1 => ?_)
      refine rw_if_eq (tgt := 51) C dX8_set_36 (by decide) ?_ ?_
      · refine rw_bipush (c := (-2)) C dX8_set_51 (by decide) ?_
        exact rw_iret C dX8_set_53
      · refine rw_aload_n C dX8_set_39 rfl 0 rfl ?_
        refine rw_getI (k0 := 0) C dX8_set_40 fl_X8_100 rfl (by decide) sh_0 (by decide) (fun x2 => ?_)
        refine rw_istore_n (lv' := [(3, .int x2), (0, .ref (κ.1 + 0)), (1, .int a1), (2, .int a2)]) C dX8_set_43 rfl (by decide) rfl ?_
        refine rw_aload_n C dX8_set_44 rfl 1 rfl ?_
        refine rw_iload_n C dX8_set_45 rfl 3 rfl ?_
        refine rw_put (k0 := 0) C dX8_set_46 fl_X8_100 ff_X8_17 rfl rfl rfl (by decide) sh_0 (by decide) (fun M1 => ?_)
        refine rw_iload_n C dX8_set_49 rfl 0 rfl ?_
        exact rw_iret C dX8_set_50
  · refine rw_if_ne (tgt := 25) C dX8_set_1 (by decide) ?_ ?_
    · exact hj1
    · refine rw_iload_n C dX8_set_4 rfl 2 rfl ?_
      refine rw_iconst (c := 0) C dX8_set_5 ci_0 ?_
      refine rw_iconst (c := 2) C dX8_set_6 ci_2 ?_
      refine rw_callSPi (As := [.int a2, .int 0, .int 2]) C hR dX8_set_7 cs_X8_120 (k_X8_isWithin g.2.1 κ a2 0 2 M) (by decide) (by decide) rfl (Nat.le_of_ble_eq_true rfl) rfl (fun x3 => ?_)
      refine rw_if_eq (tgt := 25) C dX8_set_10 (by decide) ?_ ?_
      · exact hj1
      · refine rw_aload_n C dX8_set_13 rfl 0 rfl ?_
        refine rw_getI (k0 := 0) C dX8_set_14 fl_X8_96 rfl (by decide) sh_0 (by decide) (fun x4 => ?_)
        refine rw_istore_n (lv' := [(3, .int x4), (0, .ref (κ.1 + 0)), (1, .int a1), (2, .int a2)]) C dX8_set_17 rfl (by decide) rfl ?_
        refine rw_aload_n C dX8_set_18 rfl 1 rfl ?_
        refine rw_iload_n C dX8_set_19 rfl 3 rfl ?_
        refine rw_put (k0 := 0) C dX8_set_20 fl_X8_96 ff_X8_16 rfl rfl rfl (by decide) sh_0 (by decide) (fun M2 => ?_)
        refine rw_iload_n C dX8_set_23 rfl 0 rfl ?_
        exact rw_iret C dX8_set_24
def f_X8_isPerson (a1 : Int32) (M : pv_M) : Option Int32 := pv_cap (f_X8_isWithin a1 0 7 M) (fun x1 => (if x1 = 0 ∨ x1 = 1 then some x1 else none))
set_option maxHeartbeats 4000000 in
set_option maxRecDepth 100000 in
theorem k_X8_isPerson (l : Launch) (κ : pv_K) (a1 : Int32) (M : pv_M) : pv_MtP l yX8_isPerson cX8_isPerson 1 (some .boolean) 1 κ [.int a1] M pv_ji (f_X8_isPerson a1 M) := by
  refine pv_enterP (by decide +kernel) (Nat.le_of_ble_eq_true rfl) (fun g hl hR C => ?_)
  have C : pv_Ok g κ 1 cX8_isPerson RX8 (some .boolean) := C
  show pv_R g κ pv_T pv_RF 1 0 0 (pv_QP g κ pv_ji M) 0 [(0, .int a1)] [] M (f_X8_isPerson a1 M)
  unfold f_X8_isPerson
  refine rw_iload_n C dX8_isPerson_0 rfl 0 rfl ?_
  refine rw_iconst (c := 0) C dX8_isPerson_1 ci_0 ?_
  refine rw_bipush (c := 7) C dX8_isPerson_2 (by decide) ?_
  refine rw_callSPi (As := [.int a1, .int 0, .int 7]) C hR dX8_isPerson_4 cs_X8_120 (k_X8_isWithin g.2.1 κ a1 0 7 M) (by decide) (by decide) rfl (Nat.le_of_ble_eq_true rfl) rfl (fun x1 => ?_)
  exact rw_zret_ckP C dX8_isPerson_7
def f_X8_purse (a1 : Int32) (a2 : Int32) (M : pv_M) : Option (Int32 × pv_M) := pv_cap (f_X8_isPerson a1 M) (fun x1 => (if x1 = 0 then some ((-2), M) else pv_cap (f_X8_isWithin a2 0 999 M) (fun x2 => (if x2 = 0 then some ((-2), M) else pv_ldI pv_T 37 a1 M (fun x3 => pv_stI pv_T 37 a1 a2 M (fun M1 => some (x3, M1)))))))
set_option maxHeartbeats 4000000 in
set_option maxRecDepth 100000 in
theorem k_X8_purse (l : Launch) (κ : pv_K) (a1 : Int32) (a2 : Int32) (M : pv_M) : pv_Mt l yX8_purse cX8_purse 4 (some .int) 2 κ [.ref (κ.1 + 0), .int a1, .int a2] M pv_ji (f_X8_purse a1 a2 M) := by
  refine pv_enter (by decide +kernel) (Nat.le_of_ble_eq_true rfl) (fun g hl hR C => ?_)
  have C : pv_Ok g κ 4 cX8_purse RX8 (some .int) := C
  show pv_R g κ pv_T pv_RF 4 0 0 (pv_QF g κ pv_ji) 0 [(0, .ref (κ.1 + 0)), (1, .int a1), (2, .int a2)] [] M (f_X8_purse a1 a2 M)
  unfold f_X8_purse
  refine rw_iload_n C dX8_purse_0 rfl 1 rfl ?_
  refine rw_callSPi (As := [.int a1]) C hR dX8_purse_1 cs_X8_174 (k_X8_isPerson g.2.1 κ a1 M) (by decide) (by decide) rfl (Nat.le_of_ble_eq_true rfl) rfl (fun x1 => ?_)
  refine rw_if_eq (tgt := 18) C dX8_purse_4 (by decide) ?_ ?_
  · refine rw_bipush (c := (-2)) C dX8_purse_18 (by decide) ?_
    exact rw_iret C dX8_purse_20
  · refine rw_iload_n C dX8_purse_7 rfl 2 rfl ?_
    refine rw_iconst (c := 0) C dX8_purse_8 ci_0 ?_
    refine rw_sipush (c := 999) C dX8_purse_9 (by decide) ?_
    refine rw_callSPi (As := [.int a2, .int 0, .int 999]) C hR dX8_purse_12 cs_X8_120 (k_X8_isWithin g.2.1 κ a2 0 999 M) (by decide) (by decide) rfl (Nat.le_of_ble_eq_true rfl) rfl (fun x2 => ?_)
    refine rw_if_ne (tgt := 21) C dX8_purse_15 (by decide) ?_ ?_
    · refine rw_aload_n C dX8_purse_21 rfl 0 rfl ?_
      refine rw_getR (k0 := 0) (k1 := 37) C dX8_purse_22 fl_X8_39 rfl (by decide) sh_0 (by decide) rfl ?_
      refine rw_iload_n C dX8_purse_25 rfl 1 rfl ?_
      refine rw_ldI C dX8_purse_26 (fun x3 => ?_)
      refine rw_istore_n (lv' := [(3, .int x3), (0, .ref (κ.1 + 0)), (1, .int a1), (2, .int a2)]) C dX8_purse_27 rfl (by decide) rfl ?_
      refine rw_aload_n C dX8_purse_28 rfl 1 rfl ?_
      refine rw_getR (k0 := 0) (k1 := 37) C dX8_purse_29 fl_X8_39 rfl (by decide) sh_0 (by decide) rfl ?_
      refine rw_iload_n C dX8_purse_32 rfl 2 rfl ?_
      refine rw_iload_n C dX8_purse_33 rfl 3 rfl ?_
      refine rw_stI C dX8_purse_34 (fun M1 => ?_)
      refine rw_iload_n C dX8_purse_35 rfl 0 rfl ?_
      exact rw_iret C dX8_purse_36
    · refine rw_bipush (c := (-2)) C dX8_purse_18 (by decide) ?_
      exact rw_iret C dX8_purse_20
def f_X8_change (a1 : Int32) (a2 : Int32) (a3 : Int32) (a4 : Int32) (M : pv_M) : Option (Int32 × pv_M) := pv_cap (f_X8_isYear a1 M) (fun x1 => (if x1 = 0 then some ((-2), M) else pv_cap (f_X8_isWithin a2 0 3 M) (fun x2 => (if x2 = 0 then some ((-2), M) else pv_cap (f_X8_isUnit a3 M) (fun x3 => (if x3 = 0 then some ((-2), M) else pv_cap (f_X8_isWithin a4 1 9 M) (fun x4 => (if x4 = 0 then some ((-2), M) else pv_cap (f_X3_isFull 7 M) (fun x5 => (if x5 = 0 then pv_cal (f_X3_next 7 M) (fun k1 M1 => pv_stI pv_T k1 0 a1 M1 (fun M2 => pv_stI pv_T k1 1 a2 M2 (fun M3 => pv_stI pv_T k1 2 a3 M3 (fun M4 => pv_stI pv_T k1 3 a4 M4 (fun M5 => pv_nm (pv_u M5.1 0 19 1, M5.2) (fun M6 => pv_nm (M6.1 7 1) (fun x6 => some (x6, M6)))))))) else some ((-4), M)))))))))))
set_option maxHeartbeats 4000000 in
set_option maxRecDepth 100000 in
theorem k_X8_change (l : Launch) (κ : pv_K) (a1 : Int32) (a2 : Int32) (a3 : Int32) (a4 : Int32) (M : pv_M) : pv_Mt l yX8_change cX8_change 6 (some .int) 2 κ [.ref (κ.1 + 0), .int a1, .int a2, .int a3, .int a4] M pv_ji (f_X8_change a1 a2 a3 a4 M) := by
  refine pv_enter (by decide +kernel) (Nat.le_of_ble_eq_true rfl) (fun g hl hR C => ?_)
  have C : pv_Ok g κ 6 cX8_change RX8 (some .int) := C
  show pv_R g κ pv_T pv_RF 6 0 0 (pv_QF g κ pv_ji) 0 [(0, .ref (κ.1 + 0)), (1, .int a1), (2, .int a2), (3, .int a3), (4, .int a4)] [] M (f_X8_change a1 a2 a3 a4 M)
  unfold f_X8_change
  refine rw_iload_n C dX8_change_0 rfl 1 rfl ?_
  refine rw_callSPi (As := [.int a1]) C hR dX8_change_1 cs_X8_146 (k_X8_isYear g.2.1 κ a1 M) (by decide) (by decide) rfl (Nat.le_of_ble_eq_true rfl) rfl (fun x1 => ?_)
  refine rw_if_eq (tgt := 16) C dX8_change_4 (by decide) ?_ ?_
  · refine rw_bipush (c := (-2)) C dX8_change_16 (by decide) ?_
    exact rw_iret C dX8_change_18
  · refine rw_iload_n C dX8_change_7 rfl 2 rfl ?_
    refine rw_iconst (c := 0) C dX8_change_8 ci_0 ?_
    refine rw_iconst (c := 3) C dX8_change_9 ci_3 ?_
    refine rw_callSPi (As := [.int a2, .int 0, .int 3]) C hR dX8_change_10 cs_X8_120 (k_X8_isWithin g.2.1 κ a2 0 3 M) (by decide) (by decide) rfl (Nat.le_of_ble_eq_true rfl) rfl (fun x2 => ?_)
    refine rw_if_ne (tgt := 19) C dX8_change_13 (by decide) ?_ ?_
    · refine rw_iload_n C dX8_change_19 rfl 3 rfl ?_
      refine rw_callSPi (As := [.int a3]) C hR dX8_change_20 cs_X8_152 (k_X8_isUnit g.2.1 κ a3 M) (by decide) (by decide) rfl (Nat.le_of_ble_eq_true rfl) rfl (fun x3 => ?_)
      refine rw_if_eq (tgt := 37) C dX8_change_23 (by decide) ?_ ?_
      · refine rw_bipush (c := (-2)) C dX8_change_37 (by decide) ?_
        exact rw_iret C dX8_change_39
      · refine rw_iload C dX8_change_26 4 rfl ?_
        refine rw_iconst (c := 1) C dX8_change_28 ci_1 ?_
        refine rw_bipush (c := 9) C dX8_change_29 (by decide) ?_
        refine rw_callSPi (As := [.int a4, .int 1, .int 9]) C hR dX8_change_31 cs_X8_120 (k_X8_isWithin g.2.1 κ a4 1 9 M) (by decide) (by decide) rfl (Nat.le_of_ble_eq_true rfl) rfl (fun x4 => ?_)
        refine rw_if_ne (tgt := 40) C dX8_change_34 (by decide) ?_ ?_
        · refine rw_aload_n C dX8_change_40 rfl 0 rfl ?_
          refine rw_getR (k0 := 0) (k1 := 7) C dX8_change_41 fl_X8_29 rfl (by decide) sh_0 (by decide) rfl ?_
          refine rw_callVPi (As := []) (k0 := 7) C hR dX8_change_44 cv_X8_177 (k_X3_isFull g.2.1 κ 7 M) (by decide) (by decide) (by decide) sh_7 rfl rfl (Nat.le_of_ble_eq_true rfl) rfl (fun x5 => ?_)
          refine rw_if_eq (tgt := 53) C dX8_change_47 (by decide) ?_ ?_
          · refine rw_aload_n C dX8_change_53 rfl 0 rfl ?_
            refine rw_getR (k0 := 0) (k1 := 7) C dX8_change_54 fl_X8_29 rfl (by decide) sh_0 (by decide) rfl ?_
            refine rw_callVr (As := []) (k0 := 7) C hR dX8_change_57 cv_X8_178 (k_X3_next g.2.1 κ 7 M) (by decide) (by decide) (by decide) sh_7 rfl rfl (Nat.le_of_ble_eq_true rfl) rfl (fun k1 M1 => ?_)
            refine rw_astore (lv' := [(5, .ref (κ.1 + k1)), (0, .ref (κ.1 + 0)), (1, .int a1), (2, .int a2), (3, .int a3), (4, .int a4)]) C dX8_change_60 (by decide) rfl ?_
            refine rw_aload C dX8_change_62 0 rfl ?_
            refine rw_iconst (c := 0) C dX8_change_64 ci_0 ?_
            refine rw_iload_n C dX8_change_65 rfl 2 rfl ?_
            refine rw_stI C dX8_change_66 (fun M2 => ?_)
            refine rw_aload C dX8_change_67 0 rfl ?_
            refine rw_iconst (c := 1) C dX8_change_69 ci_1 ?_
            refine rw_iload_n C dX8_change_70 rfl 3 rfl ?_
            refine rw_stI C dX8_change_71 (fun M3 => ?_)
            refine rw_aload C dX8_change_72 0 rfl ?_
            refine rw_iconst (c := 2) C dX8_change_74 ci_2 ?_
            refine rw_iload_n C dX8_change_75 rfl 4 rfl ?_
            refine rw_stI C dX8_change_76 (fun M4 => ?_)
            refine rw_aload C dX8_change_77 0 rfl ?_
            refine rw_iconst (c := 3) C dX8_change_79 ci_3 ?_
            refine rw_iload C dX8_change_80 5 rfl ?_
            refine rw_stI C dX8_change_82 (fun M5 => ?_)
            refine rw_aload_n C dX8_change_83 rfl 1 rfl ?_
            refine rw_iconst (c := 1) C dX8_change_84 ci_1 ?_
            refine rw_put (k0 := 0) C dX8_change_85 fl_X8_106 ff_X8_19 rfl (by decide +kernel) (by decide +kernel) (by decide) sh_0 (by decide) (fun M6 => ?_)
            refine rw_aload_n C dX8_change_88 rfl 1 rfl ?_
            refine rw_getR (k0 := 0) (k1 := 7) C dX8_change_89 fl_X8_29 rfl (by decide) sh_0 (by decide) rfl ?_
            refine rw_getI (k0 := 7) C dX8_change_92 fl_X8_182 rfl (by decide) sh_7 (by decide) (fun x6 => ?_)
            exact rw_iret C dX8_change_95
          · refine rw_bipush (c := (-4)) C dX8_change_50 (by decide) ?_
            exact rw_iret C dX8_change_52
        · refine rw_bipush (c := (-2)) C dX8_change_37 (by decide) ?_
          exact rw_iret C dX8_change_39
    · refine rw_bipush (c := (-2)) C dX8_change_16 (by decide) ?_
      exact rw_iret C dX8_change_18
def f_X8_back (a1 : Int32) (M : pv_M) : Option (Int32 × pv_M) := pv_cap (f_X8_isWithin a1 0 2 M) (fun x1 => (if x1 = 0 then some ((-2), M) else pv_jn (fun (k1 : Nat) => pv_ck (pv_isW k1) (pv_nm (M.1 k1 1) (fun x2 => (if 0 < x2 then pv_nm (M.1 k1 1) (fun x3 => pv_nm (pv_u M.1 k1 1 (x3 - 1), M.2) (fun M1 => pv_nm (pv_u M1.1 0 19 1, M1.2) (fun M2 => pv_nm (M2.1 k1 1) (fun x4 => some (x4, M2))))) else some ((-3), M))))) (fun j1 => (if a1 = 0 then j1 7 else (if a1 = 1 then j1 19 else j1 29)))))
set_option maxHeartbeats 4000000 in
set_option maxRecDepth 100000 in
theorem k_X8_back (l : Launch) (κ : pv_K) (a1 : Int32) (M : pv_M) : pv_Mt l yX8_back cX8_back 3 (some .int) 1 κ [.ref (κ.1 + 0), .int a1] M pv_ji (f_X8_back a1 M) := by
  refine pv_enter (by decide +kernel) (Nat.le_of_ble_eq_true rfl) (fun g hl hR C => ?_)
  have C : pv_Ok g κ 3 cX8_back RX8 (some .int) := C
  show pv_R g κ pv_T pv_RF 3 0 0 (pv_QF g κ pv_ji) 0 [(0, .ref (κ.1 + 0)), (1, .int a1)] [] M (f_X8_back a1 M)
  unfold f_X8_back
  refine rw_iload_n C dX8_back_0 rfl 1 rfl ?_
  refine rw_iconst (c := 0) C dX8_back_1 ci_0 ?_
  refine rw_iconst (c := 2) C dX8_back_2 ci_2 ?_
  refine rw_callSPi (As := [.int a1, .int 0, .int 2]) C hR dX8_back_3 cs_X8_120 (k_X8_isWithin g.2.1 κ a1 0 2 M) (by decide) (by decide) rfl (Nat.le_of_ble_eq_true rfl) rfl (fun x1 => ?_)
  refine rw_if_ne (tgt := 12) C dX8_back_6 (by decide) ?_ ?_
  · refine rw_iload_n C dX8_back_12 rfl 1 rfl ?_
    refine rw_jn (fun j1 => ∀ (k1 : Nat), pv_R g κ pv_T pv_RF 3 0 0 (pv_QF g κ pv_ji) 39 [(0, .ref (κ.1 + 0))] [.ref (κ.1 + k1)] M (j1 k1)) (fun k1 => ?_) (fun j1 hj1 => ?_)
    · refine rw_ck (fun hc11 => ?_)
      refine rw_astore_n (lv' := [(2, .ref (κ.1 + k1)), (0, .ref (κ.1 + 0))]) C dX8_back_39 rfl (by decide) rfl ?_
      refine rw_aload_n C dX8_back_40 rfl 0 rfl ?_
      refine rw_getI (k0 := k1) C dX8_back_41 fl_X8_182 rfl (pv_isW_lt hc11) (pv_isW_sh hc11) (by decide) (fun x2 => ?_)
      refine rw_if_gt (tgt := 50) C dX8_back_44 (by decide) ?_ ?_
      · refine rw_aload_n C dX8_back_50 rfl 0 rfl ?_
        refine rw_dup C dX8_back_51 rfl ?_
        refine rw_getI (k0 := k1) C dX8_back_52 fl_X8_182 rfl (pv_isW_lt hc11) (pv_isW_sh hc11) (by decide) (fun x3 => ?_)
        refine rw_iconst (c := 1) C dX8_back_55 ci_1 ?_
        refine rw_isub C dX8_back_56 ?_
        refine rw_put (k0 := k1) C dX8_back_57 fl_X8_182 ff_X3_1 rfl rfl rfl (pv_isW_lt hc11) (pv_isW_sh hc11) (by decide) (fun M1 => ?_)
        refine rw_aload_n C dX8_back_60 rfl 1 rfl ?_
        refine rw_iconst (c := 1) C dX8_back_61 ci_1 ?_
        refine rw_put (k0 := 0) C dX8_back_62 fl_X8_106 ff_X8_19 rfl (by decide +kernel) (by decide +kernel) (by decide) sh_0 (by decide) (fun M2 => ?_)
        refine rw_aload_n C dX8_back_65 rfl 0 rfl ?_
        refine rw_getI (k0 := k1) C dX8_back_66 fl_X8_182 rfl (pv_isW_lt hc11) (pv_isW_sh hc11) (by decide) (fun x4 => ?_)
        exact rw_iret C dX8_back_69
      · refine rw_bipush (c := (-3)) C dX8_back_47 (by decide) ?_
        exact rw_iret C dX8_back_49
    · refine rw_if_ne (tgt := 23) C dX8_back_13 (by decide) ?_ ?_
      · refine rw_iload_n C dX8_back_23 rfl 1 rfl ?_
        refine rw_iconst (c := 1) C dX8_back_24 ci_1 ?_
        refine rw_icmp_ne (tgt := 35) C dX8_back_25 (by decide) ?_ ?_
        · refine rw_aload_n C dX8_back_35 rfl 0 rfl ?_
          refine rw_getR (k0 := 0) (k1 := 29) C dX8_back_36 fl_X8_36 rfl (by decide) sh_0 (by decide) rfl ?_
          exact rw_lv [0] rfl (hj1 29)
        · refine rw_aload_n C dX8_back_28 rfl 0 rfl ?_
          refine rw_getR (k0 := 0) (k1 := 19) C dX8_back_29 fl_X8_33 rfl (by decide) sh_0 (by decide) rfl ?_
          refine rw_goto (tgt := 39) C dX8_back_32 (by decide) ?_
          exact rw_lv [0] rfl (hj1 19)
      · refine rw_aload_n C dX8_back_16 rfl 0 rfl ?_
        refine rw_getR (k0 := 0) (k1 := 7) C dX8_back_17 fl_X8_29 rfl (by decide) sh_0 (by decide) rfl ?_
        refine rw_goto (tgt := 39) C dX8_back_20 (by decide) ?_
        exact rw_lv [0] rfl (hj1 7)
  · refine rw_bipush (c := (-2)) C dX8_back_9 (by decide) ?_
    exact rw_iret C dX8_back_11
def f_X8_elected (a1 : Int32) (a2 : Int32) (M : pv_M) : Option (Int32 × pv_M) := pv_cap (f_X8_isYear a1 M) (fun x1 => (if x1 = 0 then some ((-2), M) else pv_cap (f_X8_isUnit a2 M) (fun x2 => (if x2 = 0 then some ((-2), M) else pv_cal (f_X8_settle M) (fun u1 M1 => pv_nm (M1.1 0 16) (fun x3 => pv_cap (f_X8_pollBy x3 M1) (fun k1 => pv_ck (pv_isP k1) (pv_cap (f_X1_winner k1 a1 a2 M1) (fun x4 => some (x4, M1))))))))))
set_option maxHeartbeats 4000000 in
set_option maxRecDepth 100000 in
theorem k_X8_elected (l : Launch) (κ : pv_K) (a1 : Int32) (a2 : Int32) (M : pv_M) : pv_Mt l yX8_elected cX8_elected 3 (some .int) 5 κ [.ref (κ.1 + 0), .int a1, .int a2] M pv_ji (f_X8_elected a1 a2 M) := by
  refine pv_enter (by decide +kernel) (Nat.le_of_ble_eq_true rfl) (fun g hl hR C => ?_)
  have C : pv_Ok g κ 3 cX8_elected RX8 (some .int) := C
  show pv_R g κ pv_T pv_RF 3 0 0 (pv_QF g κ pv_ji) 0 [(0, .ref (κ.1 + 0)), (1, .int a1), (2, .int a2)] [] M (f_X8_elected a1 a2 M)
  unfold f_X8_elected
  refine rw_iload_n C dX8_elected_0 rfl 1 rfl ?_
  refine rw_callSPi (As := [.int a1]) C hR dX8_elected_1 cs_X8_146 (k_X8_isYear g.2.1 κ a1 M) (by decide) (by decide) rfl (Nat.le_of_ble_eq_true rfl) rfl (fun x1 => ?_)
  refine rw_if_eq (tgt := 14) C dX8_elected_4 (by decide) ?_ ?_
  · refine rw_bipush (c := (-2)) C dX8_elected_14 (by decide) ?_
    exact rw_iret C dX8_elected_16
  · refine rw_iload_n C dX8_elected_7 rfl 2 rfl ?_
    refine rw_callSPi (As := [.int a2]) C hR dX8_elected_8 cs_X8_152 (k_X8_isUnit g.2.1 κ a2 M) (by decide) (by decide) rfl (Nat.le_of_ble_eq_true rfl) rfl (fun x2 => ?_)
    refine rw_if_ne (tgt := 17) C dX8_elected_11 (by decide) ?_ ?_
    · refine rw_aload_n C dX8_elected_17 rfl 0 rfl ?_
      refine rw_callVu (As := []) (k0 := 0) C hR dX8_elected_18 cv_X8_143 (k_X8_settle g.2.1 κ M) (by decide) (by decide) (by decide) sh_0 rfl rfl (Nat.le_of_ble_eq_true rfl) rfl (fun u1 M1 => ?_)
      refine rw_aload_n C dX8_elected_21 rfl 0 rfl ?_
      refine rw_aload_n C dX8_elected_22 rfl 0 rfl ?_
      refine rw_getI (k0 := 0) C dX8_elected_23 fl_X8_96 rfl (by decide) sh_0 (by decide) (fun x3 => ?_)
      refine rw_callVPr (As := [.int x3]) (k0 := 0) C hR dX8_elected_26 cv_X8_183 (k_X8_pollBy g.2.1 κ x3 M1) (by decide) (by decide) (by decide) sh_0 rfl rfl (Nat.le_of_ble_eq_true rfl) rfl (fun k1 => ?_)
      refine rw_ck (fun hc1 => ?_)
      refine rw_iload_n C dX8_elected_29 rfl 1 rfl ?_
      refine rw_iload_n C dX8_elected_30 rfl 2 rfl ?_
      refine rw_callVPi (As := [.int a1, .int a2]) (k0 := k1) C hR dX8_elected_31 cv_X8_187 (k_X1_winner g.2.1 κ k1 a1 a2 M1) (by decide) (by decide) (pv_isP_lt hc1) (pv_isP_sh hc1) rfl rfl (Nat.le_of_ble_eq_true rfl) rfl (fun x4 => ?_)
      exact rw_iret C dX8_elected_34
    · refine rw_bipush (c := (-2)) C dX8_elected_14 (by decide) ?_
      exact rw_iret C dX8_elected_16
def f_X8_great (a1 : Int32) (a2 : Int32) (M : pv_M) : Option (Int32 × pv_M) := pv_cap (f_X8_isYear a1 M) (fun x1 => (if x1 = 0 then some ((-2), M) else pv_cap (f_X8_isUnit a2 M) (fun x2 => (if x2 = 0 then some ((-2), M) else pv_cal (f_X8_settle M) (fun u1 M1 => pv_nm (M1.1 0 16) (fun x3 => pv_cap (f_X8_pollBy x3 M1) (fun k1 => pv_ck (pv_isP k1) (pv_cap (f_X1_greatness k1 a1 a2 M1) (fun x4 => some (x4, M1))))))))))
set_option maxHeartbeats 4000000 in
set_option maxRecDepth 100000 in
theorem k_X8_great (l : Launch) (κ : pv_K) (a1 : Int32) (a2 : Int32) (M : pv_M) : pv_Mt l yX8_great cX8_great 3 (some .int) 5 κ [.ref (κ.1 + 0), .int a1, .int a2] M pv_ji (f_X8_great a1 a2 M) := by
  refine pv_enter (by decide +kernel) (Nat.le_of_ble_eq_true rfl) (fun g hl hR C => ?_)
  have C : pv_Ok g κ 3 cX8_great RX8 (some .int) := C
  show pv_R g κ pv_T pv_RF 3 0 0 (pv_QF g κ pv_ji) 0 [(0, .ref (κ.1 + 0)), (1, .int a1), (2, .int a2)] [] M (f_X8_great a1 a2 M)
  unfold f_X8_great
  refine rw_iload_n C dX8_great_0 rfl 1 rfl ?_
  refine rw_callSPi (As := [.int a1]) C hR dX8_great_1 cs_X8_146 (k_X8_isYear g.2.1 κ a1 M) (by decide) (by decide) rfl (Nat.le_of_ble_eq_true rfl) rfl (fun x1 => ?_)
  refine rw_if_eq (tgt := 14) C dX8_great_4 (by decide) ?_ ?_
  · refine rw_bipush (c := (-2)) C dX8_great_14 (by decide) ?_
    exact rw_iret C dX8_great_16
  · refine rw_iload_n C dX8_great_7 rfl 2 rfl ?_
    refine rw_callSPi (As := [.int a2]) C hR dX8_great_8 cs_X8_152 (k_X8_isUnit g.2.1 κ a2 M) (by decide) (by decide) rfl (Nat.le_of_ble_eq_true rfl) rfl (fun x2 => ?_)
    refine rw_if_ne (tgt := 17) C dX8_great_11 (by decide) ?_ ?_
    · refine rw_aload_n C dX8_great_17 rfl 0 rfl ?_
      refine rw_callVu (As := []) (k0 := 0) C hR dX8_great_18 cv_X8_143 (k_X8_settle g.2.1 κ M) (by decide) (by decide) (by decide) sh_0 rfl rfl (Nat.le_of_ble_eq_true rfl) rfl (fun u1 M1 => ?_)
      refine rw_aload_n C dX8_great_21 rfl 0 rfl ?_
      refine rw_aload_n C dX8_great_22 rfl 0 rfl ?_
      refine rw_getI (k0 := 0) C dX8_great_23 fl_X8_96 rfl (by decide) sh_0 (by decide) (fun x3 => ?_)
      refine rw_callVPr (As := [.int x3]) (k0 := 0) C hR dX8_great_26 cv_X8_183 (k_X8_pollBy g.2.1 κ x3 M1) (by decide) (by decide) (by decide) sh_0 rfl rfl (Nat.le_of_ble_eq_true rfl) rfl (fun k1 => ?_)
      refine rw_ck (fun hc1 => ?_)
      refine rw_iload_n C dX8_great_29 rfl 1 rfl ?_
      refine rw_iload_n C dX8_great_30 rfl 2 rfl ?_
      refine rw_callVPi (As := [.int a1, .int a2]) (k0 := k1) C hR dX8_great_31 cv_X8_191 (k_X1_greatness g.2.1 κ k1 a1 a2 M1) (by decide) (by decide) (pv_isP_lt hc1) (pv_isP_sh hc1) rfl rfl (Nat.le_of_ble_eq_true rfl) rfl (fun x4 => ?_)
      exact rw_iret C dX8_great_34
    · refine rw_bipush (c := (-2)) C dX8_great_14 (by decide) ?_
      exact rw_iret C dX8_great_16
def f_X8_votes (a1 : Int32) (a2 : Int32) (a3 : Int32) (M : pv_M) : Option (Int32 × pv_M) := pv_cal (f_X8_settle M) (fun u1 M1 => pv_cap (f_X8_isYear a1 M1) (fun x1 => (if x1 = 0 then some ((-2), M1) else pv_cap (f_X8_isUnit a2 M1) (fun x2 => (if x2 = 0 then some ((-2), M1) else pv_cap (f_X8_isParty a3 M1) (fun x3 => (if x3 = 0 then some ((-2), M1) else pv_nm (M1.1 0 16) (fun x4 => pv_cap (f_X8_pollBy x4 M1) (fun k1 => pv_ck (pv_isP k1) (pv_cap (f_X1_tally k1 a1 a2 a3 M1) (fun x5 => some (x5, M1))))))))))))
set_option maxHeartbeats 4000000 in
set_option maxRecDepth 100000 in
theorem k_X8_votes (l : Launch) (κ : pv_K) (a1 : Int32) (a2 : Int32) (a3 : Int32) (M : pv_M) : pv_Mt l yX8_votes cX8_votes 4 (some .int) 5 κ [.ref (κ.1 + 0), .int a1, .int a2, .int a3] M pv_ji (f_X8_votes a1 a2 a3 M) := by
  refine pv_enter (by decide +kernel) (Nat.le_of_ble_eq_true rfl) (fun g hl hR C => ?_)
  have C : pv_Ok g κ 4 cX8_votes RX8 (some .int) := C
  show pv_R g κ pv_T pv_RF 4 0 0 (pv_QF g κ pv_ji) 0 [(0, .ref (κ.1 + 0)), (1, .int a1), (2, .int a2), (3, .int a3)] [] M (f_X8_votes a1 a2 a3 M)
  unfold f_X8_votes
  refine rw_aload_n C dX8_votes_0 rfl 0 rfl ?_
  refine rw_callVu (As := []) (k0 := 0) C hR dX8_votes_1 cv_X8_143 (k_X8_settle g.2.1 κ M) (by decide) (by decide) (by decide) sh_0 rfl rfl (Nat.le_of_ble_eq_true rfl) rfl (fun u1 M1 => ?_)
  refine rw_iload_n C dX8_votes_4 rfl 1 rfl ?_
  refine rw_callSPi (As := [.int a1]) C hR dX8_votes_5 cs_X8_146 (k_X8_isYear g.2.1 κ a1 M1) (by decide) (by decide) rfl (Nat.le_of_ble_eq_true rfl) rfl (fun x1 => ?_)
  refine rw_if_eq (tgt := 26) C dX8_votes_8 (by decide) ?_ ?_
  · refine rw_bipush (c := (-2)) C dX8_votes_26 (by decide) ?_
    exact rw_iret C dX8_votes_28
  · refine rw_iload_n C dX8_votes_11 rfl 2 rfl ?_
    refine rw_callSPi (As := [.int a2]) C hR dX8_votes_12 cs_X8_152 (k_X8_isUnit g.2.1 κ a2 M1) (by decide) (by decide) rfl (Nat.le_of_ble_eq_true rfl) rfl (fun x2 => ?_)
    refine rw_if_eq (tgt := 26) C dX8_votes_15 (by decide) ?_ ?_
    · refine rw_bipush (c := (-2)) C dX8_votes_26 (by decide) ?_
      exact rw_iret C dX8_votes_28
    · refine rw_aload_n C dX8_votes_18 rfl 0 rfl ?_
      refine rw_iload_n C dX8_votes_19 rfl 3 rfl ?_
      refine rw_callVPi (As := [.int a3]) (k0 := 0) C hR dX8_votes_20 cv_X8_149 (k_X8_isParty g.2.1 κ a3 M1) (by decide) (by decide) (by decide) sh_0 rfl rfl (Nat.le_of_ble_eq_true rfl) rfl (fun x3 => ?_)
      refine rw_if_ne (tgt := 29) C dX8_votes_23 (by decide) ?_ ?_
      · refine rw_aload_n C dX8_votes_29 rfl 0 rfl ?_
        refine rw_aload_n C dX8_votes_30 rfl 0 rfl ?_
        refine rw_getI (k0 := 0) C dX8_votes_31 fl_X8_96 rfl (by decide) sh_0 (by decide) (fun x4 => ?_)
        refine rw_callVPr (As := [.int x4]) (k0 := 0) C hR dX8_votes_34 cv_X8_183 (k_X8_pollBy g.2.1 κ x4 M1) (by decide) (by decide) (by decide) sh_0 rfl rfl (Nat.le_of_ble_eq_true rfl) rfl (fun k1 => ?_)
        refine rw_ck (fun hc1 => ?_)
        refine rw_iload_n C dX8_votes_37 rfl 1 rfl ?_
        refine rw_iload_n C dX8_votes_38 rfl 2 rfl ?_
        refine rw_iload_n C dX8_votes_39 rfl 3 rfl ?_
        refine rw_callVPi (As := [.int a1, .int a2, .int a3]) (k0 := k1) C hR dX8_votes_40 cv_X8_194 (k_X1_tally g.2.1 κ k1 a1 a2 a3 M1) (by decide) (by decide) (pv_isP_lt hc1) (pv_isP_sh hc1) rfl rfl (Nat.le_of_ble_eq_true rfl) rfl (fun x5 => ?_)
        exact rw_iret C dX8_votes_43
      · refine rw_bipush (c := (-2)) C dX8_votes_26 (by decide) ?_
        exact rw_iret C dX8_votes_28
def f_X8_split_L30 (rec1 : Int32 → Int32 → Option (Int32 × pv_M)) (x2 : Int32) (M3 : pv_M) (rec2 : Int32 → Int32 → Option (Int32 × pv_M)) (x3 : Int32) (x4 : Int32) : Option (Int32 × pv_M) := (if 3 ≤ x4 then rec1 x3 (x2 + 1) else pv_cap (f_X1_greatness 53 x2 x4 M3) (fun x5 => pv_cap (f_X1_greatness 88 x2 x4 M3) (fun x6 => (if x5 = x6 then rec2 x3 (x4 + 1) else pv_nm (x3 ||| (1 <<< (x2 &&& 31))) (fun x7 => rec2 x7 (x4 + 1))))))
def f_X8_split_L22 (M3 : pv_M) (rec1 : Int32 → Int32 → Option (Int32 × pv_M)) (x1 : Int32) (x2 : Int32) : Option (Int32 × pv_M) := (if 10 ≤ x2 then some (x1, M3) else pv_lp2 (f_X8_split_L30 rec1 x2 M3) pv_FU x1 0)
def f_X8_split (M : pv_M) : Option (Int32 × pv_M) := pv_cal (f_X8_settle M) (fun u1 M1 => pv_cal (f_X1_update 53 M1) (fun u2 M2 => pv_cal (f_X1_update 88 M2) (fun u3 M3 => pv_lp2 (f_X8_split_L22 M3) pv_FU 0 0)))
set_option maxHeartbeats 4000000 in
set_option maxRecDepth 100000 in
theorem k_X8_split (l : Launch) (κ : pv_K) (M : pv_M) : pv_Mt l yX8_split cX8_split 4 (some .int) 5 κ [.ref (κ.1 + 0)] M pv_ji (f_X8_split M) := by
  refine pv_enter (by decide +kernel) (Nat.le_of_ble_eq_true rfl) (fun g hl hR C => ?_)
  have C : pv_Ok g κ 4 cX8_split RX8 (some .int) := C
  show pv_R g κ pv_T pv_RF 4 0 0 (pv_QF g κ pv_ji) 0 [(0, .ref (κ.1 + 0))] [] M (f_X8_split M)
  unfold f_X8_split
  refine rw_aload_n C dX8_split_0 rfl 0 rfl ?_
  refine rw_callVu (As := []) (k0 := 0) C hR dX8_split_1 cv_X8_143 (k_X8_settle g.2.1 κ M) (by decide) (by decide) (by decide) sh_0 rfl rfl (Nat.le_of_ble_eq_true rfl) rfl (fun u1 M1 => ?_)
  refine rw_aload_n C dX8_split_4 rfl 0 rfl ?_
  refine rw_getR (k0 := 0) (k1 := 53) C dX8_split_5 fl_X8_58 rfl (by decide) sh_0 (by decide) rfl ?_
  refine rw_callVu (As := []) (k0 := 53) C hR dX8_split_8 cv_X8_197 (k_X1_update g.2.1 κ 53 M1) (by decide) (by decide) (by decide) sh_53 rfl rfl (Nat.le_of_ble_eq_true rfl) rfl (fun u2 M2 => ?_)
  refine rw_aload_n C dX8_split_11 rfl 0 rfl ?_
  refine rw_getR (k0 := 0) (k1 := 88) C dX8_split_12 fl_X8_62 rfl (by decide) sh_0 (by decide) rfl ?_
  refine rw_callVu (As := []) (k0 := 88) C hR dX8_split_15 cv_X8_197 (k_X1_update g.2.1 κ 88 M2) (by decide) (by decide) (by decide) sh_88 rfl rfl (Nat.le_of_ble_eq_true rfl) rfl (fun u3 M3 => ?_)
  refine rw_iconst (c := 0) C dX8_split_18 ci_0 ?_
  refine rw_istore_n (lv' := [(1, .int 0), (0, .ref (κ.1 + 0))]) C dX8_split_19 rfl (by decide) rfl ?_
  refine rw_iconst (c := 0) C dX8_split_20 ci_0 ?_
  refine rw_istore_n (lv' := [(2, .int 0), (1, .int 0), (0, .ref (κ.1 + 0))]) C dX8_split_21 rfl (by decide) rfl ?_
  refine rw_lv (lv' := [(0, .ref (κ.1 + 0)), (1, .int 0), (2, .int 0)]) [2, 1, 0] rfl ?_
  refine pv_lp2_ind (fun x1 x2 xx => pv_R g κ pv_T pv_RF 4 0 0 (pv_QF g κ pv_ji) 22 [(0, .ref (κ.1 + 0)), (1, .int x1), (2, .int x2)] [] M3 xx) (fun _ _ => rw_none) (fun rec1 hrec1 x1 x2 => ?_) _ _ _
  unfold f_X8_split_L22
  refine rw_iload_n C dX8_split_22 rfl 2 rfl ?_
  refine rw_bipush (c := 10) C dX8_split_23 (by decide) ?_
  refine rw_icmp_ge (tgt := 74) C dX8_split_25 (by decide) ?_ ?_
  · refine rw_iload_n C dX8_split_74 rfl 1 rfl ?_
    exact rw_iret C dX8_split_75
  · refine rw_iconst (c := 0) C dX8_split_28 ci_0 ?_
    refine rw_istore_n (lv' := [(3, .int 0), (0, .ref (κ.1 + 0)), (1, .int x1), (2, .int x2)]) C dX8_split_29 rfl (by decide) rfl ?_
    refine rw_lv (lv' := [(0, .ref (κ.1 + 0)), (1, .int x1), (2, .int x2), (3, .int 0)]) [1, 2, 3, 0] rfl ?_
    refine pv_lp2_ind (fun x3 x4 xx => pv_R g κ pv_T pv_RF 4 0 0 (pv_QF g κ pv_ji) 30 [(0, .ref (κ.1 + 0)), (1, .int x3), (2, .int x2), (3, .int x4)] [] M3 xx) (fun _ _ => rw_none) (fun rec2 hrec2 x3 x4 => ?_) _ _ _
    unfold f_X8_split_L30
    refine rw_iload_n C dX8_split_30 rfl 3 rfl ?_
    refine rw_iconst (c := 3) C dX8_split_31 ci_3 ?_
    refine rw_icmp_ge (tgt := 68) C dX8_split_32 (by decide) ?_ ?_
    · refine rw_iinc (c := 1) (lv' := [(2, .int (x2 + 1)), (0, .ref (κ.1 + 0)), (1, .int x3), (3, .int x4)]) C dX8_split_68 2 rfl (by decide) (by decide) rfl ?_
      refine rw_goto (tgt := 22) C dX8_split_71 (by decide) ?_
      exact rw_lv [1, 2, 0] rfl (hrec1 x3 (x2 + 1))
    · refine rw_aload_n C dX8_split_35 rfl 0 rfl ?_
      refine rw_getR (k0 := 0) (k1 := 53) C dX8_split_36 fl_X8_58 rfl (by decide) sh_0 (by decide) rfl ?_
      refine rw_iload_n C dX8_split_39 rfl 2 rfl ?_
      refine rw_iload_n C dX8_split_40 rfl 3 rfl ?_
      refine rw_callVPi (As := [.int x2, .int x4]) (k0 := 53) C hR dX8_split_41 cv_X8_191 (k_X1_greatness g.2.1 κ 53 x2 x4 M3) (by decide) (by decide) (by decide) sh_53 rfl rfl (Nat.le_of_ble_eq_true rfl) rfl (fun x5 => ?_)
      refine rw_aload_n C dX8_split_44 rfl 0 rfl ?_
      refine rw_getR (k0 := 0) (k1 := 88) C dX8_split_45 fl_X8_62 rfl (by decide) sh_0 (by decide) rfl ?_
      refine rw_iload_n C dX8_split_48 rfl 2 rfl ?_
      refine rw_iload_n C dX8_split_49 rfl 3 rfl ?_
      refine rw_callVPi (As := [.int x2, .int x4]) (k0 := 88) C hR dX8_split_50 cv_X8_191 (k_X1_greatness g.2.1 κ 88 x2 x4 M3) (by decide) (by decide) (by decide) sh_88 rfl rfl (Nat.le_of_ble_eq_true rfl) rfl (fun x6 => ?_)
      refine rw_icmp_eq (tgt := 62) C dX8_split_53 (by decide) ?_ ?_
      · refine rw_iinc (c := 1) (lv' := [(3, .int (x4 + 1)), (0, .ref (κ.1 + 0)), (1, .int x3), (2, .int x2)]) C dX8_split_62 3 rfl (by decide) (by decide) rfl ?_
        refine rw_goto (tgt := 30) C dX8_split_65 (by decide) ?_
        exact rw_lv [1, 2, 3, 0] rfl (hrec2 x3 (x4 + 1))
      · refine rw_iload_n C dX8_split_56 rfl 1 rfl ?_
        refine rw_iconst (c := 1) C dX8_split_57 ci_1 ?_
        refine rw_iload_n C dX8_split_58 rfl 2 rfl ?_
        refine rw_ishl C dX8_split_59 ?_
        refine rw_ior C dX8_split_60 ?_
        refine rw_nm (fun x7 => ?_)
        refine rw_istore_n (lv' := [(1, .int x7), (0, .ref (κ.1 + 0)), (2, .int x2), (3, .int x4)]) C dX8_split_61 rfl (by decide) rfl ?_
        refine rw_iinc (c := 1) (lv' := [(3, .int (x4 + 1)), (1, .int x7), (0, .ref (κ.1 + 0)), (2, .int x2)]) C dX8_split_62 3 rfl (by decide) (by decide) rfl ?_
        refine rw_goto (tgt := 30) C dX8_split_65 (by decide) ?_
        exact rw_lv [2, 1, 3, 0] rfl (hrec2 x7 (x4 + 1))
def f_X8_contract (a1 : Int32) (a2 : Int32) (a3 : Int32) (a4 : Int32) (a5 : Int32) (a6 : Int32) (M : pv_M) : Option (Int32 × pv_M) := pv_cap (f_X8_isPerson a1 M) (fun x1 => (if x1 = 0 then some ((-2), M) else pv_cap (f_X8_isPerson a2 M) (fun x2 => (if x2 = 0 then some ((-2), M) else (if a1 = a2 then some ((-2), M) else pv_cap (f_X8_isWithin a3 1 99 M) (fun x3 => (if x3 = 0 then some ((-2), M) else pv_cap (f_X8_isUnit a4 M) (fun x4 => (if x4 = 0 then some ((-2), M) else pv_cap (f_X8_isYear a5 M) (fun x5 => (if x5 = 0 then some ((-2), M) else pv_cap (f_X8_isYear a6 M) (fun x6 => (if x6 = 0 then some ((-2), M) else (if a5 < a6 then pv_cap (f_X3_isFull 19 M) (fun x7 => (if x7 = 0 then pv_cal (f_X3_next 19 M) (fun k1 M1 => pv_stI pv_T k1 0 a1 M1 (fun M2 => pv_stI pv_T k1 1 a2 M2 (fun M3 => pv_stI pv_T k1 2 a3 M3 (fun M4 => pv_stI pv_T k1 3 a4 M4 (fun M5 => pv_stI pv_T k1 4 a5 M5 (fun M6 => pv_stI pv_T k1 5 a6 M6 (fun M7 => pv_nm (M7.1 19 1) (fun x8 => some (x8, M7))))))))) else some ((-4), M))) else some ((-2), M)))))))))))))))
set_option maxHeartbeats 4000000 in
set_option maxRecDepth 100000 in
theorem k_X8_contract (l : Launch) (κ : pv_K) (a1 : Int32) (a2 : Int32) (a3 : Int32) (a4 : Int32) (a5 : Int32) (a6 : Int32) (M : pv_M) : pv_Mt l yX8_contract cX8_contract 8 (some .int) 2 κ [.ref (κ.1 + 0), .int a1, .int a2, .int a3, .int a4, .int a5, .int a6] M pv_ji (f_X8_contract a1 a2 a3 a4 a5 a6 M) := by
  refine pv_enter (by decide +kernel) (Nat.le_of_ble_eq_true rfl) (fun g hl hR C => ?_)
  have C : pv_Ok g κ 8 cX8_contract RX8 (some .int) := C
  show pv_R g κ pv_T pv_RF 8 0 0 (pv_QF g κ pv_ji) 0 [(0, .ref (κ.1 + 0)), (1, .int a1), (2, .int a2), (3, .int a3), (4, .int a4), (5, .int a5), (6, .int a6)] [] M (f_X8_contract a1 a2 a3 a4 a5 a6 M)
  unfold f_X8_contract
  refine rw_iload_n C dX8_contract_0 rfl 1 rfl ?_
  refine rw_callSPi (As := [.int a1]) C hR dX8_contract_1 cs_X8_174 (k_X8_isPerson g.2.1 κ a1 M) (by decide) (by decide) rfl (Nat.le_of_ble_eq_true rfl) rfl (fun x1 => ?_)
  refine rw_if_eq (tgt := 19) C dX8_contract_4 (by decide) ?_ ?_
  · refine rw_bipush (c := (-2)) C dX8_contract_19 (by decide) ?_
    exact rw_iret C dX8_contract_21
  · refine rw_iload_n C dX8_contract_7 rfl 2 rfl ?_
    refine rw_callSPi (As := [.int a2]) C hR dX8_contract_8 cs_X8_174 (k_X8_isPerson g.2.1 κ a2 M) (by decide) (by decide) rfl (Nat.le_of_ble_eq_true rfl) rfl (fun x2 => ?_)
    refine rw_if_eq (tgt := 19) C dX8_contract_11 (by decide) ?_ ?_
    · refine rw_bipush (c := (-2)) C dX8_contract_19 (by decide) ?_
      exact rw_iret C dX8_contract_21
    · refine rw_iload_n C dX8_contract_14 rfl 1 rfl ?_
      refine rw_iload_n C dX8_contract_15 rfl 2 rfl ?_
      refine rw_icmp_ne (tgt := 22) C dX8_contract_16 (by decide) ?_ ?_
      · refine rw_iload_n C dX8_contract_22 rfl 3 rfl ?_
        refine rw_iconst (c := 1) C dX8_contract_23 ci_1 ?_
        refine rw_bipush (c := 99) C dX8_contract_24 (by decide) ?_
        refine rw_callSPi (As := [.int a3, .int 1, .int 99]) C hR dX8_contract_26 cs_X8_120 (k_X8_isWithin g.2.1 κ a3 1 99 M) (by decide) (by decide) rfl (Nat.le_of_ble_eq_true rfl) rfl (fun x3 => ?_)
        refine rw_if_eq (tgt := 40) C dX8_contract_29 (by decide) ?_ ?_
        · refine rw_bipush (c := (-2)) C dX8_contract_40 (by decide) ?_
          exact rw_iret C dX8_contract_42
        · refine rw_iload C dX8_contract_32 4 rfl ?_
          refine rw_callSPi (As := [.int a4]) C hR dX8_contract_34 cs_X8_152 (k_X8_isUnit g.2.1 κ a4 M) (by decide) (by decide) rfl (Nat.le_of_ble_eq_true rfl) rfl (fun x4 => ?_)
          refine rw_if_ne (tgt := 43) C dX8_contract_37 (by decide) ?_ ?_
          · refine rw_iload C dX8_contract_43 5 rfl ?_
            refine rw_callSPi (As := [.int a5]) C hR dX8_contract_45 cs_X8_146 (k_X8_isYear g.2.1 κ a5 M) (by decide) (by decide) rfl (Nat.le_of_ble_eq_true rfl) rfl (fun x5 => ?_)
            refine rw_if_eq (tgt := 66) C dX8_contract_48 (by decide) ?_ ?_
            · refine rw_bipush (c := (-2)) C dX8_contract_66 (by decide) ?_
              exact rw_iret C dX8_contract_68
            · refine rw_iload C dX8_contract_51 6 rfl ?_
              refine rw_callSPi (As := [.int a6]) C hR dX8_contract_53 cs_X8_146 (k_X8_isYear g.2.1 κ a6 M) (by decide) (by decide) rfl (Nat.le_of_ble_eq_true rfl) rfl (fun x6 => ?_)
              refine rw_if_eq (tgt := 66) C dX8_contract_56 (by decide) ?_ ?_
              · refine rw_bipush (c := (-2)) C dX8_contract_66 (by decide) ?_
                exact rw_iret C dX8_contract_68
              · refine rw_iload C dX8_contract_59 6 rfl ?_
                refine rw_iload C dX8_contract_61 5 rfl ?_
                refine rw_icmp_gt (tgt := 69) C dX8_contract_63 (by decide) ?_ ?_
                · refine rw_aload_n C dX8_contract_69 rfl 0 rfl ?_
                  refine rw_getR (k0 := 0) (k1 := 19) C dX8_contract_70 fl_X8_33 rfl (by decide) sh_0 (by decide) rfl ?_
                  refine rw_callVPi (As := []) (k0 := 19) C hR dX8_contract_73 cv_X8_177 (k_X3_isFull g.2.1 κ 19 M) (by decide) (by decide) (by decide) sh_19 rfl rfl (Nat.le_of_ble_eq_true rfl) rfl (fun x7 => ?_)
                  refine rw_if_eq (tgt := 82) C dX8_contract_76 (by decide) ?_ ?_
                  · refine rw_aload_n C dX8_contract_82 rfl 0 rfl ?_
                    refine rw_getR (k0 := 0) (k1 := 19) C dX8_contract_83 fl_X8_33 rfl (by decide) sh_0 (by decide) rfl ?_
                    refine rw_callVr (As := []) (k0 := 19) C hR dX8_contract_86 cv_X8_178 (k_X3_next g.2.1 κ 19 M) (by decide) (by decide) (by decide) sh_19 rfl rfl (Nat.le_of_ble_eq_true rfl) rfl (fun k1 M1 => ?_)
                    refine rw_astore (lv' := [(7, .ref (κ.1 + k1)), (0, .ref (κ.1 + 0)), (1, .int a1), (2, .int a2), (3, .int a3), (4, .int a4), (5, .int a5), (6, .int a6)]) C dX8_contract_89 (by decide) rfl ?_
                    refine rw_aload C dX8_contract_91 0 rfl ?_
                    refine rw_iconst (c := 0) C dX8_contract_93 ci_0 ?_
                    refine rw_iload_n C dX8_contract_94 rfl 2 rfl ?_
                    refine rw_stI C dX8_contract_95 (fun M2 => ?_)
                    refine rw_aload C dX8_contract_96 0 rfl ?_
                    refine rw_iconst (c := 1) C dX8_contract_98 ci_1 ?_
                    refine rw_iload_n C dX8_contract_99 rfl 3 rfl ?_
                    refine rw_stI C dX8_contract_100 (fun M3 => ?_)
                    refine rw_aload C dX8_contract_101 0 rfl ?_
                    refine rw_iconst (c := 2) C dX8_contract_103 ci_2 ?_
                    refine rw_iload_n C dX8_contract_104 rfl 4 rfl ?_
                    refine rw_stI C dX8_contract_105 (fun M4 => ?_)
                    refine rw_aload C dX8_contract_106 0 rfl ?_
                    refine rw_iconst (c := 3) C dX8_contract_108 ci_3 ?_
                    refine rw_iload C dX8_contract_109 5 rfl ?_
                    refine rw_stI C dX8_contract_111 (fun M5 => ?_)
                    refine rw_aload C dX8_contract_112 0 rfl ?_
                    refine rw_iconst (c := 4) C dX8_contract_114 ci_4 ?_
                    refine rw_iload C dX8_contract_115 6 rfl ?_
                    refine rw_stI C dX8_contract_117 (fun M6 => ?_)
                    refine rw_aload C dX8_contract_118 0 rfl ?_
                    refine rw_iconst (c := 5) C dX8_contract_120 ci_5 ?_
                    refine rw_iload C dX8_contract_121 7 rfl ?_
                    refine rw_stI C dX8_contract_123 (fun M7 => ?_)
                    refine rw_aload_n C dX8_contract_124 rfl 1 rfl ?_
                    refine rw_getR (k0 := 0) (k1 := 19) C dX8_contract_125 fl_X8_33 rfl (by decide) sh_0 (by decide) rfl ?_
                    refine rw_getI (k0 := 19) C dX8_contract_128 fl_X8_182 rfl (by decide) sh_19 (by decide) (fun x8 => ?_)
                    exact rw_iret C dX8_contract_131
                  · refine rw_bipush (c := (-4)) C dX8_contract_79 (by decide) ?_
                    exact rw_iret C dX8_contract_81
                · refine rw_bipush (c := (-2)) C dX8_contract_66 (by decide) ?_
                  exact rw_iret C dX8_contract_68
          · refine rw_bipush (c := (-2)) C dX8_contract_40 (by decide) ?_
            exact rw_iret C dX8_contract_42
      · refine rw_bipush (c := (-2)) C dX8_contract_19 (by decide) ?_
        exact rw_iret C dX8_contract_21
def f_X8_paidBy (r1 : Nat) (a2 : Int32) (M : pv_M) : Option Int32 := pv_ldI pv_T r1 2 M (fun x1 => pv_nm (M.1 0 16) (fun x2 => pv_cap (f_X8_pollBy x2 M) (fun k1 => pv_ck (pv_isP k1) (pv_ldI pv_T r1 3 M (fun x3 => pv_cap (f_X1_greatness k1 a2 x3 M) (fun x4 => some (x1 * x4)))))))
set_option maxHeartbeats 4000000 in
set_option maxRecDepth 100000 in
theorem k_X8_paidBy (l : Launch) (κ : pv_K) (r1 : Nat) (a2 : Int32) (M : pv_M) : pv_MtP l yX8_paidBy cX8_paidBy 3 (some .int) 1 κ [.ref (κ.1 + 0), .ref (κ.1 + r1), .int a2] M pv_ji (f_X8_paidBy r1 a2 M) := by
  refine pv_enterP (by decide +kernel) (Nat.le_of_ble_eq_true rfl) (fun g hl hR C => ?_)
  have C : pv_Ok g κ 3 cX8_paidBy RX8 (some .int) := C
  show pv_R g κ pv_T pv_RF 3 0 0 (pv_QP g κ pv_ji M) 0 [(0, .ref (κ.1 + 0)), (1, .ref (κ.1 + r1)), (2, .int a2)] [] M (f_X8_paidBy r1 a2 M)
  unfold f_X8_paidBy
  refine rw_aload_n C dX8_paidBy_0 rfl 1 rfl ?_
  refine rw_iconst (c := 2) C dX8_paidBy_1 ci_2 ?_
  refine rw_ldI C dX8_paidBy_2 (fun x1 => ?_)
  refine rw_aload_n C dX8_paidBy_3 rfl 0 rfl ?_
  refine rw_aload_n C dX8_paidBy_4 rfl 0 rfl ?_
  refine rw_getI (k0 := 0) C dX8_paidBy_5 fl_X8_96 rfl (by decide) sh_0 (by decide) (fun x2 => ?_)
  refine rw_callVPr (As := [.int x2]) (k0 := 0) C hR dX8_paidBy_8 cv_X8_183 (k_X8_pollBy g.2.1 κ x2 M) (by decide) (by decide) (by decide) sh_0 rfl rfl (Nat.le_of_ble_eq_true rfl) rfl (fun k1 => ?_)
  refine rw_ck (fun hc1 => ?_)
  refine rw_iload_n C dX8_paidBy_11 rfl 2 rfl ?_
  refine rw_aload_n C dX8_paidBy_12 rfl 1 rfl ?_
  refine rw_iconst (c := 3) C dX8_paidBy_13 ci_3 ?_
  refine rw_ldI C dX8_paidBy_14 (fun x3 => ?_)
  refine rw_callVPi (As := [.int a2, .int x3]) (k0 := k1) C hR dX8_paidBy_15 cv_X8_191 (k_X1_greatness g.2.1 κ k1 a2 x3 M) (by decide) (by decide) (pv_isP_lt hc1) (pv_isP_sh hc1) rfl rfl (Nat.le_of_ble_eq_true rfl) rfl (fun x4 => ?_)
  refine rw_imul C dX8_paidBy_18 ?_
  exact rw_iretP C dX8_paidBy_19
def f_X8_paid (r1 : Nat) (M : pv_M) : Option Int32 := pv_nm (M.1 0 17) (fun x1 => pv_jn (fun (x2 : Int32) => pv_ldI pv_T r1 x2 M (fun x3 => pv_cap (f_X8_paidBy r1 x3 M) (fun x4 => some x4))) (fun j1 => (if x1 = 0 then j1 4 else j1 5)))
set_option maxHeartbeats 4000000 in
set_option maxRecDepth 100000 in
theorem k_X8_paid (l : Launch) (κ : pv_K) (r1 : Nat) (M : pv_M) : pv_MtP l yX8_paid cX8_paid 2 (some .int) 2 κ [.ref (κ.1 + 0), .ref (κ.1 + r1)] M pv_ji (f_X8_paid r1 M) := by
  refine pv_enterP (by decide +kernel) (Nat.le_of_ble_eq_true rfl) (fun g hl hR C => ?_)
  have C : pv_Ok g κ 2 cX8_paid RX8 (some .int) := C
  show pv_R g κ pv_T pv_RF 2 0 0 (pv_QP g κ pv_ji M) 0 [(0, .ref (κ.1 + 0)), (1, .ref (κ.1 + r1))] [] M (f_X8_paid r1 M)
  unfold f_X8_paid
  refine rw_aload_n C dX8_paid_0 rfl 0 rfl ?_
  refine rw_aload_n C dX8_paid_1 rfl 1 rfl ?_
  refine rw_aload_n C dX8_paid_2 rfl 1 rfl ?_
  refine rw_aload_n C dX8_paid_3 rfl 0 rfl ?_
  refine rw_getI (k0 := 0) C dX8_paid_4 fl_X8_100 rfl (by decide) sh_0 (by decide) (fun x1 => ?_)
  refine rw_jn (fun j1 => ∀ (x2 : Int32), pv_R g κ pv_T pv_RF 2 0 0 (pv_QP g κ pv_ji M) 15 [] [.int x2, .ref (κ.1 + r1), .ref (κ.1 + r1), .ref (κ.1 + 0)] M (j1 x2)) (fun x2 => ?_) (fun j1 hj1 => ?_)
  · refine rw_ldI C dX8_paid_15 (fun x3 => ?_)
    refine rw_callVPi (As := [.ref (κ.1 + r1), .int x3]) (k0 := 0) C hR dX8_paid_16 cv_X8_211 (k_X8_paidBy g.2.1 κ r1 x3 M) (by decide) (by decide) (by decide) sh_0 rfl rfl (Nat.le_of_ble_eq_true rfl) rfl (fun x4 => ?_)
    exact rw_iretP C dX8_paid_19
  · refine rw_if_ne (tgt := 14) C dX8_paid_7 (by decide) ?_ ?_
    · refine rw_iconst (c := 5) C dX8_paid_14 ci_5 ?_
      exact rw_lv [] rfl (hj1 5)
    · refine rw_iconst (c := 4) C dX8_paid_10 ci_4 ?_
      refine rw_goto (tgt := 15) C dX8_paid_11 (by decide) ?_
      exact rw_lv [] rfl (hj1 4)
def f_X8_moneyBehind_L10 (M : pv_M) (a2 : Int32) (a1 : Int32) (rec1 : Int32 → Int32 → Option Int32) (x2 : Int32) (x3 : Int32) : Option Int32 := pv_nm (M.1 19 1) (fun x4 => (if x4 ≤ x3 then some x2 else pv_ldR pv_T 20 x3 (fun k1 => pv_ldI pv_T k1 5 M (fun x5 => (if x5 ≤ a2 then pv_ldI pv_T k1 0 M (fun x6 => pv_jn (fun (x7 : Int32) => pv_ldI pv_T k1 1 M (fun x8 => (if x8 = a1 then pv_cap (f_X8_paid k1 M) (fun x9 => pv_nm (x7 + x9) (fun x10 => rec1 x10 (x3 + 1))) else rec1 x7 (x3 + 1)))) (fun j1 => (if x6 = a1 then pv_cap (f_X8_paid k1 M) (fun x11 => pv_nm (x2 - x11) (fun x12 => j1 x12)) else j1 x2))) else rec1 x2 (x3 + 1))))))
def f_X8_moneyBehind (a1 : Int32) (a2 : Int32) (M : pv_M) : Option Int32 := pv_ldI pv_T 37 a1 M (fun x1 => pv_lp2 (f_X8_moneyBehind_L10 M a2 a1) pv_FU x1 0)
set_option maxHeartbeats 4000000 in
set_option maxRecDepth 100000 in
theorem k_X8_moneyBehind (l : Launch) (κ : pv_K) (a1 : Int32) (a2 : Int32) (M : pv_M) : pv_MtP l yX8_moneyBehind cX8_moneyBehind 6 (some .int) 3 κ [.ref (κ.1 + 0), .int a1, .int a2] M pv_ji (f_X8_moneyBehind a1 a2 M) := by
  refine pv_enterP (by decide +kernel) (Nat.le_of_ble_eq_true rfl) (fun g hl hR C => ?_)
  have C : pv_Ok g κ 6 cX8_moneyBehind RX8 (some .int) := C
  show pv_R g κ pv_T pv_RF 6 0 0 (pv_QP g κ pv_ji M) 0 [(0, .ref (κ.1 + 0)), (1, .int a1), (2, .int a2)] [] M (f_X8_moneyBehind a1 a2 M)
  unfold f_X8_moneyBehind
  refine rw_aload_n C dX8_moneyBehind_0 rfl 0 rfl ?_
  refine rw_getR (k0 := 0) (k1 := 37) C dX8_moneyBehind_1 fl_X8_39 rfl (by decide) sh_0 (by decide) rfl ?_
  refine rw_iload_n C dX8_moneyBehind_4 rfl 1 rfl ?_
  refine rw_ldI C dX8_moneyBehind_5 (fun x1 => ?_)
  refine rw_istore_n (lv' := [(3, .int x1), (0, .ref (κ.1 + 0)), (1, .int a1), (2, .int a2)]) C dX8_moneyBehind_6 rfl (by decide) rfl ?_
  refine rw_iconst (c := 0) C dX8_moneyBehind_7 ci_0 ?_
  refine rw_istore (lv' := [(4, .int 0), (3, .int x1), (0, .ref (κ.1 + 0)), (1, .int a1), (2, .int a2)]) C dX8_moneyBehind_8 (by decide) rfl ?_
  refine rw_lv (lv' := [(0, .ref (κ.1 + 0)), (1, .int a1), (2, .int a2), (3, .int x1), (4, .int 0)]) [2, 3, 4, 1, 0] rfl ?_
  refine pv_lp2_ind (fun x2 x3 xx => pv_R g κ pv_T pv_RF 6 0 0 (pv_QP g κ pv_ji M) 10 [(0, .ref (κ.1 + 0)), (1, .int a1), (2, .int a2), (3, .int x2), (4, .int x3)] [] M xx) (fun _ _ => rw_none) (fun rec1 hrec1 x2 x3 => ?_) _ _ _
  unfold f_X8_moneyBehind_L10
  refine rw_iload C dX8_moneyBehind_10 4 rfl ?_
  refine rw_aload_n C dX8_moneyBehind_12 rfl 0 rfl ?_
  refine rw_getR (k0 := 0) (k1 := 19) C dX8_moneyBehind_13 fl_X8_33 rfl (by decide) sh_0 (by decide) rfl ?_
  refine rw_getI (k0 := 19) C dX8_moneyBehind_16 fl_X8_182 rfl (by decide) sh_19 (by decide) (fun x4 => ?_)
  refine rw_icmp_ge (tgt := 85) C dX8_moneyBehind_19 (by decide) ?_ ?_
  · refine rw_iload_n C dX8_moneyBehind_85 rfl 3 rfl ?_
    exact rw_iretP C dX8_moneyBehind_86
  · refine rw_aload_n C dX8_moneyBehind_22 rfl 0 rfl ?_
    refine rw_getR (k0 := 0) (k1 := 19) C dX8_moneyBehind_23 fl_X8_33 rfl (by decide) sh_0 (by decide) rfl ?_
    refine rw_getR (k0 := 19) (k1 := 20) C dX8_moneyBehind_26 fl_X8_207 rfl (by decide) sh_19 (by decide) rfl ?_
    refine rw_iload C dX8_moneyBehind_29 4 rfl ?_
    refine rw_ldR C dX8_moneyBehind_31 (fun k1 => ?_)
    refine rw_astore (lv' := [(5, .ref (κ.1 + k1)), (0, .ref (κ.1 + 0)), (1, .int a1), (2, .int a2), (3, .int x2), (4, .int x3)]) C dX8_moneyBehind_32 (by decide) rfl ?_
    refine rw_aload C dX8_moneyBehind_34 0 rfl ?_
    refine rw_iconst (c := 5) C dX8_moneyBehind_36 ci_5 ?_
    refine rw_ldI C dX8_moneyBehind_37 (fun x5 => ?_)
    refine rw_iload_n C dX8_moneyBehind_38 rfl 3 rfl ?_
    refine rw_icmp_le (tgt := 45) C dX8_moneyBehind_39 (by decide) ?_ ?_
    · refine rw_aload C dX8_moneyBehind_45 0 rfl ?_
      refine rw_iconst (c := 0) C dX8_moneyBehind_47 ci_0 ?_
      refine rw_ldI C dX8_moneyBehind_48 (fun x6 => ?_)
      refine rw_iload_n C dX8_moneyBehind_49 rfl 2 rfl ?_
      refine rw_jn (fun j1 => ∀ (x7 : Int32), pv_R g κ pv_T pv_RF 6 0 0 (pv_QP g κ pv_ji M) 62 [(0, .ref (κ.1 + 0)), (1, .int a1), (2, .int a2), (3, .int x7), (4, .int x3), (5, .ref (κ.1 + k1))] [] M (j1 x7)) (fun x7 => ?_) (fun j1 hj1 => ?_)
      · refine rw_aload C dX8_moneyBehind_62 5 rfl ?_
        refine rw_iconst (c := 1) C dX8_moneyBehind_64 ci_1 ?_
        refine rw_ldI C dX8_moneyBehind_65 (fun x8 => ?_)
        refine rw_iload_n C dX8_moneyBehind_66 rfl 1 rfl ?_
        refine rw_icmp_ne (tgt := 79) C dX8_moneyBehind_67 (by decide) ?_ ?_
        · refine rw_iinc (c := 1) (lv' := [(4, .int (x3 + 1)), (0, .ref (κ.1 + 0)), (1, .int a1), (2, .int a2), (3, .int x7), (5, .ref (κ.1 + k1))]) C dX8_moneyBehind_79 4 rfl (by decide) (by decide) rfl ?_
          refine rw_goto (tgt := 10) C dX8_moneyBehind_82 (by decide) ?_
          exact rw_lv [1, 2, 3, 4, 0] rfl (hrec1 x7 (x3 + 1))
        · refine rw_iload_n C dX8_moneyBehind_70 rfl 3 rfl ?_
          refine rw_aload_n C dX8_moneyBehind_71 rfl 0 rfl ?_
          refine rw_aload C dX8_moneyBehind_72 5 rfl ?_
          refine rw_callVPi (As := [.ref (κ.1 + k1)]) (k0 := 0) C hR dX8_moneyBehind_74 cv_X8_413 (k_X8_paid g.2.1 κ k1 M) (by decide) (by decide) (by decide) sh_0 rfl rfl (Nat.le_of_ble_eq_true rfl) rfl (fun x9 => ?_)
          refine rw_iadd C dX8_moneyBehind_77 ?_
          refine rw_nm (fun x10 => ?_)
          refine rw_istore_n (lv' := [(3, .int x10), (0, .ref (κ.1 + 0)), (1, .int a1), (2, .int a2), (4, .int x3), (5, .ref (κ.1 + k1))]) C dX8_moneyBehind_78 rfl (by decide) rfl ?_
          refine rw_iinc (c := 1) (lv' := [(4, .int (x3 + 1)), (3, .int x10), (0, .ref (κ.1 + 0)), (1, .int a1), (2, .int a2), (5, .ref (κ.1 + k1))]) C dX8_moneyBehind_79 4 rfl (by decide) (by decide) rfl ?_
          refine rw_goto (tgt := 10) C dX8_moneyBehind_82 (by decide) ?_
          exact rw_lv [2, 3, 4, 1, 0] rfl (hrec1 x10 (x3 + 1))
      · refine rw_icmp_ne (tgt := 62) C dX8_moneyBehind_50 (by decide) ?_ ?_
        · exact rw_lv [1, 2, 3, 4, 5, 0] rfl (hj1 x2)
        · refine rw_iload_n C dX8_moneyBehind_53 rfl 4 rfl ?_
          refine rw_aload_n C dX8_moneyBehind_54 rfl 1 rfl ?_
          refine rw_aload C dX8_moneyBehind_55 0 rfl ?_
          refine rw_callVPi (As := [.ref (κ.1 + k1)]) (k0 := 0) C hR dX8_moneyBehind_57 cv_X8_413 (k_X8_paid g.2.1 κ k1 M) (by decide) (by decide) (by decide) sh_0 rfl rfl (Nat.le_of_ble_eq_true rfl) rfl (fun x11 => ?_)
          refine rw_isub C dX8_moneyBehind_60 ?_
          refine rw_nm (fun x12 => ?_)
          refine rw_istore_n (lv' := [(3, .int x12), (5, .ref (κ.1 + k1)), (0, .ref (κ.1 + 0)), (1, .int a1), (2, .int a2), (4, .int x3)]) C dX8_moneyBehind_61 rfl (by decide) rfl ?_
          exact rw_lv [2, 3, 4, 0, 5, 1] rfl (hj1 x12)
    · refine rw_goto (tgt := 79) C dX8_moneyBehind_42 (by decide) ?_
      refine rw_iinc (c := 1) (lv' := [(4, .int (x3 + 1)), (5, .ref (κ.1 + k1)), (0, .ref (κ.1 + 0)), (1, .int a1), (2, .int a2), (3, .int x2)]) C dX8_moneyBehind_79 5 rfl (by decide) (by decide) rfl ?_
      refine rw_goto (tgt := 10) C dX8_moneyBehind_82 (by decide) ?_
      exact rw_lv [2, 3, 4, 5, 0] rfl (hrec1 x2 (x3 + 1))
def f_X8_money (a1 : Int32) (a2 : Int32) (M : pv_M) : Option (Int32 × pv_M) := pv_cap (f_X8_isPerson a1 M) (fun x1 => (if x1 = 0 then some ((-100002), M) else pv_cap (f_X8_isYear a2 M) (fun x2 => (if x2 = 0 then some ((-100002), M) else pv_cal (f_X8_settle M) (fun u1 M1 => pv_cap (f_X8_moneyBehind a1 a2 M1) (fun x3 => some (x3, M1)))))))
set_option maxHeartbeats 4000000 in
set_option maxRecDepth 100000 in
theorem k_X8_money (l : Launch) (κ : pv_K) (a1 : Int32) (a2 : Int32) (M : pv_M) : pv_Mt l yX8_money cX8_money 3 (some .int) 5 κ [.ref (κ.1 + 0), .int a1, .int a2] M pv_ji (f_X8_money a1 a2 M) := by
  refine pv_enter (by decide +kernel) (Nat.le_of_ble_eq_true rfl) (fun g hl hR C => ?_)
  have C : pv_Ok g κ 3 cX8_money RX8 (some .int) := C
  show pv_R g κ pv_T pv_RF 3 0 0 (pv_QF g κ pv_ji) 0 [(0, .ref (κ.1 + 0)), (1, .int a1), (2, .int a2)] [] M (f_X8_money a1 a2 M)
  unfold f_X8_money
  refine rw_iload_n C dX8_money_0 rfl 1 rfl ?_
  refine rw_callSPi (As := [.int a1]) C hR dX8_money_1 cs_X8_174 (k_X8_isPerson g.2.1 κ a1 M) (by decide) (by decide) rfl (Nat.le_of_ble_eq_true rfl) rfl (fun x1 => ?_)
  refine rw_if_eq (tgt := 14) C dX8_money_4 (by decide) ?_ ?_
  · refine rw_ldc (c := (-100002)) C dX8_money_14 mw_557 ?_
    exact rw_iret C dX8_money_16
  · refine rw_iload_n C dX8_money_7 rfl 2 rfl ?_
    refine rw_callSPi (As := [.int a2]) C hR dX8_money_8 cs_X8_146 (k_X8_isYear g.2.1 κ a2 M) (by decide) (by decide) rfl (Nat.le_of_ble_eq_true rfl) rfl (fun x2 => ?_)
    refine rw_if_ne (tgt := 17) C dX8_money_11 (by decide) ?_ ?_
    · refine rw_aload_n C dX8_money_17 rfl 0 rfl ?_
      refine rw_callVu (As := []) (k0 := 0) C hR dX8_money_18 cv_X8_143 (k_X8_settle g.2.1 κ M) (by decide) (by decide) (by decide) sh_0 rfl rfl (Nat.le_of_ble_eq_true rfl) rfl (fun u1 M1 => ?_)
      refine rw_aload_n C dX8_money_21 rfl 0 rfl ?_
      refine rw_iload_n C dX8_money_22 rfl 1 rfl ?_
      refine rw_iload_n C dX8_money_23 rfl 2 rfl ?_
      refine rw_callVPi (As := [.int a1, .int a2]) (k0 := 0) C hR dX8_money_24 cv_X8_201 (k_X8_moneyBehind g.2.1 κ a1 a2 M1) (by decide) (by decide) (by decide) sh_0 rfl rfl (Nat.le_of_ble_eq_true rfl) rfl (fun x3 => ?_)
      exact rw_iret C dX8_money_27
    · refine rw_ldc (c := (-100002)) C dX8_money_14 mw_557 ?_
      exact rw_iret C dX8_money_16
def f_X8_firstRuin_L25 (rec1 : Int32 → pv_M → Option (Int32 × pv_M)) (x1 : Int32) (rec2 : Int32 → pv_M → Option (Int32 × pv_M)) (x2 : Int32) (M3 : pv_M) : Option (Int32 × pv_M) := pv_nm (M3.1 19 1) (fun x3 => (if x3 ≤ x2 then rec1 (x1 + 1) M3 else pv_ldR pv_T 20 x2 (fun k1 => pv_ldI pv_T k1 5 M3 (fun x4 => (if x4 = x1 then pv_cap (f_X8_paid k1 M3) (fun x5 => pv_ldI pv_T k1 0 M3 (fun x6 => pv_ldI pv_T 38 x6 M3 (fun x7 => pv_stI pv_T 38 x6 (x7 - x5) M3 (fun M4 => pv_ldI pv_T k1 1 M4 (fun x8 => pv_ldI pv_T 38 x8 M4 (fun x9 => pv_stI pv_T 38 x8 (x9 + x5) M4 (fun M5 => pv_ldI pv_T k1 0 M5 (fun x10 => pv_ldI pv_T 38 x10 M5 (fun x11 => (if 0 ≤ x11 then rec2 (x2 + 1) M5 else some (x2, M5))))))))))) else rec2 (x2 + 1) M3)))))
def f_X8_firstRuin_L17 (rec1 : Int32 → pv_M → Option (Int32 × pv_M)) (x1 : Int32) (M2 : pv_M) : Option (Int32 × pv_M) := (if 10 ≤ x1 then some ((-1), M2) else pv_lp2 (f_X8_firstRuin_L25 rec1 x1) pv_FU 0 M2)
def f_X8_firstRuin (M : pv_M) : Option (Int32 × pv_M) := pv_ck (pv_cpyb pv_T 37 0 38 0 8) (pv_nm (pv_cpy M 37 0 38 0 8) (fun M1 => pv_lp2 f_X8_firstRuin_L17 pv_FU 0 M1))
set_option maxHeartbeats 4000000 in
set_option maxRecDepth 100000 in
theorem k_X8_firstRuin (l : Launch) (κ : pv_K) (M : pv_M) : pv_Mt l yX8_firstRuin cX8_firstRuin 5 (some .int) 3 κ [.ref (κ.1 + 0)] M pv_ji (f_X8_firstRuin M) := by
  refine pv_enter (by decide +kernel) (Nat.le_of_ble_eq_true rfl) (fun g hl hR C => ?_)
  have C : pv_Ok g κ 5 cX8_firstRuin RX8 (some .int) := C
  show pv_R g κ pv_T pv_RF 5 0 0 (pv_QF g κ pv_ji) 0 [(0, .ref (κ.1 + 0))] [] M (f_X8_firstRuin M)
  unfold f_X8_firstRuin
  refine rw_aload_n C dX8_firstRuin_0 rfl 0 rfl ?_
  refine rw_getR (k0 := 0) (k1 := 37) C dX8_firstRuin_1 fl_X8_39 rfl (by decide) sh_0 (by decide) rfl ?_
  refine rw_iconst (c := 0) C dX8_firstRuin_4 ci_0 ?_
  refine rw_aload_n C dX8_firstRuin_5 rfl 0 rfl ?_
  refine rw_getR (k0 := 0) (k1 := 38) C dX8_firstRuin_6 fl_X8_43 rfl (by decide) sh_0 (by decide) rfl ?_
  refine rw_iconst (c := 0) C dX8_firstRuin_9 ci_0 ?_
  refine rw_bipush (c := 8) C dX8_firstRuin_10 (by decide) ?_
  refine rw_copy C hR dX8_firstRuin_12 ⟨mw_596, mw_336, mw_337, mw_338⟩ (by decide) (Nat.le_of_ble_eq_true rfl) (fun M1 => ?_)
  refine rw_iconst (c := 0) C dX8_firstRuin_15 ci_0 ?_
  refine rw_istore_n (lv' := [(1, .int 0), (0, .ref (κ.1 + 0))]) C dX8_firstRuin_16 rfl (by decide) rfl ?_
  refine rw_lv (lv' := [(0, .ref (κ.1 + 0)), (1, .int 0)]) [1, 0] rfl ?_
  refine pv_lp2_ind (fun x1 M2 xx => pv_R g κ pv_T pv_RF 5 0 0 (pv_QF g κ pv_ji) 17 [(0, .ref (κ.1 + 0)), (1, .int x1)] [] M2 xx) (fun _ _ => rw_none) (fun rec1 hrec1 x1 M2 => ?_) _ _ _
  unfold f_X8_firstRuin_L17
  refine rw_iload_n C dX8_firstRuin_17 rfl 1 rfl ?_
  refine rw_bipush (c := 10) C dX8_firstRuin_18 (by decide) ?_
  refine rw_icmp_ge (tgt := 114) C dX8_firstRuin_20 (by decide) ?_ ?_
  · refine rw_iconst (c := (-1)) C dX8_firstRuin_114 ci_m1 ?_
    exact rw_iret C dX8_firstRuin_115
  · refine rw_iconst (c := 0) C dX8_firstRuin_23 ci_0 ?_
    refine rw_istore_n (lv' := [(2, .int 0), (0, .ref (κ.1 + 0)), (1, .int x1)]) C dX8_firstRuin_24 rfl (by decide) rfl ?_
    refine rw_lv (lv' := [(0, .ref (κ.1 + 0)), (1, .int x1), (2, .int 0)]) [1, 2, 0] rfl ?_
    refine pv_lp2_ind (fun x2 M3 xx => pv_R g κ pv_T pv_RF 5 0 0 (pv_QF g κ pv_ji) 25 [(0, .ref (κ.1 + 0)), (1, .int x1), (2, .int x2)] [] M3 xx) (fun _ _ => rw_none) (fun rec2 hrec2 x2 M3 => ?_) _ _ _
    unfold f_X8_firstRuin_L25
    refine rw_iload_n C dX8_firstRuin_25 rfl 2 rfl ?_
    refine rw_aload_n C dX8_firstRuin_26 rfl 0 rfl ?_
    refine rw_getR (k0 := 0) (k1 := 19) C dX8_firstRuin_27 fl_X8_33 rfl (by decide) sh_0 (by decide) rfl ?_
    refine rw_getI (k0 := 19) C dX8_firstRuin_30 fl_X8_182 rfl (by decide) sh_19 (by decide) (fun x3 => ?_)
    refine rw_icmp_ge (tgt := 108) C dX8_firstRuin_33 (by decide) ?_ ?_
    · refine rw_iinc (c := 1) (lv' := [(1, .int (x1 + 1)), (0, .ref (κ.1 + 0)), (2, .int x2)]) C dX8_firstRuin_108 1 rfl (by decide) (by decide) rfl ?_
      refine rw_goto (tgt := 17) C dX8_firstRuin_111 (by decide) ?_
      exact rw_lv [1, 0] rfl (hrec1 (x1 + 1) M3)
    · refine rw_aload_n C dX8_firstRuin_36 rfl 0 rfl ?_
      refine rw_getR (k0 := 0) (k1 := 19) C dX8_firstRuin_37 fl_X8_33 rfl (by decide) sh_0 (by decide) rfl ?_
      refine rw_getR (k0 := 19) (k1 := 20) C dX8_firstRuin_40 fl_X8_207 rfl (by decide) sh_19 (by decide) rfl ?_
      refine rw_iload_n C dX8_firstRuin_43 rfl 2 rfl ?_
      refine rw_ldR C dX8_firstRuin_44 (fun k1 => ?_)
      refine rw_astore_n (lv' := [(3, .ref (κ.1 + k1)), (0, .ref (κ.1 + 0)), (1, .int x1), (2, .int x2)]) C dX8_firstRuin_45 rfl (by decide) rfl ?_
      refine rw_aload_n C dX8_firstRuin_46 rfl 0 rfl ?_
      refine rw_iconst (c := 5) C dX8_firstRuin_47 ci_5 ?_
      refine rw_ldI C dX8_firstRuin_48 (fun x4 => ?_)
      refine rw_iload_n C dX8_firstRuin_49 rfl 2 rfl ?_
      refine rw_icmp_eq (tgt := 56) C dX8_firstRuin_50 (by decide) ?_ ?_
      · refine rw_aload_n C dX8_firstRuin_56 rfl 1 rfl ?_
        refine rw_aload_n C dX8_firstRuin_57 rfl 0 rfl ?_
        refine rw_callVPi (As := [.ref (κ.1 + k1)]) (k0 := 0) C hR dX8_firstRuin_58 cv_X8_413 (k_X8_paid g.2.1 κ k1 M3) (by decide) (by decide) (by decide) sh_0 rfl rfl (Nat.le_of_ble_eq_true rfl) rfl (fun x5 => ?_)
        refine rw_istore (lv' := [(4, .int x5), (3, .ref (κ.1 + k1)), (0, .ref (κ.1 + 0)), (1, .int x1), (2, .int x2)]) C dX8_firstRuin_61 (by decide) rfl ?_
        refine rw_aload_n C dX8_firstRuin_63 rfl 2 rfl ?_
        refine rw_getR (k0 := 0) (k1 := 38) C dX8_firstRuin_64 fl_X8_43 rfl (by decide) sh_0 (by decide) rfl ?_
        refine rw_aload_n C dX8_firstRuin_67 rfl 1 rfl ?_
        refine rw_iconst (c := 0) C dX8_firstRuin_68 ci_0 ?_
        refine rw_ldI C dX8_firstRuin_69 (fun x6 => ?_)
        refine rw_dup2 C dX8_firstRuin_70 rfl rfl ?_
        refine rw_ldI C dX8_firstRuin_71 (fun x7 => ?_)
        refine rw_iload C dX8_firstRuin_72 0 rfl ?_
        refine rw_isub C dX8_firstRuin_74 ?_
        refine rw_stI C dX8_firstRuin_75 (fun M4 => ?_)
        refine rw_aload_n C dX8_firstRuin_76 rfl 2 rfl ?_
        refine rw_getR (k0 := 0) (k1 := 38) C dX8_firstRuin_77 fl_X8_43 rfl (by decide) sh_0 (by decide) rfl ?_
        refine rw_aload_n C dX8_firstRuin_80 rfl 1 rfl ?_
        refine rw_iconst (c := 1) C dX8_firstRuin_81 ci_1 ?_
        refine rw_ldI C dX8_firstRuin_82 (fun x8 => ?_)
        refine rw_dup2 C dX8_firstRuin_83 rfl rfl ?_
        refine rw_ldI C dX8_firstRuin_84 (fun x9 => ?_)
        refine rw_iload C dX8_firstRuin_85 0 rfl ?_
        refine rw_iadd C dX8_firstRuin_87 ?_
        refine rw_stI C dX8_firstRuin_88 (fun M5 => ?_)
        refine rw_aload_n C dX8_firstRuin_89 rfl 2 rfl ?_
        refine rw_getR (k0 := 0) (k1 := 38) C dX8_firstRuin_90 fl_X8_43 rfl (by decide) sh_0 (by decide) rfl ?_
        refine rw_aload_n C dX8_firstRuin_93 rfl 1 rfl ?_
        refine rw_iconst (c := 0) C dX8_firstRuin_94 ci_0 ?_
        refine rw_ldI C dX8_firstRuin_95 (fun x10 => ?_)
        refine rw_ldI C dX8_firstRuin_96 (fun x11 => ?_)
        refine rw_if_ge (tgt := 102) C dX8_firstRuin_97 (by decide) ?_ ?_
        · refine rw_iinc (c := 1) (lv' := [(2, .int (x2 + 1)), (4, .int x5), (3, .ref (κ.1 + k1)), (0, .ref (κ.1 + 0)), (1, .int x1)]) C dX8_firstRuin_102 4 rfl (by decide) (by decide) rfl ?_
          refine rw_goto (tgt := 25) C dX8_firstRuin_105 (by decide) ?_
          exact rw_lv [3, 4, 0] rfl (hrec2 (x2 + 1) M5)
        · refine rw_iload_n C dX8_firstRuin_100 rfl 4 rfl ?_
          exact rw_iret C dX8_firstRuin_101
      · refine rw_goto (tgt := 102) C dX8_firstRuin_53 (by decide) ?_
        refine rw_iinc (c := 1) (lv' := [(2, .int (x2 + 1)), (3, .ref (κ.1 + k1)), (0, .ref (κ.1 + 0)), (1, .int x1)]) C dX8_firstRuin_102 3 rfl (by decide) (by decide) rfl ?_
        refine rw_goto (tgt := 25) C dX8_firstRuin_105 (by decide) ?_
        exact rw_lv [2, 3, 0] rfl (hrec2 (x2 + 1) M3)
def f_X8_ruined (a1 : Int32) (M : pv_M) : Option (Int32 × pv_M) := pv_cap (f_X8_isWithin a1 0 1 M) (fun x1 => (if x1 = 0 then some ((-2), M) else pv_cal (f_X8_settle M) (fun u1 M1 => pv_cal (f_X8_firstRuin M1) (fun x2 M2 => (if x2 = ((-1)) then some ((-1), M2) else pv_ldR pv_T 20 x2 (fun k1 => (if a1 = 0 then pv_ldI pv_T k1 0 M2 (fun x4 => some (x4, M2)) else pv_ldI pv_T k1 5 M2 (fun x3 => some (x3, M2)))))))))
set_option maxHeartbeats 4000000 in
set_option maxRecDepth 100000 in
theorem k_X8_ruined (l : Launch) (κ : pv_K) (a1 : Int32) (M : pv_M) : pv_Mt l yX8_ruined cX8_ruined 3 (some .int) 5 κ [.ref (κ.1 + 0), .int a1] M pv_ji (f_X8_ruined a1 M) := by
  refine pv_enter (by decide +kernel) (Nat.le_of_ble_eq_true rfl) (fun g hl hR C => ?_)
  have C : pv_Ok g κ 3 cX8_ruined RX8 (some .int) := C
  show pv_R g κ pv_T pv_RF 3 0 0 (pv_QF g κ pv_ji) 0 [(0, .ref (κ.1 + 0)), (1, .int a1)] [] M (f_X8_ruined a1 M)
  unfold f_X8_ruined
  refine rw_iload_n C dX8_ruined_0 rfl 1 rfl ?_
  refine rw_iconst (c := 0) C dX8_ruined_1 ci_0 ?_
  refine rw_iconst (c := 1) C dX8_ruined_2 ci_1 ?_
  refine rw_callSPi (As := [.int a1, .int 0, .int 1]) C hR dX8_ruined_3 cs_X8_120 (k_X8_isWithin g.2.1 κ a1 0 1 M) (by decide) (by decide) rfl (Nat.le_of_ble_eq_true rfl) rfl (fun x1 => ?_)
  refine rw_if_ne (tgt := 12) C dX8_ruined_6 (by decide) ?_ ?_
  · refine rw_aload_n C dX8_ruined_12 rfl 0 rfl ?_
    refine rw_callVu (As := []) (k0 := 0) C hR dX8_ruined_13 cv_X8_143 (k_X8_settle g.2.1 κ M) (by decide) (by decide) (by decide) sh_0 rfl rfl (Nat.le_of_ble_eq_true rfl) rfl (fun u1 M1 => ?_)
    refine rw_aload_n C dX8_ruined_16 rfl 0 rfl ?_
    refine rw_callVi (As := []) (k0 := 0) C hR dX8_ruined_17 cv_X8_204 (k_X8_firstRuin g.2.1 κ M1) (by decide) (by decide) (by decide) sh_0 rfl rfl (Nat.le_of_ble_eq_true rfl) rfl (fun x2 M2 => ?_)
    refine rw_istore_n (lv' := [(2, .int x2), (0, .ref (κ.1 + 0)), (1, .int a1)]) C dX8_ruined_20 rfl (by decide) rfl ?_
    refine rw_iload_n C dX8_ruined_21 rfl 0 rfl ?_
    refine rw_iconst (c := (-1)) C dX8_ruined_22 ci_m1 ?_
    refine rw_icmp_ne (tgt := 28) C dX8_ruined_23 (by decide) ?_ ?_
    · refine rw_aload_n C dX8_ruined_28 rfl 1 rfl ?_
      refine rw_getR (k0 := 0) (k1 := 19) C dX8_ruined_29 fl_X8_33 rfl (by decide) sh_0 (by decide) rfl ?_
      refine rw_getR (k0 := 19) (k1 := 20) C dX8_ruined_32 fl_X8_207 rfl (by decide) sh_19 (by decide) rfl ?_
      refine rw_iload_n C dX8_ruined_35 rfl 0 rfl ?_
      refine rw_ldR C dX8_ruined_36 (fun k1 => ?_)
      refine rw_iload_n C dX8_ruined_37 rfl 2 rfl ?_
      refine rw_if_ne (tgt := 45) C dX8_ruined_38 (by decide) ?_ ?_
      · refine rw_iconst (c := 5) C dX8_ruined_45 ci_5 ?_
        refine rw_ldI C dX8_ruined_46 (fun x3 => ?_)
        exact rw_iret C dX8_ruined_47
      · refine rw_iconst (c := 0) C dX8_ruined_41 ci_0 ?_
        refine rw_goto (tgt := 46) C dX8_ruined_42 (by decide) ?_
        refine rw_ldI C dX8_ruined_46 (fun x4 => ?_)
        exact rw_iret C dX8_ruined_47
    · refine rw_iconst (c := (-1)) C dX8_ruined_26 ci_m1 ?_
      exact rw_iret C dX8_ruined_27
  · refine rw_bipush (c := (-2)) C dX8_ruined_9 (by decide) ?_
    exact rw_iret C dX8_ruined_11
def f_X8_worst (a1 : Int32) (M : pv_M) : Option (Int32 × pv_M) := pv_nm (M.1 19 1) (fun x1 => pv_cap (f_X8_isWithin a1 0 (x1 - 1) M) (fun x2 => (if x2 = 0 then some ((-2), M) else pv_cal (f_X8_settle M) (fun u1 M1 => pv_ldR pv_T 20 a1 (fun k1 => pv_ldI pv_T k1 4 M1 (fun x3 => pv_cap (f_X8_paidBy k1 x3 M1) (fun x4 => pv_ldI pv_T k1 5 M1 (fun x5 => pv_cap (f_X8_paidBy k1 x5 M1) (fun x6 => pv_nm (x4 - x6) (fun x7 => some (if 0 ≤ x7 then x7 else 0 - x7, M1)))))))))))
set_option maxHeartbeats 4000000 in
set_option maxRecDepth 100000 in
theorem k_X8_worst (l : Launch) (κ : pv_K) (a1 : Int32) (M : pv_M) : pv_Mt l yX8_worst cX8_worst 3 (some .int) 5 κ [.ref (κ.1 + 0), .int a1] M pv_ji (f_X8_worst a1 M) := by
  refine pv_enter (by decide +kernel) (Nat.le_of_ble_eq_true rfl) (fun g hl hR C => ?_)
  have C : pv_Ok g κ 3 cX8_worst RX8 (some .int) := C
  show pv_R g κ pv_T pv_RF 3 0 0 (pv_QF g κ pv_ji) 0 [(0, .ref (κ.1 + 0)), (1, .int a1)] [] M (f_X8_worst a1 M)
  unfold f_X8_worst
  refine rw_iload_n C dX8_worst_0 rfl 1 rfl ?_
  refine rw_iconst (c := 0) C dX8_worst_1 ci_0 ?_
  refine rw_aload_n C dX8_worst_2 rfl 0 rfl ?_
  refine rw_getR (k0 := 0) (k1 := 19) C dX8_worst_3 fl_X8_33 rfl (by decide) sh_0 (by decide) rfl ?_
  refine rw_getI (k0 := 19) C dX8_worst_6 fl_X8_182 rfl (by decide) sh_19 (by decide) (fun x1 => ?_)
  refine rw_iconst (c := 1) C dX8_worst_9 ci_1 ?_
  refine rw_isub C dX8_worst_10 ?_
  refine rw_callSPi (As := [.int a1, .int 0, .int (x1 - 1)]) C hR dX8_worst_11 cs_X8_120 (k_X8_isWithin g.2.1 κ a1 0 (x1 - 1) M) (by decide) (by decide) rfl (Nat.le_of_ble_eq_true rfl) rfl (fun x2 => ?_)
  refine rw_if_ne (tgt := 20) C dX8_worst_14 (by decide) ?_ ?_
  · refine rw_aload_n C dX8_worst_20 rfl 0 rfl ?_
    refine rw_callVu (As := []) (k0 := 0) C hR dX8_worst_21 cv_X8_143 (k_X8_settle g.2.1 κ M) (by decide) (by decide) (by decide) sh_0 rfl rfl (Nat.le_of_ble_eq_true rfl) rfl (fun u1 M1 => ?_)
    refine rw_aload_n C dX8_worst_24 rfl 0 rfl ?_
    refine rw_getR (k0 := 0) (k1 := 19) C dX8_worst_25 fl_X8_33 rfl (by decide) sh_0 (by decide) rfl ?_
    refine rw_getR (k0 := 19) (k1 := 20) C dX8_worst_28 fl_X8_207 rfl (by decide) sh_19 (by decide) rfl ?_
    refine rw_iload_n C dX8_worst_31 rfl 1 rfl ?_
    refine rw_ldR C dX8_worst_32 (fun k1 => ?_)
    refine rw_astore_n (lv' := [(2, .ref (κ.1 + k1)), (0, .ref (κ.1 + 0)), (1, .int a1)]) C dX8_worst_33 rfl (by decide) rfl ?_
    refine rw_aload_n C dX8_worst_34 rfl 1 rfl ?_
    refine rw_aload_n C dX8_worst_35 rfl 0 rfl ?_
    refine rw_aload_n C dX8_worst_36 rfl 0 rfl ?_
    refine rw_iconst (c := 4) C dX8_worst_37 ci_4 ?_
    refine rw_ldI C dX8_worst_38 (fun x3 => ?_)
    refine rw_callVPi (As := [.ref (κ.1 + k1), .int x3]) (k0 := 0) C hR dX8_worst_39 cv_X8_211 (k_X8_paidBy g.2.1 κ k1 x3 M1) (by decide) (by decide) (by decide) sh_0 rfl rfl (Nat.le_of_ble_eq_true rfl) rfl (fun x4 => ?_)
    refine rw_aload_n C dX8_worst_42 rfl 1 rfl ?_
    refine rw_aload_n C dX8_worst_43 rfl 0 rfl ?_
    refine rw_aload_n C dX8_worst_44 rfl 0 rfl ?_
    refine rw_iconst (c := 5) C dX8_worst_45 ci_5 ?_
    refine rw_ldI C dX8_worst_46 (fun x5 => ?_)
    refine rw_callVPi (As := [.ref (κ.1 + k1), .int x5]) (k0 := 0) C hR dX8_worst_47 cv_X8_211 (k_X8_paidBy g.2.1 κ k1 x5 M1) (by decide) (by decide) (by decide) sh_0 rfl rfl (Nat.le_of_ble_eq_true rfl) rfl (fun x6 => ?_)
    refine rw_isub C dX8_worst_50 ?_
    refine rw_nm (fun x7 => ?_)
    refine rw_abs C hR dX8_worst_51 ⟨mw_379, mw_380, mw_381, mw_382⟩ (by decide) (Nat.le_of_ble_eq_true rfl) ⟨rfl, rfl⟩ ?_
    exact rw_iret C dX8_worst_54
  · refine rw_bipush (c := (-2)) C dX8_worst_17 (by decide) ?_
    exact rw_iret C dX8_worst_19
def f_X8_rest (a1 : Int32) (M : pv_M) : Option (Int32 × pv_M) := pv_cap (f_X8_isWithin a1 0 4095 M) (fun x1 => (if x1 = 0 then some ((-2), M) else pv_cal (f_X8_settle M) (fun u1 M1 => pv_nm (M1.1 39 0) (fun x2 => (if x2 = 0 then some ((-3), M1) else pv_cap (f_X0_isTold a1 M1) (fun x3 => (if x3 = 0 then some ((-2), M1) else pv_cal (f_X0_isRest a1 M1) (fun x4 M2 => (if x4 = 0 then some (0, M2) else some (1, M2))))))))))
set_option maxHeartbeats 4000000 in
set_option maxRecDepth 100000 in
theorem k_X8_rest (l : Launch) (κ : pv_K) (a1 : Int32) (M : pv_M) : pv_Mt l yX8_rest cX8_rest 2 (some .int) 5 κ [.ref (κ.1 + 0), .int a1] M pv_ji (f_X8_rest a1 M) := by
  refine pv_enter (by decide +kernel) (Nat.le_of_ble_eq_true rfl) (fun g hl hR C => ?_)
  have C : pv_Ok g κ 2 cX8_rest RX8 (some .int) := C
  show pv_R g κ pv_T pv_RF 2 0 0 (pv_QF g κ pv_ji) 0 [(0, .ref (κ.1 + 0)), (1, .int a1)] [] M (f_X8_rest a1 M)
  unfold f_X8_rest
  refine rw_iload_n C dX8_rest_0 rfl 1 rfl ?_
  refine rw_iconst (c := 0) C dX8_rest_1 ci_0 ?_
  refine rw_sipush (c := 4095) C dX8_rest_2 (by decide) ?_
  refine rw_callSPi (As := [.int a1, .int 0, .int 4095]) C hR dX8_rest_5 cs_X8_120 (k_X8_isWithin g.2.1 κ a1 0 4095 M) (by decide) (by decide) rfl (Nat.le_of_ble_eq_true rfl) rfl (fun x1 => ?_)
  refine rw_if_ne (tgt := 14) C dX8_rest_8 (by decide) ?_ ?_
  · refine rw_aload_n C dX8_rest_14 rfl 0 rfl ?_
    refine rw_callVu (As := []) (k0 := 0) C hR dX8_rest_15 cv_X8_143 (k_X8_settle g.2.1 κ M) (by decide) (by decide) (by decide) sh_0 rfl rfl (Nat.le_of_ble_eq_true rfl) rfl (fun u1 M1 => ?_)
    refine rw_aload_n C dX8_rest_18 rfl 0 rfl ?_
    refine rw_getR (k0 := 0) (k1 := 39) C dX8_rest_19 fl_X8_49 rfl (by decide) sh_0 (by decide) rfl ?_
    refine rw_getI (k0 := 39) C dX8_rest_22 fl_X8_215 rfl (by decide) sh_39 (by decide) (fun x2 => ?_)
    refine rw_if_ne (tgt := 31) C dX8_rest_25 (by decide) ?_ ?_
    · refine rw_aload_n C dX8_rest_31 rfl 0 rfl ?_
      refine rw_getR (k0 := 0) (k1 := 158) C dX8_rest_32 fl_X8_73 rfl (by decide) sh_0 (by decide) rfl ?_
      refine rw_iload_n C dX8_rest_35 rfl 1 rfl ?_
      refine rw_callVPi (As := [.int a1]) (k0 := 158) C hR dX8_rest_36 cv_X8_218 (k_X0_isTold g.2.1 κ a1 M1) (by decide) (by decide) (by decide) sh_158 rfl rfl (Nat.le_of_ble_eq_true rfl) rfl (fun x3 => ?_)
      refine rw_if_ne (tgt := 45) C dX8_rest_39 (by decide) ?_ ?_
      · refine rw_aload_n C dX8_rest_45 rfl 0 rfl ?_
        refine rw_getR (k0 := 0) (k1 := 158) C dX8_rest_46 fl_X8_73 rfl (by decide) sh_0 (by decide) rfl ?_
        refine rw_iload_n C dX8_rest_49 rfl 1 rfl ?_
        refine rw_callVi (As := [.int a1]) (k0 := 158) C hR dX8_rest_50 cv_X8_221 (k_X0_isRest g.2.1 κ a1 M1) (by decide) (by decide) (by decide) sh_158 rfl rfl (Nat.le_of_ble_eq_true rfl) rfl (fun x4 M2 => ?_)
        refine rw_if_eq (tgt := 60) C dX8_rest_53 (by decide) ?_ ?_
        · refine rw_iconst (c := 0) C dX8_rest_60 ci_0 ?_
          exact rw_iret C dX8_rest_61
        · refine rw_iconst (c := 1) C dX8_rest_56 ci_1 ?_
          refine rw_goto (tgt := 61) C dX8_rest_57 (by decide) ?_
          exact rw_iret C dX8_rest_61
      · refine rw_bipush (c := (-2)) C dX8_rest_42 (by decide) ?_
        exact rw_iret C dX8_rest_44
    · refine rw_bipush (c := (-3)) C dX8_rest_28 (by decide) ?_
      exact rw_iret C dX8_rest_30
  · refine rw_bipush (c := (-2)) C dX8_rest_11 (by decide) ?_
    exact rw_iret C dX8_rest_13
def f_X8_rests (M : pv_M) : Option (Int32 × pv_M) := pv_cal (f_X8_settle M) (fun u1 M1 => pv_cal (f_X0_restfulRows M1) (fun x1 M2 => some (x1, M2)))
set_option maxHeartbeats 4000000 in
set_option maxRecDepth 100000 in
theorem k_X8_rests (l : Launch) (κ : pv_K) (M : pv_M) : pv_Mt l yX8_rests cX8_rests 1 (some .int) 25 κ [.ref (κ.1 + 0)] M pv_ji (f_X8_rests M) := by
  refine pv_enter (by decide +kernel) (Nat.le_of_ble_eq_true rfl) (fun g hl hR C => ?_)
  have C : pv_Ok g κ 1 cX8_rests RX8 (some .int) := C
  show pv_R g κ pv_T pv_RF 1 0 0 (pv_QF g κ pv_ji) 0 [(0, .ref (κ.1 + 0))] [] M (f_X8_rests M)
  unfold f_X8_rests
  refine rw_aload_n C dX8_rests_0 rfl 0 rfl ?_
  refine rw_callVu (As := []) (k0 := 0) C hR dX8_rests_1 cv_X8_143 (k_X8_settle g.2.1 κ M) (by decide) (by decide) (by decide) sh_0 rfl rfl (Nat.le_of_ble_eq_true rfl) rfl (fun u1 M1 => ?_)
  refine rw_aload_n C dX8_rests_4 rfl 0 rfl ?_
  refine rw_getR (k0 := 0) (k1 := 158) C dX8_rests_5 fl_X8_73 rfl (by decide) sh_0 (by decide) rfl ?_
  refine rw_callVi (As := []) (k0 := 158) C hR dX8_rests_8 cv_X8_224 (k_X0_restfulRows g.2.1 κ M1) (by decide) (by decide) (by decide) sh_158 rfl rfl (Nat.le_of_ble_eq_true rfl) rfl (fun x1 M2 => ?_)
  exact rw_iret C dX8_rests_11
def f_X8_wins (a1 : Int32) (a2 : Int32) (M : pv_M) : Option (Int32 × pv_M) := pv_cal (f_X8_settle M) (fun u1 M1 => pv_cap (f_X8_isParty a1 M1) (fun x1 => (if x1 = 0 then some ((-2), M1) else pv_cap (f_X8_isWithin a2 0 1 M1) (fun x2 => (if x2 = 0 then some ((-2), M1) else (if a2 = 0 then pv_cal (f_X0_winningTicket a1 M1) (fun x4 M3 => some (x4, M3)) else pv_cal (f_X0_winningUnlikeness a1 M1) (fun x3 M2 => some (x3, M2))))))))
set_option maxHeartbeats 4000000 in
set_option maxRecDepth 100000 in
theorem k_X8_wins (l : Launch) (κ : pv_K) (a1 : Int32) (a2 : Int32) (M : pv_M) : pv_Mt l yX8_wins cX8_wins 3 (some .int) 5 κ [.ref (κ.1 + 0), .int a1, .int a2] M pv_ji (f_X8_wins a1 a2 M) := by
  refine pv_enter (by decide +kernel) (Nat.le_of_ble_eq_true rfl) (fun g hl hR C => ?_)
  have C : pv_Ok g κ 3 cX8_wins RX8 (some .int) := C
  show pv_R g κ pv_T pv_RF 3 0 0 (pv_QF g κ pv_ji) 0 [(0, .ref (κ.1 + 0)), (1, .int a1), (2, .int a2)] [] M (f_X8_wins a1 a2 M)
  unfold f_X8_wins
  refine rw_aload_n C dX8_wins_0 rfl 0 rfl ?_
  refine rw_callVu (As := []) (k0 := 0) C hR dX8_wins_1 cv_X8_143 (k_X8_settle g.2.1 κ M) (by decide) (by decide) (by decide) sh_0 rfl rfl (Nat.le_of_ble_eq_true rfl) rfl (fun u1 M1 => ?_)
  refine rw_aload_n C dX8_wins_4 rfl 0 rfl ?_
  refine rw_iload_n C dX8_wins_5 rfl 1 rfl ?_
  refine rw_callVPi (As := [.int a1]) (k0 := 0) C hR dX8_wins_6 cv_X8_149 (k_X8_isParty g.2.1 κ a1 M1) (by decide) (by decide) (by decide) sh_0 rfl rfl (Nat.le_of_ble_eq_true rfl) rfl (fun x1 => ?_)
  refine rw_if_eq (tgt := 21) C dX8_wins_9 (by decide) ?_ ?_
  · refine rw_bipush (c := (-2)) C dX8_wins_21 (by decide) ?_
    exact rw_iret C dX8_wins_23
  · refine rw_iload_n C dX8_wins_12 rfl 2 rfl ?_
    refine rw_iconst (c := 0) C dX8_wins_13 ci_0 ?_
    refine rw_iconst (c := 1) C dX8_wins_14 ci_1 ?_
    refine rw_callSPi (As := [.int a2, .int 0, .int 1]) C hR dX8_wins_15 cs_X8_120 (k_X8_isWithin g.2.1 κ a2 0 1 M1) (by decide) (by decide) rfl (Nat.le_of_ble_eq_true rfl) rfl (fun x2 => ?_)
    refine rw_if_ne (tgt := 24) C dX8_wins_18 (by decide) ?_ ?_
    · refine rw_iload_n C dX8_wins_24 rfl 2 rfl ?_
      refine rw_if_ne (tgt := 39) C dX8_wins_25 (by decide) ?_ ?_
      · refine rw_aload_n C dX8_wins_39 rfl 0 rfl ?_
        refine rw_getR (k0 := 0) (k1 := 158) C dX8_wins_40 fl_X8_73 rfl (by decide) sh_0 (by decide) rfl ?_
        refine rw_iload_n C dX8_wins_43 rfl 1 rfl ?_
        refine rw_callVi (As := [.int a1]) (k0 := 158) C hR dX8_wins_44 cv_X8_230 (k_X0_winningUnlikeness g.2.1 κ a1 M1) (by decide) (by decide) (by decide) sh_158 rfl rfl (Nat.le_of_ble_eq_true rfl) rfl (fun x3 M2 => ?_)
        exact rw_iret C dX8_wins_47
      · refine rw_aload_n C dX8_wins_28 rfl 0 rfl ?_
        refine rw_getR (k0 := 0) (k1 := 158) C dX8_wins_29 fl_X8_73 rfl (by decide) sh_0 (by decide) rfl ?_
        refine rw_iload_n C dX8_wins_32 rfl 1 rfl ?_
        refine rw_callVi (As := [.int a1]) (k0 := 158) C hR dX8_wins_33 cv_X8_227 (k_X0_winningTicket g.2.1 κ a1 M1) (by decide) (by decide) (by decide) sh_158 rfl rfl (Nat.le_of_ble_eq_true rfl) rfl (fun x4 M3 => ?_)
        refine rw_goto (tgt := 47) C dX8_wins_36 (by decide) ?_
        exact rw_iret C dX8_wins_47
    · refine rw_bipush (c := (-2)) C dX8_wins_21 (by decide) ?_
      exact rw_iret C dX8_wins_23
def f_X8_hedge (a1 : Int32) (M : pv_M) : Option (Int32 × pv_M) := pv_cal (f_X8_settle M) (fun u1 M1 => pv_cap (f_X8_isOnRoll a1 M1) (fun x1 => (if x1 = 0 then some ((-2), M1) else pv_cal (f_X0_evenHolding a1 M1) (fun x2 M2 => some (x2, M2)))))
set_option maxHeartbeats 4000000 in
set_option maxRecDepth 100000 in
theorem k_X8_hedge (l : Launch) (κ : pv_K) (a1 : Int32) (M : pv_M) : pv_Mt l yX8_hedge cX8_hedge 2 (some .int) 5 κ [.ref (κ.1 + 0), .int a1] M pv_ji (f_X8_hedge a1 M) := by
  refine pv_enter (by decide +kernel) (Nat.le_of_ble_eq_true rfl) (fun g hl hR C => ?_)
  have C : pv_Ok g κ 2 cX8_hedge RX8 (some .int) := C
  show pv_R g κ pv_T pv_RF 2 0 0 (pv_QF g κ pv_ji) 0 [(0, .ref (κ.1 + 0)), (1, .int a1)] [] M (f_X8_hedge a1 M)
  unfold f_X8_hedge
  refine rw_aload_n C dX8_hedge_0 rfl 0 rfl ?_
  refine rw_callVu (As := []) (k0 := 0) C hR dX8_hedge_1 cv_X8_143 (k_X8_settle g.2.1 κ M) (by decide) (by decide) (by decide) sh_0 rfl rfl (Nat.le_of_ble_eq_true rfl) rfl (fun u1 M1 => ?_)
  refine rw_aload_n C dX8_hedge_4 rfl 0 rfl ?_
  refine rw_iload_n C dX8_hedge_5 rfl 1 rfl ?_
  refine rw_callVPi (As := [.int a1]) (k0 := 0) C hR dX8_hedge_6 cv_X8_159 (k_X8_isOnRoll g.2.1 κ a1 M1) (by decide) (by decide) (by decide) sh_0 rfl rfl (Nat.le_of_ble_eq_true rfl) rfl (fun x1 => ?_)
  refine rw_if_ne (tgt := 15) C dX8_hedge_9 (by decide) ?_ ?_
  · refine rw_aload_n C dX8_hedge_15 rfl 0 rfl ?_
    refine rw_getR (k0 := 0) (k1 := 158) C dX8_hedge_16 fl_X8_73 rfl (by decide) sh_0 (by decide) rfl ?_
    refine rw_iload_n C dX8_hedge_19 rfl 1 rfl ?_
    refine rw_callVi (As := [.int a1]) (k0 := 158) C hR dX8_hedge_20 cv_X8_233 (k_X0_evenHolding g.2.1 κ a1 M1) (by decide) (by decide) (by decide) sh_158 rfl rfl (Nat.le_of_ble_eq_true rfl) rfl (fun x2 M2 => ?_)
    exact rw_iret C dX8_hedge_23
  · refine rw_bipush (c := (-2)) C dX8_hedge_12 (by decide) ?_
    exact rw_iret C dX8_hedge_14
