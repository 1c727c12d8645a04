def f_X0_players (M : pv_M) : Option Int32 := pv_nm (M.1 39 1) (fun x1 => (if 6 ≤ x1 then some 6 else pv_nm (M.1 39 1) (fun x2 => some x2)))
set_option maxHeartbeats 4000000 in
set_option maxRecDepth 100000 in
theorem k_X0_players (l : Launch) (κ : pv_K) (M : pv_M) : pv_MtP l yX0_players cX0_players 1 (some .int) 0 κ [.ref (κ.1 + 158)] M pv_ji (f_X0_players M) := by
  refine pv_enterP (by decide +kernel) (Nat.le_of_ble_eq_true rfl) (fun g hl hR C => ?_)
  have C : pv_Ok g κ 1 cX0_players RX0 (some .int) := C
  show pv_R g κ pv_T pv_RF 1 0 0 (pv_QP g κ pv_ji M) 0 [(0, .ref (κ.1 + 158))] [] M (f_X0_players M)
  unfold f_X0_players
  refine rw_aload_n C dX0_players_0 rfl 0 rfl ?_
  refine rw_getR (k0 := 158) (k1 := 39) C dX0_players_1 fl_X0_44 rfl (by decide) sh_158 (by decide) rfl ?_
  refine rw_getI (k0 := 39) C dX0_players_4 fl_X0_48 rfl (by decide) sh_39 (by decide) (fun x1 => ?_)
  refine rw_bipush (c := 6) C dX0_players_7 (by decide) ?_
  refine rw_icmp_ge (tgt := 22) C dX0_players_9 (by decide) ?_ ?_
  · refine rw_bipush (c := 6) C dX0_players_22 (by decide) ?_
    exact rw_iretP C dX0_players_24
  · refine rw_aload_n C dX0_players_12 rfl 0 rfl ?_
    refine rw_getR (k0 := 158) (k1 := 39) C dX0_players_13 fl_X0_44 rfl (by decide) sh_158 (by decide) rfl ?_
    refine rw_getI (k0 := 39) C dX0_players_16 fl_X0_48 rfl (by decide) sh_39 (by decide) (fun x2 => ?_)
    refine rw_goto (tgt := 24) C dX0_players_19 (by decide) ?_
    exact rw_iretP C dX0_players_24
def f_X0_toldParty (a1 : Int32) (a2 : Int32) (M : pv_M) : Option Int32 := some ((a1 >>> ((2 * a2) &&& 31)) &&& 3)
set_option maxHeartbeats 4000000 in
set_option maxRecDepth 100000 in
theorem k_X0_toldParty (l : Launch) (κ : pv_K) (a1 : Int32) (a2 : Int32) (M : pv_M) : pv_MtP l yX0_toldParty cX0_toldParty 2 (some .int) 0 κ [.int a1, .int a2] M pv_ji (f_X0_toldParty a1 a2 M) := by
  refine pv_enterP (by decide +kernel) (Nat.le_of_ble_eq_true rfl) (fun g hl hR C => ?_)
  have C : pv_Ok g κ 2 cX0_toldParty RX0 (some .int) := C
  show pv_R g κ pv_T pv_RF 2 0 0 (pv_QP g κ pv_ji M) 0 [(0, .int a1), (1, .int a2)] [] M (f_X0_toldParty a1 a2 M)
  unfold f_X0_toldParty
  refine rw_iload_n C dX0_toldParty_0 rfl 0 rfl ?_
  refine rw_iconst (c := 2) C dX0_toldParty_1 ci_2 ?_
  refine rw_iload_n C dX0_toldParty_2 rfl 1 rfl ?_
  refine rw_imul C dX0_toldParty_3 ?_
  refine rw_ishr C dX0_toldParty_4 ?_
  refine rw_iconst (c := 3) C dX0_toldParty_5 ci_3 ?_
  refine rw_iand C dX0_toldParty_6 ?_
  exact rw_iretP C dX0_toldParty_7
def f_X0_isTold_L7 (x1 : Int32) (a1 : Int32) (M : pv_M) (rec1 : Int32 → Option Int32) (x2 : Int32) : Option Int32 := (if x1 ≤ x2 then some 1 else pv_cap (f_X0_toldParty a1 x2 M) (fun x3 => pv_nm (M.1 39 0) (fun x4 => (if x3 < x4 then rec1 (x2 + 1) else some 0))))
def f_X0_isTold (a1 : Int32) (M : pv_M) : Option Int32 := pv_cap (f_X0_players M) (fun x1 => pv_lp1 (f_X0_isTold_L7 x1 a1 M) pv_FU 0)
set_option maxHeartbeats 4000000 in
set_option maxRecDepth 100000 in
theorem k_X0_isTold (l : Launch) (κ : pv_K) (a1 : Int32) (M : pv_M) : pv_MtP l yX0_isTold cX0_isTold 4 (some .boolean) 1 κ [.ref (κ.1 + 158), .int a1] M pv_ji (f_X0_isTold a1 M) := by
  refine pv_enterP (by decide +kernel) (Nat.le_of_ble_eq_true rfl) (fun g hl hR C => ?_)
  have C : pv_Ok g κ 4 cX0_isTold RX0 (some .boolean) := C
  show pv_R g κ pv_T pv_RF 4 0 0 (pv_QP g κ pv_ji M) 0 [(0, .ref (κ.1 + 158)), (1, .int a1)] [] M (f_X0_isTold a1 M)
  unfold f_X0_isTold
  refine rw_aload_n C dX0_isTold_0 rfl 0 rfl ?_
  refine rw_callVPi (As := []) (k0 := 158) C hR dX0_isTold_1 cv_X0_54 (k_X0_players g.2.1 κ M) (by decide) (by decide) (by decide) sh_158 rfl rfl (Nat.le_of_ble_eq_true rfl) rfl (fun x1 => ?_)
  refine rw_istore_n (lv' := [(2, .int x1), (0, .ref (κ.1 + 158)), (1, .int a1)]) C dX0_isTold_4 rfl (by decide) rfl ?_
  refine rw_iconst (c := 0) C dX0_isTold_5 ci_0 ?_
  refine rw_istore_n (lv' := [(3, .int 0), (2, .int x1), (0, .ref (κ.1 + 158)), (1, .int a1)]) C dX0_isTold_6 rfl (by decide) rfl ?_
  refine rw_lv (lv' := [(0, .ref (κ.1 + 158)), (1, .int a1), (2, .int x1), (3, .int 0)]) [2, 3, 1, 0] rfl ?_
  refine pv_lp1_ind (fun x2 xx => pv_R g κ pv_T pv_RF 4 0 0 (pv_QP g κ pv_ji M) 7 [(0, .ref (κ.1 + 158)), (1, .int a1), (2, .int x1), (3, .int x2)] [] M xx) (fun _ => rw_none) (fun rec1 hrec1 x2 => ?_) _ _
  unfold f_X0_isTold_L7
  refine rw_iload_n C dX0_isTold_7 rfl 3 rfl ?_
  refine rw_iload_n C dX0_isTold_8 rfl 2 rfl ?_
  refine rw_icmp_ge (tgt := 35) C dX0_isTold_9 (by decide) ?_ ?_
  · refine rw_iconst (c := 1) C dX0_isTold_35 ci_1 ?_
    exact rw_zretP (Or.inr rfl) C dX0_isTold_36
  · refine rw_iload_n C dX0_isTold_12 rfl 1 rfl ?_
    refine rw_iload_n C dX0_isTold_13 rfl 3 rfl ?_
    refine rw_callSPi (As := [.int a1, .int x2]) C hR dX0_isTold_14 cs_X0_58 (k_X0_toldParty g.2.1 κ a1 x2 M) (by decide) (by decide) rfl (Nat.le_of_ble_eq_true rfl) rfl (fun x3 => ?_)
    refine rw_aload_n C dX0_isTold_17 rfl 0 rfl ?_
    refine rw_getR (k0 := 158) (k1 := 39) C dX0_isTold_18 fl_X0_44 rfl (by decide) sh_158 (by decide) rfl ?_
    refine rw_getI (k0 := 39) C dX0_isTold_21 fl_X0_62 rfl (by decide) sh_39 (by decide) (fun x4 => ?_)
    refine rw_icmp_lt (tgt := 29) C dX0_isTold_24 (by decide) ?_ ?_
    · refine rw_iinc (c := 1) (lv' := [(3, .int (x2 + 1)), (0, .ref (κ.1 + 158)), (1, .int a1), (2, .int x1)]) C dX0_isTold_29 3 rfl (by decide) (by decide) rfl ?_
      refine rw_goto (tgt := 7) C dX0_isTold_32 (by decide) ?_
      exact rw_lv [1, 2, 3, 0] rfl (hrec1 (x2 + 1))
    · refine rw_iconst (c := 0) C dX0_isTold_27 ci_0 ?_
      exact rw_zretP (Or.inl rfl) C dX0_isTold_28
def f_J7_fill_53178_L5 (x1 : Int32) (r1 : Nat) (a2 : Int32) (rec1 : Int32 → pv_M → Option (Unit × pv_M)) (x2 : Int32) (M1 : pv_M) : Option (Unit × pv_M) := (if x1 ≤ x2 then some ((), M1) else pv_stI pv_T r1 x2 a2 M1 (fun M2 => rec1 (x2 + 1) M2))
def f_J7_fill_53178 (r1 : Nat) (a2 : Int32) (M : pv_M) : Option (Unit × pv_M) := pv_len pv_T r1 (fun x1 => pv_lp2 (f_J7_fill_53178_L5 x1 r1 a2) pv_FU 0 M)
set_option maxHeartbeats 4000000 in
set_option maxRecDepth 100000 in
theorem k_J7_fill_53178 (l : Launch) (κ : pv_K) (r1 : Nat) (a2 : Int32) (M : pv_M) : pv_Mt l yJ7_fill_53178 cJ7_fill_53178 4 none 0 κ [.ref (κ.1 + r1), .int a2] M pv_ju (f_J7_fill_53178 r1 a2 M) := by
  refine pv_enter (by decide +kernel) (Nat.le_of_ble_eq_true rfl) (fun g hl hR C => ?_)
  have C : pv_Ok g κ 4 cJ7_fill_53178 RJ7 none := C
  show pv_R g κ pv_T pv_RF 4 0 0 (pv_QF g κ pv_ju) 0 [(0, .ref (κ.1 + r1)), (1, .int a2)] [] M (f_J7_fill_53178 r1 a2 M)
  unfold f_J7_fill_53178
  refine rw_iconst (c := 0) C dJ7_fill_53178_0 ci_0 ?_
  refine rw_istore_n (lv' := [(2, .int 0), (0, .ref (κ.1 + r1)), (1, .int a2)]) C dJ7_fill_53178_1 rfl (by decide) rfl ?_
  refine rw_aload_n C dJ7_fill_53178_2 rfl 1 rfl ?_
  refine rw_len C dJ7_fill_53178_3 (fun x1 => ?_)
  refine rw_istore_n (lv' := [(3, .int x1), (2, .int 0), (0, .ref (κ.1 + r1)), (1, .int a2)]) C dJ7_fill_53178_4 rfl (by decide) rfl ?_
  refine rw_lv (lv' := [(0, .ref (κ.1 + r1)), (1, .int a2), (2, .int 0), (3, .int x1)]) [2, 3, 1, 0] rfl ?_
  refine pv_lp2_ind (fun x2 M1 xx => pv_R g κ pv_T pv_RF 4 0 0 (pv_QF g κ pv_ju) 5 [(0, .ref (κ.1 + r1)), (1, .int a2), (2, .int x2), (3, .int x1)] [] M1 xx) (fun _ _ => rw_none) (fun rec1 hrec1 x2 M1 => ?_) _ _ _
  unfold f_J7_fill_53178_L5
  refine rw_iload_n C dJ7_fill_53178_5 rfl 2 rfl ?_
  refine rw_iload_n C dJ7_fill_53178_6 rfl 3 rfl ?_
  refine rw_icmp_ge (tgt := 20) C dJ7_fill_53178_7 (by decide) ?_ ?_
  · exact rw_vret C dJ7_fill_53178_20
  · refine rw_aload_n C dJ7_fill_53178_10 rfl 0 rfl ?_
    refine rw_iload_n C dJ7_fill_53178_11 rfl 2 rfl ?_
    refine rw_iload_n C dJ7_fill_53178_12 rfl 1 rfl ?_
    refine rw_stI C dJ7_fill_53178_13 (fun M2 => ?_)
    refine rw_iinc (c := 1) (lv' := [(2, .int (x2 + 1)), (0, .ref (κ.1 + r1)), (1, .int a2), (3, .int x1)]) C dJ7_fill_53178_14 2 rfl (by decide) (by decide) rfl ?_
    refine rw_goto (tgt := 5) C dJ7_fill_53178_17 (by decide) ?_
    exact rw_lv [1, 2, 0, 3] rfl (hrec1 (x2 + 1) M2)
def f_X2_gain (a1 : Int32) (a2 : Int32) (a3 : Int32) (M : pv_M) : Option Int32 := pv_ldI pv_T 52 a1 M (fun x1 => pv_ldR pv_T 40 a2 (fun k1 => pv_ldI pv_T 51 a1 M (fun x2 => pv_ldI pv_T k1 ((a3 * 3) + x2) M (fun x3 => some (x1 * x3)))))
set_option maxHeartbeats 4000000 in
set_option maxRecDepth 100000 in
theorem k_X2_gain (l : Launch) (κ : pv_K) (a1 : Int32) (a2 : Int32) (a3 : Int32) (M : pv_M) : pv_MtP l yX2_gain cX2_gain 4 (some .int) 0 κ [.ref (κ.1 + 39), .int a1, .int a2, .int a3] M pv_ji (f_X2_gain a1 a2 a3 M) := by
  refine pv_enterP (by decide +kernel) (Nat.le_of_ble_eq_true rfl) (fun g hl hR C => ?_)
  have C : pv_Ok g κ 4 cX2_gain RX2 (some .int) := C
  show pv_R g κ pv_T pv_RF 4 0 0 (pv_QP g κ pv_ji M) 0 [(0, .ref (κ.1 + 39)), (1, .int a1), (2, .int a2), (3, .int a3)] [] M (f_X2_gain a1 a2 a3 M)
  unfold f_X2_gain
  refine rw_aload_n C dX2_gain_0 rfl 0 rfl ?_
  refine rw_getR (k0 := 39) (k1 := 52) C dX2_gain_1 fl_X2_20 rfl (by decide) sh_39 (by decide) rfl ?_
  refine rw_iload_n C dX2_gain_4 rfl 1 rfl ?_
  refine rw_ldI C dX2_gain_5 (fun x1 => ?_)
  refine rw_aload_n C dX2_gain_6 rfl 0 rfl ?_
  refine rw_getR (k0 := 39) (k1 := 40) C dX2_gain_7 fl_X2_11 rfl (by decide) sh_39 (by decide) rfl ?_
  refine rw_iload_n C dX2_gain_10 rfl 2 rfl ?_
  refine rw_ldR C dX2_gain_11 (fun k1 => ?_)
  refine rw_iload_n C dX2_gain_12 rfl 3 rfl ?_
  refine rw_iconst (c := 3) C dX2_gain_13 ci_3 ?_
  refine rw_imul C dX2_gain_14 ?_
  refine rw_aload_n C dX2_gain_15 rfl 0 rfl ?_
  refine rw_getR (k0 := 39) (k1 := 51) C dX2_gain_16 fl_X2_16 rfl (by decide) sh_39 (by decide) rfl ?_
  refine rw_iload_n C dX2_gain_19 rfl 1 rfl ?_
  refine rw_ldI C dX2_gain_20 (fun x2 => ?_)
  refine rw_iadd C dX2_gain_21 ?_
  refine rw_ldI C dX2_gain_22 (fun x3 => ?_)
  refine rw_imul C dX2_gain_23 ?_
  exact rw_iretP C dX2_gain_24
def f_X2_fillGains_L3 (a1 : Int32) (a2 : Int32) (r3 : Nat) (rec1 : Int32 → pv_M → Option (Unit × pv_M)) (x1 : Int32) (M1 : pv_M) : Option (Unit × pv_M) := pv_nm (M1.1 39 0) (fun x2 => (if x2 ≤ x1 then some ((), M1) else pv_cap (f_X2_gain a1 a2 x1 M1) (fun x3 => pv_stI pv_T r3 x1 x3 M1 (fun M2 => rec1 (x1 + 1) M2))))
def f_X2_fillGains (a1 : Int32) (a2 : Int32) (r3 : Nat) (M : pv_M) : Option (Unit × pv_M) := pv_lp2 (f_X2_fillGains_L3 a1 a2 r3) pv_FU 0 M
set_option maxHeartbeats 4000000 in
set_option maxRecDepth 100000 in
theorem k_X2_fillGains (l : Launch) (κ : pv_K) (a1 : Int32) (a2 : Int32) (r3 : Nat) (M : pv_M) : pv_Mt l yX2_fillGains cX2_fillGains 5 none 1 κ [.ref (κ.1 + 39), .int a1, .int a2, .ref (κ.1 + r3)] M pv_ju (f_X2_fillGains a1 a2 r3 M) := by
  refine pv_enter (by decide +kernel) (Nat.le_of_ble_eq_true rfl) (fun g hl hR C => ?_)
  have C : pv_Ok g κ 5 cX2_fillGains RX2 none := C
  show pv_R g κ pv_T pv_RF 5 0 0 (pv_QF g κ pv_ju) 0 [(0, .ref (κ.1 + 39)), (1, .int a1), (2, .int a2), (3, .ref (κ.1 + r3))] [] M (f_X2_fillGains a1 a2 r3 M)
  unfold f_X2_fillGains
  refine rw_iconst (c := 0) C dX2_fillGains_0 ci_0 ?_
  refine rw_istore (lv' := [(4, .int 0), (0, .ref (κ.1 + 39)), (1, .int a1), (2, .int a2), (3, .ref (κ.1 + r3))]) C dX2_fillGains_1 (by decide) rfl ?_
  refine rw_lv (lv' := [(0, .ref (κ.1 + 39)), (1, .int a1), (2, .int a2), (3, .ref (κ.1 + r3)), (4, .int 0)]) [1, 2, 3, 4, 0] rfl ?_
  refine pv_lp2_ind (fun x1 M1 xx => pv_R g κ pv_T pv_RF 5 0 0 (pv_QF g κ pv_ju) 3 [(0, .ref (κ.1 + 39)), (1, .int a1), (2, .int a2), (3, .ref (κ.1 + r3)), (4, .int x1)] [] M1 xx) (fun _ _ => rw_none) (fun rec1 hrec1 x1 M1 => ?_) _ _ _
  unfold f_X2_fillGains_L3
  refine rw_iload C dX2_fillGains_3 4 rfl ?_
  refine rw_aload_n C dX2_fillGains_5 rfl 0 rfl ?_
  refine rw_getI (k0 := 39) C dX2_fillGains_6 fl_X2_33 rfl (by decide) sh_39 (by decide) (fun x2 => ?_)
  refine rw_icmp_ge (tgt := 30) C dX2_fillGains_9 (by decide) ?_ ?_
  · exact rw_vret C dX2_fillGains_30
  · refine rw_aload_n C dX2_fillGains_12 rfl 3 rfl ?_
    refine rw_iload C dX2_fillGains_13 4 rfl ?_
    refine rw_aload_n C dX2_fillGains_15 rfl 0 rfl ?_
    refine rw_iload_n C dX2_fillGains_16 rfl 1 rfl ?_
    refine rw_iload_n C dX2_fillGains_17 rfl 2 rfl ?_
    refine rw_iload C dX2_fillGains_18 4 rfl ?_
    refine rw_callVPi (As := [.int a1, .int a2, .int x1]) (k0 := 39) C hR dX2_fillGains_20 cv_X2_63 (k_X2_gain g.2.1 κ a1 a2 x1 M1) (by decide) (by decide) (by decide) sh_39 rfl rfl (Nat.le_of_ble_eq_true rfl) rfl (fun x3 => ?_)
    refine rw_stI C dX2_fillGains_23 (fun M2 => ?_)
    refine rw_iinc (c := 1) (lv' := [(4, .int (x1 + 1)), (0, .ref (κ.1 + 39)), (1, .int a1), (2, .int a2), (3, .ref (κ.1 + r3))]) C dX2_fillGains_24 4 rfl (by decide) (by decide) rfl ?_
    refine rw_goto (tgt := 3) C dX2_fillGains_27 (by decide) ?_
    exact rw_lv [1, 2, 3, 4, 0] rfl (hrec1 (x1 + 1) M2)
def f_X8_greatest_L6 (a3 : Int32) (r1 : Nat) (a2 : Int32) (M : pv_M) (rec1 : Int32 → Int32 → Option Int32) (x1 : Int32) (x2 : Int32) : Option Int32 := (if a3 ≤ x2 then some x1 else (if x1 = ((-1)) then rec1 x2 (x2 + 1) else pv_ldI pv_T r1 (a2 + x2) M (fun x3 => pv_ldI pv_T r1 (a2 + x1) M (fun x4 => (if x3 ≤ x4 then rec1 x1 (x2 + 1) else rec1 x2 (x2 + 1))))))
def f_X8_greatest (r1 : Nat) (a2 : Int32) (a3 : Int32) (a4 : Int32) (M : pv_M) : Option Int32 := pv_lp2 (f_X8_greatest_L6 a3 r1 a2 M) pv_FU a4 0
set_option maxHeartbeats 4000000 in
set_option maxRecDepth 100000 in
theorem k_X8_greatest (l : Launch) (κ : pv_K) (r1 : Nat) (a2 : Int32) (a3 : Int32) (a4 : Int32) (M : pv_M) : pv_MtP l yX8_greatest cX8_greatest 6 (some .int) 0 κ [.ref (κ.1 + r1), .int a2, .int a3, .int a4] M pv_ji (f_X8_greatest r1 a2 a3 a4 M) := by
  refine pv_enterP (by decide +kernel) (Nat.le_of_ble_eq_true rfl) (fun g hl hR C => ?_)
  have C : pv_Ok g κ 6 cX8_greatest RX8 (some .int) := C
  show pv_R g κ pv_T pv_RF 6 0 0 (pv_QP g κ pv_ji M) 0 [(0, .ref (κ.1 + r1)), (1, .int a2), (2, .int a3), (3, .int a4)] [] M (f_X8_greatest r1 a2 a3 a4 M)
  unfold f_X8_greatest
  refine rw_iload_n C dX8_greatest_0 rfl 3 rfl ?_
  refine rw_istore (lv' := [(4, .int a4), (0, .ref (κ.1 + r1)), (1, .int a2), (2, .int a3), (3, .int a4)]) C dX8_greatest_1 (by decide) rfl ?_
  refine rw_iconst (c := 0) C dX8_greatest_3 ci_0 ?_
  refine rw_istore (lv' := [(5, .int 0), (4, .int a4), (0, .ref (κ.1 + r1)), (1, .int a2), (2, .int a3), (3, .int a4)]) C dX8_greatest_4 (by decide) rfl ?_
  refine rw_lv (lv' := [(0, .ref (κ.1 + r1)), (1, .int a2), (2, .int a3), (4, .int a4), (5, .int 0)]) [2, 3, 4, 1, 0] rfl ?_
  refine pv_lp2_ind (fun x1 x2 xx => pv_R g κ pv_T pv_RF 6 0 0 (pv_QP g κ pv_ji M) 6 [(0, .ref (κ.1 + r1)), (1, .int a2), (2, .int a3), (4, .int x1), (5, .int x2)] [] M xx) (fun _ _ => rw_none) (fun rec1 hrec1 x1 x2 => ?_) _ _ _
  unfold f_X8_greatest_L6
  refine rw_iload C dX8_greatest_6 4 rfl ?_
  refine rw_iload_n C dX8_greatest_8 rfl 2 rfl ?_
  refine rw_icmp_ge (tgt := 43) C dX8_greatest_9 (by decide) ?_ ?_
  · refine rw_iload C dX8_greatest_43 3 rfl ?_
    exact rw_iretP C dX8_greatest_45
  · refine rw_iload C dX8_greatest_12 3 rfl ?_
    refine rw_iconst (c := (-1)) C dX8_greatest_14 ci_m1 ?_
    refine rw_icmp_eq (tgt := 33) C dX8_greatest_15 (by decide) ?_ ?_
    · refine rw_iload C dX8_greatest_33 4 rfl ?_
      refine rw_istore (lv' := [(4, .int x2), (0, .ref (κ.1 + r1)), (1, .int a2), (2, .int a3), (5, .int x2)]) C dX8_greatest_35 (by decide) rfl ?_
      refine rw_iinc (c := 1) (lv' := [(5, .int (x2 + 1)), (4, .int x2), (0, .ref (κ.1 + r1)), (1, .int a2), (2, .int a3)]) C dX8_greatest_37 4 rfl (by decide) (by decide) rfl ?_
      refine rw_goto (tgt := 6) C dX8_greatest_40 (by decide) ?_
      exact rw_lv [2, 3, 4, 1, 0] rfl (hrec1 x2 (x2 + 1))
    · refine rw_aload_n C dX8_greatest_18 rfl 0 rfl ?_
      refine rw_iload_n C dX8_greatest_19 rfl 1 rfl ?_
      refine rw_iload C dX8_greatest_20 4 rfl ?_
      refine rw_iadd C dX8_greatest_22 ?_
      refine rw_ldI C dX8_greatest_23 (fun x3 => ?_)
      refine rw_aload_n C dX8_greatest_24 rfl 0 rfl ?_
      refine rw_iload_n C dX8_greatest_25 rfl 1 rfl ?_
      refine rw_iload C dX8_greatest_26 3 rfl ?_
      refine rw_iadd C dX8_greatest_28 ?_
      refine rw_ldI C dX8_greatest_29 (fun x4 => ?_)
      refine rw_icmp_le (tgt := 37) C dX8_greatest_30 (by decide) ?_ ?_
      · refine rw_iinc (c := 1) (lv' := [(5, .int (x2 + 1)), (0, .ref (κ.1 + r1)), (1, .int a2), (2, .int a3), (4, .int x1)]) C dX8_greatest_37 4 rfl (by decide) (by decide) rfl ?_
        refine rw_goto (tgt := 6) C dX8_greatest_40 (by decide) ?_
        exact rw_lv [1, 2, 3, 4, 0] rfl (hrec1 x1 (x2 + 1))
      · refine rw_iload C dX8_greatest_33 4 rfl ?_
        refine rw_istore (lv' := [(4, .int x2), (0, .ref (κ.1 + r1)), (1, .int a2), (2, .int a3), (5, .int x2)]) C dX8_greatest_35 (by decide) rfl ?_
        refine rw_iinc (c := 1) (lv' := [(5, .int (x2 + 1)), (4, .int x2), (0, .ref (κ.1 + r1)), (1, .int a2), (2, .int a3)]) C dX8_greatest_37 4 rfl (by decide) (by decide) rfl ?_
        refine rw_goto (tgt := 6) C dX8_greatest_40 (by decide) ?_
        exact rw_lv [2, 3, 4, 1, 0] rfl (hrec1 x2 (x2 + 1))
def f_X0_prepare_L10 (rec1 : Int32 → pv_M → Option (Unit × pv_M)) (x1 : Int32) (M2 : pv_M) : Option (Unit × pv_M) := pv_nm (M2.1 39 1) (fun x2 => (if x2 ≤ x1 then some ((), M2) else (if 6 ≤ x1 then pv_cal (f_X2_fillGains x1 0 159 M2) (fun u2 M3 => pv_nm (M3.1 39 0) (fun x3 => pv_cap (f_X8_greatest 159 0 x3 ((-1)) M3) (fun x4 => pv_ldI pv_T 160 x4 M3 (fun x5 => pv_stI pv_T 160 x4 (x5 + 1) M3 (fun M4 => rec1 (x1 + 1) M4))))) else pv_ldR pv_T 162 x1 (fun k1 => pv_cal (f_X2_fillGains x1 0 k1 M2) (fun u3 M5 => rec1 (x1 + 1) M5)))))
def f_X0_prepare (M : pv_M) : Option (Unit × pv_M) := pv_cal (f_J7_fill_53178 160 0 M) (fun u1 M1 => pv_lp2 f_X0_prepare_L10 pv_FU 0 M1)
set_option maxHeartbeats 4000000 in
set_option maxRecDepth 100000 in
theorem k_X0_prepare (l : Launch) (κ : pv_K) (M : pv_M) : pv_Mt l yX0_prepare cX0_prepare 2 none 2 κ [.ref (κ.1 + 158)] M pv_ju (f_X0_prepare M) := by
  refine pv_enter (by decide +kernel) (Nat.le_of_ble_eq_true rfl) (fun g hl hR C => ?_)
  have C : pv_Ok g κ 2 cX0_prepare RX0 none := C
  show pv_R g κ pv_T pv_RF 2 0 0 (pv_QF g κ pv_ju) 0 [(0, .ref (κ.1 + 158))] [] M (f_X0_prepare M)
  unfold f_X0_prepare
  refine rw_aload_n C dX0_prepare_0 rfl 0 rfl ?_
  refine rw_getR (k0 := 158) (k1 := 160) C dX0_prepare_1 fl_X0_15 rfl (by decide) sh_158 (by decide) rfl ?_
  refine rw_iconst (c := 0) C dX0_prepare_4 ci_0 ?_
  refine rw_callSu (As := [.ref (κ.1 + 160), .int 0]) C hR dX0_prepare_5 cs_X0_84 (k_J7_fill_53178 g.2.1 κ 160 0 M) (by decide) (by decide) rfl (Nat.le_of_ble_eq_true rfl) rfl (fun u1 M1 => ?_)
  refine rw_iconst (c := 0) C dX0_prepare_8 ci_0 ?_
  refine rw_istore_n (lv' := [(1, .int 0), (0, .ref (κ.1 + 158))]) C dX0_prepare_9 rfl (by decide) rfl ?_
  refine rw_lv (lv' := [(0, .ref (κ.1 + 158)), (1, .int 0)]) [1, 0] rfl ?_
  refine pv_lp2_ind (fun x1 M2 xx => pv_R g κ pv_T pv_RF 2 0 0 (pv_QF g κ pv_ju) 10 [(0, .ref (κ.1 + 158)), (1, .int x1)] [] M2 xx) (fun _ _ => rw_none) (fun rec1 hrec1 x1 M2 => ?_) _ _ _
  unfold f_X0_prepare_L10
  refine rw_iload_n C dX0_prepare_10 rfl 1 rfl ?_
  refine rw_aload_n C dX0_prepare_11 rfl 0 rfl ?_
  refine rw_getR (k0 := 158) (k1 := 39) C dX0_prepare_12 fl_X0_44 rfl (by decide) sh_158 (by decide) rfl ?_
  refine rw_getI (k0 := 39) C dX0_prepare_15 fl_X0_48 rfl (by decide) sh_39 (by decide) (fun x2 => ?_)
  refine rw_icmp_ge (tgt := 89) C dX0_prepare_18 (by decide) ?_ ?_
  · exact rw_vret C dX0_prepare_89
  · refine rw_iload_n C dX0_prepare_21 rfl 1 rfl ?_
    refine rw_bipush (c := 6) C dX0_prepare_22 (by decide) ?_
    refine rw_icmp_ge (tgt := 45) C dX0_prepare_24 (by decide) ?_ ?_
    · refine rw_aload_n C dX0_prepare_45 rfl 0 rfl ?_
      refine rw_getR (k0 := 158) (k1 := 39) C dX0_prepare_46 fl_X0_44 rfl (by decide) sh_158 (by decide) rfl ?_
      refine rw_iload_n C dX0_prepare_49 rfl 1 rfl ?_
      refine rw_iconst (c := 0) C dX0_prepare_50 ci_0 ?_
      refine rw_aload_n C dX0_prepare_51 rfl 0 rfl ?_
      refine rw_getR (k0 := 158) (k1 := 159) C dX0_prepare_52 fl_X0_9 rfl (by decide) sh_158 (by decide) rfl ?_
      refine rw_callVu (As := [.int x1, .int 0, .ref (κ.1 + 159)]) (k0 := 39) C hR dX0_prepare_55 cv_X0_90 (k_X2_fillGains g.2.1 κ x1 0 159 M2) (by decide) (by decide) (by decide) sh_39 rfl rfl (Nat.le_of_ble_eq_true rfl) rfl (fun u2 M3 => ?_)
      refine rw_aload_n C dX0_prepare_58 rfl 0 rfl ?_
      refine rw_getR (k0 := 158) (k1 := 160) C dX0_prepare_59 fl_X0_15 rfl (by decide) sh_158 (by decide) rfl ?_
      refine rw_aload_n C dX0_prepare_62 rfl 0 rfl ?_
      refine rw_getR (k0 := 158) (k1 := 159) C dX0_prepare_63 fl_X0_9 rfl (by decide) sh_158 (by decide) rfl ?_
      refine rw_iconst (c := 0) C dX0_prepare_66 ci_0 ?_
      refine rw_aload_n C dX0_prepare_67 rfl 0 rfl ?_
      refine rw_getR (k0 := 158) (k1 := 39) C dX0_prepare_68 fl_X0_44 rfl (by decide) sh_158 (by decide) rfl ?_
      refine rw_getI (k0 := 39) C dX0_prepare_71 fl_X0_62 rfl (by decide) sh_39 (by decide) (fun x3 => ?_)
      refine rw_iconst (c := (-1)) C dX0_prepare_74 ci_m1 ?_
      refine rw_callNPi (As := [.ref (κ.1 + 159), .int 0, .int x3, .int (-1)]) C hR dX0_prepare_75 cn_X0_94 (k_X8_greatest g.2.1 κ 159 0 x3 ((-1)) M3) (by decide) (by decide) rfl (Nat.le_of_ble_eq_true rfl) rfl (fun x4 => ?_)
      refine rw_dup2 C dX0_prepare_78 rfl rfl ?_
      refine rw_ldI C dX0_prepare_79 (fun x5 => ?_)
      refine rw_iconst (c := 1) C dX0_prepare_80 ci_1 ?_
      refine rw_iadd C dX0_prepare_81 ?_
      refine rw_stI C dX0_prepare_82 (fun M4 => ?_)
      refine rw_iinc (c := 1) (lv' := [(1, .int (x1 + 1)), (0, .ref (κ.1 + 158))]) C dX0_prepare_83 1 rfl (by decide) (by decide) rfl ?_
      refine rw_goto (tgt := 10) C dX0_prepare_86 (by decide) ?_
      exact rw_lv [1, 0] rfl (hrec1 (x1 + 1) M4)
    · refine rw_aload_n C dX0_prepare_27 rfl 0 rfl ?_
      refine rw_getR (k0 := 158) (k1 := 39) C dX0_prepare_28 fl_X0_44 rfl (by decide) sh_158 (by decide) rfl ?_
      refine rw_iload_n C dX0_prepare_31 rfl 1 rfl ?_
      refine rw_iconst (c := 0) C dX0_prepare_32 ci_0 ?_
      refine rw_aload_n C dX0_prepare_33 rfl 0 rfl ?_
      refine rw_getR (k0 := 158) (k1 := 162) C dX0_prepare_34 fl_X0_23 rfl (by decide) sh_158 (by decide) rfl ?_
      refine rw_iload_n C dX0_prepare_37 rfl 1 rfl ?_
      refine rw_ldR C dX0_prepare_38 (fun k1 => ?_)
      refine rw_callVu (As := [.int x1, .int 0, .ref (κ.1 + k1)]) (k0 := 39) C hR dX0_prepare_39 cv_X0_90 (k_X2_fillGains g.2.1 κ x1 0 k1 M2) (by decide) (by decide) (by decide) sh_39 rfl rfl (Nat.le_of_ble_eq_true rfl) rfl (fun u3 M5 => ?_)
      refine rw_goto (tgt := 83) C dX0_prepare_42 (by decide) ?_
      refine rw_iinc (c := 1) (lv' := [(1, .int (x1 + 1)), (0, .ref (κ.1 + 158))]) C dX0_prepare_83 1 rfl (by decide) (by decide) rfl ?_
      refine rw_goto (tgt := 10) C dX0_prepare_86 (by decide) ?_
      exact rw_lv [1, 0] rfl (hrec1 (x1 + 1) M5)
def f_X0_isContent_L43 (j1 : Int32 → pv_M → Option (Int32 × pv_M)) (k1 : Nat) (x3 : Int32) (rec1 : Int32 → Int32 → pv_M → Option (Int32 × pv_M)) (x7 : Int32) (x8 : Int32) (M4 : pv_M) : Option (Int32 × pv_M) := pv_nm (M4.1 39 0) (fun x9 => (if x9 ≤ x8 then j1 x7 M4 else (if x7 = 0 then j1 x7 M4 else pv_ldI pv_T 160 x8 M4 (fun x10 => pv_stI pv_T 160 x8 (x10 + 1) M4 (fun M5 => pv_nm (M5.1 39 0) (fun x11 => pv_cap (f_X8_greatest 160 0 x11 ((-1)) M5) (fun x12 => pv_ldI pv_T k1 x12 M5 (fun x13 => pv_jn (fun (x14 : Int32) => pv_ldI pv_T 160 x8 M5 (fun x15 => pv_stI pv_T 160 x8 (x15 - 1) M5 (fun M6 => rec1 x14 (x8 + 1) M6))) (fun j2 => (if x3 < x13 then j2 0 else j2 1))))))))))
def f_X0_isContent (a1 : Int32) (a2 : Int32) (M : pv_M) : Option (Int32 × pv_M) := pv_ldR pv_T 162 a1 (fun k1 => pv_nm (M.1 39 0) (fun x1 => pv_cap (f_X8_greatest 160 0 x1 ((-1)) M) (fun x2 => pv_ldI pv_T k1 x2 M (fun x3 => pv_ldI pv_T 160 a2 M (fun x4 => pv_stI pv_T 160 a2 (x4 - 1) M (fun M1 => pv_jn (fun (x5 : Int32) (M2 : pv_M) => pv_ldI pv_T 160 a2 M2 (fun x6 => pv_stI pv_T 160 a2 (x6 + 1) M2 (fun M3 => (if x5 = 0 ∨ x5 = 1 then some (x5, M3) else none)))) (fun j1 => pv_lp3 (f_X0_isContent_L43 j1 k1 x3) pv_FU 1 0 M1)))))))
set_option maxHeartbeats 4000000 in
set_option maxRecDepth 100000 in
theorem k_X0_isContent (l : Launch) (κ : pv_K) (a1 : Int32) (a2 : Int32) (M : pv_M) : pv_Mt l yX0_isContent cX0_isContent 7 (some .boolean) 1 κ [.ref (κ.1 + 158), .int a1, .int a2] M pv_ji (f_X0_isContent a1 a2 M) := by
  refine pv_enter (by decide +kernel) (Nat.le_of_ble_eq_true rfl) (fun g hl hR C => ?_)
  have C : pv_Ok g κ 7 cX0_isContent RX0 (some .boolean) := C
  show pv_R g κ pv_T pv_RF 7 0 0 (pv_QF g κ pv_ji) 0 [(0, .ref (κ.1 + 158)), (1, .int a1), (2, .int a2)] [] M (f_X0_isContent a1 a2 M)
  unfold f_X0_isContent
  refine rw_aload_n C dX0_isContent_0 rfl 0 rfl ?_
  refine rw_getR (k0 := 158) (k1 := 162) C dX0_isContent_1 fl_X0_23 rfl (by decide) sh_158 (by decide) rfl ?_
  refine rw_iload_n C dX0_isContent_4 rfl 1 rfl ?_
  refine rw_ldR C dX0_isContent_5 (fun k1 => ?_)
  refine rw_astore_n (lv' := [(3, .ref (κ.1 + k1)), (0, .ref (κ.1 + 158)), (1, .int a1), (2, .int a2)]) C dX0_isContent_6 rfl (by decide) rfl ?_
  refine rw_aload_n C dX0_isContent_7 rfl 0 rfl ?_
  refine rw_aload_n C dX0_isContent_8 rfl 1 rfl ?_
  refine rw_getR (k0 := 158) (k1 := 160) C dX0_isContent_9 fl_X0_15 rfl (by decide) sh_158 (by decide) rfl ?_
  refine rw_iconst (c := 0) C dX0_isContent_12 ci_0 ?_
  refine rw_aload_n C dX0_isContent_13 rfl 1 rfl ?_
  refine rw_getR (k0 := 158) (k1 := 39) C dX0_isContent_14 fl_X0_44 rfl (by decide) sh_158 (by decide) rfl ?_
  refine rw_getI (k0 := 39) C dX0_isContent_17 fl_X0_62 rfl (by decide) sh_39 (by decide) (fun x1 => ?_)
  refine rw_iconst (c := (-1)) C dX0_isContent_20 ci_m1 ?_
  refine rw_callNPi (As := [.ref (κ.1 + 160), .int 0, .int x1, .int (-1)]) C hR dX0_isContent_21 cn_X0_94 (k_X8_greatest g.2.1 κ 160 0 x1 ((-1)) M) (by decide) (by decide) rfl (Nat.le_of_ble_eq_true rfl) rfl (fun x2 => ?_)
  refine rw_ldI C dX0_isContent_24 (fun x3 => ?_)
  refine rw_istore (lv' := [(4, .int x3), (3, .ref (κ.1 + k1)), (0, .ref (κ.1 + 158)), (1, .int a1), (2, .int a2)]) C dX0_isContent_25 (by decide) rfl ?_
  refine rw_iconst (c := 1) C dX0_isContent_27 ci_1 ?_
  refine rw_istore (lv' := [(5, .int 1), (4, .int x3), (3, .ref (κ.1 + k1)), (0, .ref (κ.1 + 158)), (1, .int a1), (2, .int a2)]) C dX0_isContent_28 (by decide) rfl ?_
  refine rw_aload_n C dX0_isContent_30 rfl 3 rfl ?_
  refine rw_getR (k0 := 158) (k1 := 160) C dX0_isContent_31 fl_X0_15 rfl (by decide) sh_158 (by decide) rfl ?_
  refine rw_iload_n C dX0_isContent_34 rfl 5 rfl ?_
  refine rw_dup2 C dX0_isContent_35 rfl rfl ?_
  refine rw_ldI C dX0_isContent_36 (fun x4 => ?_)
  refine rw_iconst (c := 1) C dX0_isContent_37 ci_1 ?_
  refine rw_isub C dX0_isContent_38 ?_
  refine rw_stI C dX0_isContent_39 (fun M1 => ?_)
  refine rw_iconst (c := 0) C dX0_isContent_40 ci_0 ?_
  refine rw_istore (lv' := [(6, .int 0), (5, .int 1), (4, .int x3), (3, .ref (κ.1 + k1)), (0, .ref (κ.1 + 158)), (1, .int a1), (2, .int a2)]) C dX0_isContent_41 (by decide) rfl ?_
  refine rw_jn (fun j1 => ∀ (x5 : Int32) (M2 : pv_M), pv_R g κ pv_T pv_RF 7 0 0 (pv_QF g κ pv_ji) 118 [(0, .ref (κ.1 + 158)), (2, .int a2), (5, .int x5)] [] M2 (j1 x5 M2)) (fun x5 M2 => ?_) (fun j1 hj1 => ?_)
  · refine rw_aload_n C dX0_isContent_118 rfl 0 rfl ?_
    refine rw_getR (k0 := 158) (k1 := 160) C dX0_isContent_119 fl_X0_15 rfl (by decide) sh_158 (by decide) rfl ?_
    refine rw_iload_n C dX0_isContent_122 rfl 1 rfl ?_
    refine rw_dup2 C dX0_isContent_123 rfl rfl ?_
    refine rw_ldI C dX0_isContent_124 (fun x6 => ?_)
    refine rw_iconst (c := 1) C dX0_isContent_125 ci_1 ?_
    refine rw_iadd C dX0_isContent_126 ?_
    refine rw_stI C dX0_isContent_127 (fun M3 => ?_)
    refine rw_iload C dX0_isContent_128 2 rfl ?_
    exact rw_zret_ck C dX0_isContent_130
  · refine rw_lv (lv' := [(0, .ref (κ.1 + 158)), (2, .int a2), (3, .ref (κ.1 + k1)), (4, .int x3), (5, .int 1), (6, .int 0)]) [4, 6, 3, 2, 1, 0] rfl ?_
    refine pv_lp3_ind (fun x7 x8 M4 xx => pv_R g κ pv_T pv_RF 7 0 0 (pv_QF g κ pv_ji) 43 [(0, .ref (κ.1 + 158)), (2, .int a2), (3, .ref (κ.1 + k1)), (4, .int x3), (5, .int x7), (6, .int x8)] [] M4 xx) (fun _ _ _ => rw_none) (fun rec1 hrec1 x7 x8 M4 => ?_) _ _ _ _
    unfold f_X0_isContent_L43
    refine rw_iload C dX0_isContent_43 5 rfl ?_
    refine rw_aload_n C dX0_isContent_45 rfl 0 rfl ?_
    refine rw_getR (k0 := 158) (k1 := 39) C dX0_isContent_46 fl_X0_44 rfl (by decide) sh_158 (by decide) rfl ?_
    refine rw_getI (k0 := 39) C dX0_isContent_49 fl_X0_62 rfl (by decide) sh_39 (by decide) (fun x9 => ?_)
    refine rw_icmp_ge (tgt := 118) C dX0_isContent_52 (by decide) ?_ ?_
    · exact rw_lv [0, 1, 4] rfl (hj1 x7 M4)
    · refine rw_iload C dX0_isContent_55 4 rfl ?_
      refine rw_if_eq (tgt := 118) C dX0_isContent_57 (by decide) ?_ ?_
      · exact rw_lv [0, 1, 4] rfl (hj1 x7 M4)
      · refine rw_aload_n C dX0_isContent_60 rfl 0 rfl ?_
        refine rw_getR (k0 := 158) (k1 := 160) C dX0_isContent_61 fl_X0_15 rfl (by decide) sh_158 (by decide) rfl ?_
        refine rw_iload C dX0_isContent_64 5 rfl ?_
        refine rw_dup2 C dX0_isContent_66 rfl rfl ?_
        refine rw_ldI C dX0_isContent_67 (fun x10 => ?_)
        refine rw_iconst (c := 1) C dX0_isContent_68 ci_1 ?_
        refine rw_iadd C dX0_isContent_69 ?_
        refine rw_stI C dX0_isContent_70 (fun M5 => ?_)
        refine rw_aload_n C dX0_isContent_71 rfl 2 rfl ?_
        refine rw_aload_n C dX0_isContent_72 rfl 0 rfl ?_
        refine rw_getR (k0 := 158) (k1 := 160) C dX0_isContent_73 fl_X0_15 rfl (by decide) sh_158 (by decide) rfl ?_
        refine rw_iconst (c := 0) C dX0_isContent_76 ci_0 ?_
        refine rw_aload_n C dX0_isContent_77 rfl 0 rfl ?_
        refine rw_getR (k0 := 158) (k1 := 39) C dX0_isContent_78 fl_X0_44 rfl (by decide) sh_158 (by decide) rfl ?_
        refine rw_getI (k0 := 39) C dX0_isContent_81 fl_X0_62 rfl (by decide) sh_39 (by decide) (fun x11 => ?_)
        refine rw_iconst (c := (-1)) C dX0_isContent_84 ci_m1 ?_
        refine rw_callNPi (As := [.ref (κ.1 + 160), .int 0, .int x11, .int (-1)]) C hR dX0_isContent_85 cn_X0_94 (k_X8_greatest g.2.1 κ 160 0 x11 ((-1)) M5) (by decide) (by decide) rfl (Nat.le_of_ble_eq_true rfl) rfl (fun x12 => ?_)
        refine rw_ldI C dX0_isContent_88 (fun x13 => ?_)
        refine rw_iload C dX0_isContent_89 3 rfl ?_
        refine rw_jn (fun j2 => ∀ (x14 : Int32), pv_R g κ pv_T pv_RF 7 0 0 (pv_QF g κ pv_ji) 99 [(0, .ref (κ.1 + 158)), (2, .int a2), (3, .ref (κ.1 + k1)), (4, .int x3), (6, .int x8)] [.int x14] M5 (j2 x14)) (fun x14 => ?_) (fun j2 hj2 => ?_)
        · refine rw_istore (lv' := [(5, .int x14), (0, .ref (κ.1 + 158)), (2, .int a2), (3, .ref (κ.1 + k1)), (4, .int x3), (6, .int x8)]) C dX0_isContent_99 (by decide) rfl ?_
          refine rw_aload_n C dX0_isContent_101 rfl 1 rfl ?_
          refine rw_getR (k0 := 158) (k1 := 160) C dX0_isContent_102 fl_X0_15 rfl (by decide) sh_158 (by decide) rfl ?_
          refine rw_iload C dX0_isContent_105 5 rfl ?_
          refine rw_dup2 C dX0_isContent_107 rfl rfl ?_
          refine rw_ldI C dX0_isContent_108 (fun x15 => ?_)
          refine rw_iconst (c := 1) C dX0_isContent_109 ci_1 ?_
          refine rw_isub C dX0_isContent_110 ?_
          refine rw_stI C dX0_isContent_111 (fun M6 => ?_)
          refine rw_iinc (c := 1) (lv' := [(6, .int (x8 + 1)), (5, .int x14), (0, .ref (κ.1 + 158)), (2, .int a2), (3, .ref (κ.1 + k1)), (4, .int x3)]) C dX0_isContent_112 5 rfl (by decide) (by decide) rfl ?_
          refine rw_goto (tgt := 43) C dX0_isContent_115 (by decide) ?_
          exact rw_lv [2, 3, 4, 5, 1, 0] rfl (hrec1 x14 (x8 + 1) M6)
        · refine rw_icmp_gt (tgt := 98) C dX0_isContent_91 (by decide) ?_ ?_
          · refine rw_iconst (c := 0) C dX0_isContent_98 ci_0 ?_
            exact rw_lv [0, 1, 2, 3, 5] rfl (hj2 0)
          · refine rw_iconst (c := 1) C dX0_isContent_94 ci_1 ?_
            refine rw_goto (tgt := 99) C dX0_isContent_95 (by decide) ?_
            exact rw_lv [0, 1, 2, 3, 5] rfl (hj2 1)
def f_X0_isRest_L38 (x1 : Int32) (a1 : Int32) (rec1 : Int32 → pv_M → Option (Int32 × pv_M)) (x2 : Int32) (M3 : pv_M) : Option (Int32 × pv_M) := (if x1 ≤ x2 then some (1, M3) else pv_cap (f_X0_toldParty a1 x2 M3) (fun x3 => pv_cal (f_X0_isContent x2 x3 M3) (fun x4 M4 => (if x4 = 0 then some (0, M4) else rec1 (x2 + 1) M4))))
def f_X0_isRest_L11 (x1 : Int32) (j1 : pv_M → Option (Int32 × pv_M)) (a1 : Int32) (rec2 : Int32 → pv_M → Option (Int32 × pv_M)) (x5 : Int32) (M5 : pv_M) : Option (Int32 × pv_M) := (if x1 ≤ x5 then j1 M5 else pv_cap (f_X0_toldParty a1 x5 M5) (fun x6 => pv_ldI pv_T 160 x6 M5 (fun x7 => pv_stI pv_T 160 x6 (x7 + 1) M5 (fun M6 => rec2 (x5 + 1) M6))))
def f_X0_isRest (a1 : Int32) (M : pv_M) : Option (Int32 × pv_M) := pv_cap (f_X0_players M) (fun x1 => pv_cal (f_X0_prepare M) (fun u1 M1 => pv_jn (fun (M2 : pv_M) => pv_lp2 (f_X0_isRest_L38 x1 a1) pv_FU 0 M2) (fun j1 => pv_lp2 (f_X0_isRest_L11 x1 j1 a1) pv_FU 0 M1)))
set_option maxHeartbeats 4000000 in
set_option maxRecDepth 100000 in
theorem k_X0_isRest (l : Launch) (κ : pv_K) (a1 : Int32) (M : pv_M) : pv_Mt l yX0_isRest cX0_isRest 4 (some .boolean) 3 κ [.ref (κ.1 + 158), .int a1] M pv_ji (f_X0_isRest a1 M) := by
  refine pv_enter (by decide +kernel) (Nat.le_of_ble_eq_true rfl) (fun g hl hR C => ?_)
  have C : pv_Ok g κ 4 cX0_isRest RX0 (some .boolean) := C
  show pv_R g κ pv_T pv_RF 4 0 0 (pv_QF g κ pv_ji) 0 [(0, .ref (κ.1 + 158)), (1, .int a1)] [] M (f_X0_isRest a1 M)
  unfold f_X0_isRest
  refine rw_aload_n C dX0_isRest_0 rfl 0 rfl ?_
  refine rw_callVPi (As := []) (k0 := 158) C hR dX0_isRest_1 cv_X0_54 (k_X0_players g.2.1 κ M) (by decide) (by decide) (by decide) sh_158 rfl rfl (Nat.le_of_ble_eq_true rfl) rfl (fun x1 => ?_)
  refine rw_istore_n (lv' := [(2, .int x1), (0, .ref (κ.1 + 158)), (1, .int a1)]) C dX0_isRest_4 rfl (by decide) rfl ?_
  refine rw_aload_n C dX0_isRest_5 rfl 1 rfl ?_
  refine rw_callVu (As := []) (k0 := 158) C hR dX0_isRest_6 cv_X0_65 (k_X0_prepare g.2.1 κ M) (by decide) (by decide) (by decide) sh_158 rfl rfl (Nat.le_of_ble_eq_true rfl) rfl (fun u1 M1 => ?_)
  refine rw_iconst (c := 0) C dX0_isRest_9 ci_0 ?_
  refine rw_istore_n (lv' := [(3, .int 0), (2, .int x1), (0, .ref (κ.1 + 158)), (1, .int a1)]) C dX0_isRest_10 rfl (by decide) rfl ?_
  refine rw_jn (fun j1 => ∀ (M2 : pv_M), pv_R g κ pv_T pv_RF 4 0 0 (pv_QF g κ pv_ji) 36 [(0, .ref (κ.1 + 158)), (1, .int a1), (2, .int x1)] [] M2 (j1 M2)) (fun M2 => ?_) (fun j1 hj1 => ?_)
  · refine rw_iconst (c := 0) C dX0_isRest_36 ci_0 ?_
    refine rw_istore_n (lv' := [(3, .int 0), (0, .ref (κ.1 + 158)), (1, .int a1), (2, .int x1)]) C dX0_isRest_37 rfl (by decide) rfl ?_
    refine rw_lv (lv' := [(0, .ref (κ.1 + 158)), (1, .int a1), (2, .int x1), (3, .int 0)]) [1, 2, 3, 0] rfl ?_
    refine pv_lp2_ind (fun x2 M3 xx => pv_R g κ pv_T pv_RF 4 0 0 (pv_QF g κ pv_ji) 38 [(0, .ref (κ.1 + 158)), (1, .int a1), (2, .int x1), (3, .int x2)] [] M3 xx) (fun _ _ => rw_none) (fun rec1 hrec1 x2 M3 => ?_) _ _ _
    unfold f_X0_isRest_L38
    refine rw_iload_n C dX0_isRest_38 rfl 3 rfl ?_
    refine rw_iload_n C dX0_isRest_39 rfl 2 rfl ?_
    refine rw_icmp_ge (tgt := 64) C dX0_isRest_40 (by decide) ?_ ?_
    · refine rw_iconst (c := 1) C dX0_isRest_64 ci_1 ?_
      exact rw_zret (Or.inr rfl) C dX0_isRest_65
    · refine rw_aload_n C dX0_isRest_43 rfl 0 rfl ?_
      refine rw_iload_n C dX0_isRest_44 rfl 3 rfl ?_
      refine rw_iload_n C dX0_isRest_45 rfl 1 rfl ?_
      refine rw_iload_n C dX0_isRest_46 rfl 3 rfl ?_
      refine rw_callSPi (As := [.int a1, .int x2]) C hR dX0_isRest_47 cs_X0_58 (k_X0_toldParty g.2.1 κ a1 x2 M3) (by decide) (by decide) rfl (Nat.le_of_ble_eq_true rfl) rfl (fun x3 => ?_)
      refine rw_callVi (As := [.int x2, .int x3]) (k0 := 158) C hR dX0_isRest_50 cv_X0_68 (k_X0_isContent g.2.1 κ x2 x3 M3) (by decide) (by decide) (by decide) sh_158 rfl rfl (Nat.le_of_ble_eq_true rfl) rfl (fun x4 M4 => ?_)
      refine rw_if_ne (tgt := 58) C dX0_isRest_53 (by decide) ?_ ?_
      · refine rw_iinc (c := 1) (lv' := [(3, .int (x2 + 1)), (0, .ref (κ.1 + 158)), (1, .int a1), (2, .int x1)]) C dX0_isRest_58 3 rfl (by decide) (by decide) rfl ?_
        refine rw_goto (tgt := 38) C dX0_isRest_61 (by decide) ?_
        exact rw_lv [1, 2, 3, 0] rfl (hrec1 (x2 + 1) M4)
      · refine rw_iconst (c := 0) C dX0_isRest_56 ci_0 ?_
        exact rw_zret (Or.inl rfl) C dX0_isRest_57
  · refine rw_lv (lv' := [(0, .ref (κ.1 + 158)), (1, .int a1), (2, .int x1), (3, .int 0)]) [2, 3, 1, 0] rfl ?_
    refine pv_lp2_ind (fun x5 M5 xx => pv_R g κ pv_T pv_RF 4 0 0 (pv_QF g κ pv_ji) 11 [(0, .ref (κ.1 + 158)), (1, .int a1), (2, .int x1), (3, .int x5)] [] M5 xx) (fun _ _ => rw_none) (fun rec2 hrec2 x5 M5 => ?_) _ _ _
    unfold f_X0_isRest_L11
    refine rw_iload_n C dX0_isRest_11 rfl 3 rfl ?_
    refine rw_iload_n C dX0_isRest_12 rfl 2 rfl ?_
    refine rw_icmp_ge (tgt := 36) C dX0_isRest_13 (by decide) ?_ ?_
    · exact rw_lv [0, 1, 2] rfl (hj1 M5)
    · refine rw_aload_n C dX0_isRest_16 rfl 0 rfl ?_
      refine rw_getR (k0 := 158) (k1 := 160) C dX0_isRest_17 fl_X0_15 rfl (by decide) sh_158 (by decide) rfl ?_
      refine rw_iload_n C dX0_isRest_20 rfl 1 rfl ?_
      refine rw_iload_n C dX0_isRest_21 rfl 3 rfl ?_
      refine rw_callSPi (As := [.int a1, .int x5]) C hR dX0_isRest_22 cs_X0_58 (k_X0_toldParty g.2.1 κ a1 x5 M5) (by decide) (by decide) rfl (Nat.le_of_ble_eq_true rfl) rfl (fun x6 => ?_)
      refine rw_dup2 C dX0_isRest_25 rfl rfl ?_
      refine rw_ldI C dX0_isRest_26 (fun x7 => ?_)
      refine rw_iconst (c := 1) C dX0_isRest_27 ci_1 ?_
      refine rw_iadd C dX0_isRest_28 ?_
      refine rw_stI C dX0_isRest_29 (fun M6 => ?_)
      refine rw_iinc (c := 1) (lv' := [(3, .int (x5 + 1)), (0, .ref (κ.1 + 158)), (1, .int a1), (2, .int x1)]) C dX0_isRest_30 3 rfl (by decide) (by decide) rfl ?_
      refine rw_goto (tgt := 11) C dX0_isRest_33 (by decide) ?_
      exact rw_lv [1, 2, 3, 0] rfl (hrec2 (x5 + 1) M6)
def f_X0_rowsFrom_L14 (a1 : Int32) (fr : Int32 → pv_M → Option (Int32 × pv_M)) (rec1 : Int32 → Int32 → pv_M → Option (Int32 × pv_M)) (x2 : Int32) (x3 : Int32) (M1 : pv_M) : Option (Int32 × pv_M) := pv_nm (M1.1 39 0) (fun x4 => (if x4 ≤ x3 then some (x2, M1) else pv_ldI pv_T 161 x3 M1 (fun x5 => (if x5 = 0 then rec1 x2 (x3 + 1) M1 else pv_ldI pv_T 169 a1 M1 (fun x6 => (if ((x6 >>> (x3 &&& 31)) &&& 1) = 0 then rec1 x2 (x3 + 1) M1 else pv_ldI pv_T 161 x3 M1 (fun x7 => pv_stI pv_T 161 x3 (x7 - 1) M1 (fun M2 => pv_cal (fr (a1 + 1) M2) (fun x8 M3 => pv_nm (x2 + x8) (fun x9 => pv_ldI pv_T 161 x3 M3 (fun x10 => pv_stI pv_T 161 x3 (x10 + 1) M3 (fun M4 => rec1 x9 (x3 + 1) M4))))))))))))
def f_X0_rowsFrom_B (fr : Int32 → pv_M → Option (Int32 × pv_M)) (a1 : Int32) (M : pv_M) : Option (Int32 × pv_M) := pv_cap (f_X0_players M) (fun x1 => (if a1 < x1 then pv_lp3 (f_X0_rowsFrom_L14 a1 fr) pv_FU 0 0 M else some (1, M)))
def f_X0_rowsFrom : Nat → Int32 → pv_M → Option (Int32 × pv_M)
  | 0 => fun _ _ => none
  | D + 1 => f_X0_rowsFrom_B (f_X0_rowsFrom D)
set_option maxHeartbeats 4000000 in
set_option maxRecDepth 100000 in
theorem k_X0_rowsFrom (l : Launch) (κ : pv_K) : ∀ (D : Nat) (a1 : Int32) (M : pv_M), pv_Mt l yX0_rowsFrom cX0_rowsFrom 4 (some .int) (D + 1) κ [.ref (κ.1 + 158), .int a1] M pv_ji (f_X0_rowsFrom D a1 M)
  | 0, _, _ => fun v hv => by cases hv
  | D + 1, a1, M => by
    have ih := k_X0_rowsFrom l κ D
    refine pv_enter (by decide +kernel) (Nat.le_of_ble_eq_true rfl) (fun g hl hR C => ?_)
    have C : pv_Ok g κ 4 cX0_rowsFrom RX0 (some .int) := C
    rw [← hl] at ih
    show pv_R g κ pv_T pv_RF 4 0 0 (pv_QF g κ pv_ji) 0 [(0, .ref (κ.1 + 158)), (1, .int a1)] [] M (f_X0_rowsFrom_B (f_X0_rowsFrom D) a1 M)
    generalize f_X0_rowsFrom D = fr at ih ⊢
    unfold f_X0_rowsFrom_B
    refine rw_iload_n C dX0_rowsFrom_0 rfl 1 rfl ?_
    refine rw_aload_n C dX0_rowsFrom_1 rfl 0 rfl ?_
    refine rw_callVPi (As := []) (k0 := 158) C hR dX0_rowsFrom_2 cv_X0_54 (k_X0_players g.2.1 κ M) (by omega) (by decide) (by decide) sh_158 rfl rfl (Nat.le_of_ble_eq_true rfl) rfl (fun x1 => ?_)
    refine rw_icmp_lt (tgt := 10) C dX0_rowsFrom_5 (by decide) ?_ ?_
    · refine rw_iconst (c := 0) C dX0_rowsFrom_10 ci_0 ?_
      refine rw_istore_n (lv' := [(2, .int 0), (0, .ref (κ.1 + 158)), (1, .int a1)]) C dX0_rowsFrom_11 rfl (by decide) rfl ?_
      refine rw_iconst (c := 0) C dX0_rowsFrom_12 ci_0 ?_
      refine rw_istore_n (lv' := [(3, .int 0), (2, .int 0), (0, .ref (κ.1 + 158)), (1, .int a1)]) C dX0_rowsFrom_13 rfl (by decide) rfl ?_
      refine rw_lv (lv' := [(0, .ref (κ.1 + 158)), (1, .int a1), (2, .int 0), (3, .int 0)]) [2, 3, 1, 0] rfl ?_
      refine pv_lp3_ind (fun x2 x3 M1 xx => pv_R g κ pv_T pv_RF 4 0 0 (pv_QF g κ pv_ji) 14 [(0, .ref (κ.1 + 158)), (1, .int a1), (2, .int x2), (3, .int x3)] [] M1 xx) (fun _ _ _ => rw_none) (fun rec1 hrec1 x2 x3 M1 => ?_) _ _ _ _
      unfold f_X0_rowsFrom_L14
      refine rw_iload_n C dX0_rowsFrom_14 rfl 3 rfl ?_
      refine rw_aload_n C dX0_rowsFrom_15 rfl 0 rfl ?_
      refine rw_getR (k0 := 158) (k1 := 39) C dX0_rowsFrom_16 fl_X0_44 rfl (by decide) sh_158 (by decide) rfl ?_
      refine rw_getI (k0 := 39) C dX0_rowsFrom_19 fl_X0_62 rfl (by decide) sh_39 (by decide) (fun x4 => ?_)
      refine rw_icmp_ge (tgt := 86) C dX0_rowsFrom_22 (by decide) ?_ ?_
      · refine rw_iload_n C dX0_rowsFrom_86 rfl 2 rfl ?_
        exact rw_iret C dX0_rowsFrom_87
      · refine rw_aload_n C dX0_rowsFrom_25 rfl 0 rfl ?_
        refine rw_getR (k0 := 158) (k1 := 161) C dX0_rowsFrom_26 fl_X0_18 rfl (by decide) sh_158 (by decide) rfl ?_
        refine rw_iload_n C dX0_rowsFrom_29 rfl 3 rfl ?_
        refine rw_ldI C dX0_rowsFrom_30 (fun x5 => ?_)
        refine rw_if_eq (tgt := 80) C dX0_rowsFrom_31 (by decide) ?_ ?_
        · refine rw_iinc (c := 1) (lv' := [(3, .int (x3 + 1)), (0, .ref (κ.1 + 158)), (1, .int a1), (2, .int x2)]) C dX0_rowsFrom_80 3 rfl (by decide) (by decide) rfl ?_
          refine rw_goto (tgt := 14) C dX0_rowsFrom_83 (by decide) ?_
          exact rw_lv [1, 2, 3, 0] rfl (hrec1 x2 (x3 + 1) M1)
        · refine rw_aload_n C dX0_rowsFrom_34 rfl 0 rfl ?_
          refine rw_getR (k0 := 158) (k1 := 169) C dX0_rowsFrom_35 fl_X0_26 rfl (by decide) sh_158 (by decide) rfl ?_
          refine rw_iload_n C dX0_rowsFrom_38 rfl 1 rfl ?_
          refine rw_ldI C dX0_rowsFrom_39 (fun x6 => ?_)
          refine rw_iload_n C dX0_rowsFrom_40 rfl 3 rfl ?_
          refine rw_ishr C dX0_rowsFrom_41 ?_
          refine rw_iconst (c := 1) C dX0_rowsFrom_42 ci_1 ?_
          refine rw_iand C dX0_rowsFrom_43 ?_
          refine rw_if_ne (tgt := 50) C dX0_rowsFrom_44 (by decide) ?_ ?_
          · refine rw_aload_n C dX0_rowsFrom_50 rfl 0 rfl ?_
            refine rw_getR (k0 := 158) (k1 := 161) C dX0_rowsFrom_51 fl_X0_18 rfl (by decide) sh_158 (by decide) rfl ?_
            refine rw_iload_n C dX0_rowsFrom_54 rfl 3 rfl ?_
            refine rw_dup2 C dX0_rowsFrom_55 rfl rfl ?_
            refine rw_ldI C dX0_rowsFrom_56 (fun x7 => ?_)
            refine rw_iconst (c := 1) C dX0_rowsFrom_57 ci_1 ?_
            refine rw_isub C dX0_rowsFrom_58 ?_
            refine rw_stI C dX0_rowsFrom_59 (fun M2 => ?_)
            refine rw_iload_n C dX0_rowsFrom_60 rfl 2 rfl ?_
            refine rw_aload_n C dX0_rowsFrom_61 rfl 0 rfl ?_
            refine rw_iload_n C dX0_rowsFrom_62 rfl 1 rfl ?_
            refine rw_iconst (c := 1) C dX0_rowsFrom_63 ci_1 ?_
            refine rw_iadd C dX0_rowsFrom_64 ?_
            refine rw_callVi (As := [.int (a1 + 1)]) (k0 := 158) C hR dX0_rowsFrom_65 cv_X0_101 (ih (a1 + 1) M2) (by omega) (by decide) (by decide) sh_158 rfl rfl (Nat.le_of_ble_eq_true rfl) rfl (fun x8 M3 => ?_)
            refine rw_iadd C dX0_rowsFrom_68 ?_
            refine rw_nm (fun x9 => ?_)
            refine rw_istore_n (lv' := [(2, .int x9), (0, .ref (κ.1 + 158)), (1, .int a1), (3, .int x3)]) C dX0_rowsFrom_69 rfl (by decide) rfl ?_
            refine rw_aload_n C dX0_rowsFrom_70 rfl 1 rfl ?_
            refine rw_getR (k0 := 158) (k1 := 161) C dX0_rowsFrom_71 fl_X0_18 rfl (by decide) sh_158 (by decide) rfl ?_
            refine rw_iload_n C dX0_rowsFrom_74 rfl 3 rfl ?_
            refine rw_dup2 C dX0_rowsFrom_75 rfl rfl ?_
            refine rw_ldI C dX0_rowsFrom_76 (fun x10 => ?_)
            refine rw_iconst (c := 1) C dX0_rowsFrom_77 ci_1 ?_
            refine rw_iadd C dX0_rowsFrom_78 ?_
            refine rw_stI C dX0_rowsFrom_79 (fun M4 => ?_)
            refine rw_iinc (c := 1) (lv' := [(3, .int (x3 + 1)), (2, .int x9), (0, .ref (κ.1 + 158)), (1, .int a1)]) C dX0_rowsFrom_80 3 rfl (by decide) (by decide) rfl ?_
            refine rw_goto (tgt := 14) C dX0_rowsFrom_83 (by decide) ?_
            exact rw_lv [2, 3, 1, 0] rfl (hrec1 x9 (x3 + 1) M4)
          · refine rw_goto (tgt := 80) C dX0_rowsFrom_47 (by decide) ?_
            refine rw_iinc (c := 1) (lv' := [(3, .int (x3 + 1)), (0, .ref (κ.1 + 158)), (1, .int a1), (2, .int x2)]) C dX0_rowsFrom_80 3 rfl (by decide) (by decide) rfl ?_
            refine rw_goto (tgt := 14) C dX0_rowsFrom_83 (by decide) ?_
            exact rw_lv [1, 2, 3, 0] rfl (hrec1 x2 (x3 + 1) M1)
    · refine rw_iconst (c := 1) C dX0_rowsFrom_8 ci_1 ?_
      exact rw_iret C dX0_rowsFrom_9
def f_X0_restsOfSums_L17 (j2 : Int32 → pv_M → Option (Int32 × pv_M)) (x3 : Int32) (rec2 : Int32 → Int32 → pv_M → Option (Int32 × pv_M)) (x5 : Int32) (x6 : Int32) (M6 : pv_M) : Option (Int32 × pv_M) := pv_nm (M6.1 39 0) (fun x7 => (if x7 ≤ x6 then j2 x5 M6 else pv_ldI pv_T 161 x6 M6 (fun x8 => (if x8 ≤ 0 then rec2 x5 (x6 + 1) M6 else pv_cal (f_X0_isContent x3 x6 M6) (fun x9 M7 => (if x9 = 0 then rec2 x5 (x6 + 1) M7 else pv_nm (x5 ||| (1 <<< (x6 &&& 31))) (fun x10 => rec2 x10 (x6 + 1) M7)))))))
def f_X0_restsOfSums_L7 (x1 : Int32) (j1 : pv_M → Option (Int32 × pv_M)) (rec1 : Int32 → pv_M → Option (Int32 × pv_M)) (x3 : Int32) (M3 : pv_M) : Option (Int32 × pv_M) := (if x1 ≤ x3 then j1 M3 else pv_jn (fun (x4 : Int32) (M4 : pv_M) => pv_stI pv_T 169 x3 x4 M4 (fun M5 => rec1 (x3 + 1) M5)) (fun j2 => pv_lp3 (f_X0_restsOfSums_L17 j2 x3) pv_FU 0 0 M3))
def f_X0_restsOfSums (M : pv_M) : Option (Int32 × pv_M) := pv_cap (f_X0_players M) (fun x1 => pv_jn (fun (M1 : pv_M) => pv_cal (f_X0_rowsFrom 10 0 M1) (fun x2 M2 => some (x2, M2))) (fun j1 => pv_lp2 (f_X0_restsOfSums_L7 x1 j1) pv_FU 0 M))
set_option maxHeartbeats 4000000 in
set_option maxRecDepth 100000 in
theorem k_X0_restsOfSums (l : Launch) (κ : pv_K) (M : pv_M) : pv_Mt l yX0_restsOfSums cX0_restsOfSums 5 (some .int) 12 κ [.ref (κ.1 + 158)] M pv_ji (f_X0_restsOfSums M) := by
  refine pv_enter (by decide +kernel) (Nat.le_of_ble_eq_true rfl) (fun g hl hR C => ?_)
  have C : pv_Ok g κ 5 cX0_restsOfSums RX0 (some .int) := C
  show pv_R g κ pv_T pv_RF 5 0 0 (pv_QF g κ pv_ji) 0 [(0, .ref (κ.1 + 158))] [] M (f_X0_restsOfSums M)
  unfold f_X0_restsOfSums
  refine rw_aload_n C dX0_restsOfSums_0 rfl 0 rfl ?_
  refine rw_callVPi (As := []) (k0 := 158) C hR dX0_restsOfSums_1 cv_X0_54 (k_X0_players g.2.1 κ M) (by decide) (by decide) (by decide) sh_158 rfl rfl (Nat.le_of_ble_eq_true rfl) rfl (fun x1 => ?_)
  refine rw_istore_n (lv' := [(1, .int x1), (0, .ref (κ.1 + 158))]) C dX0_restsOfSums_4 rfl (by decide) rfl ?_
  refine rw_iconst (c := 0) C dX0_restsOfSums_5 ci_0 ?_
  refine rw_istore_n (lv' := [(2, .int 0), (1, .int x1), (0, .ref (κ.1 + 158))]) C dX0_restsOfSums_6 rfl (by decide) rfl ?_
  refine rw_jn (fun j1 => ∀ (M1 : pv_M), pv_R g κ pv_T pv_RF 5 0 0 (pv_QF g κ pv_ji) 75 [(0, .ref (κ.1 + 158))] [] M1 (j1 M1)) (fun M1 => ?_) (fun j1 hj1 => ?_)
  · refine rw_aload_n C dX0_restsOfSums_75 rfl 0 rfl ?_
    refine rw_iconst (c := 0) C dX0_restsOfSums_76 ci_0 ?_
    refine rw_callVi (As := [.int 0]) (k0 := 158) C hR dX0_restsOfSums_77 cv_X0_101 (k_X0_rowsFrom g.2.1 κ 10 0 M1) (by decide) (by decide) (by decide) sh_158 rfl rfl (Nat.le_of_ble_eq_true rfl) rfl (fun x2 M2 => ?_)
    exact rw_iret C dX0_restsOfSums_80
  · refine rw_lv (lv' := [(0, .ref (κ.1 + 158)), (1, .int x1), (2, .int 0)]) [2, 1, 0] rfl ?_
    refine pv_lp2_ind (fun x3 M3 xx => pv_R g κ pv_T pv_RF 5 0 0 (pv_QF g κ pv_ji) 7 [(0, .ref (κ.1 + 158)), (1, .int x1), (2, .int x3)] [] M3 xx) (fun _ _ => rw_none) (fun rec1 hrec1 x3 M3 => ?_) _ _ _
    unfold f_X0_restsOfSums_L7
    refine rw_iload_n C dX0_restsOfSums_7 rfl 2 rfl ?_
    refine rw_iload_n C dX0_restsOfSums_8 rfl 1 rfl ?_
    refine rw_icmp_ge (tgt := 75) C dX0_restsOfSums_9 (by decide) ?_ ?_
    · exact rw_lv [0] rfl (hj1 M3)
    · refine rw_iconst (c := 0) C dX0_restsOfSums_12 ci_0 ?_
      refine rw_istore_n (lv' := [(3, .int 0), (0, .ref (κ.1 + 158)), (1, .int x1), (2, .int x3)]) C dX0_restsOfSums_13 rfl (by decide) rfl ?_
      refine rw_iconst (c := 0) C dX0_restsOfSums_14 ci_0 ?_
      refine rw_istore (lv' := [(4, .int 0), (3, .int 0), (0, .ref (κ.1 + 158)), (1, .int x1), (2, .int x3)]) C dX0_restsOfSums_15 (by decide) rfl ?_
      refine rw_jn (fun j2 => ∀ (x4 : Int32) (M4 : pv_M), pv_R g κ pv_T pv_RF 5 0 0 (pv_QF g κ pv_ji) 62 [(0, .ref (κ.1 + 158)), (1, .int x1), (2, .int x3), (3, .int x4)] [] M4 (j2 x4 M4)) (fun x4 M4 => ?_) (fun j2 hj2 => ?_)
      · refine rw_aload_n C dX0_restsOfSums_62 rfl 0 rfl ?_
        refine rw_getR (k0 := 158) (k1 := 169) C dX0_restsOfSums_63 fl_X0_26 rfl (by decide) sh_158 (by decide) rfl ?_
        refine rw_iload_n C dX0_restsOfSums_66 rfl 2 rfl ?_
        refine rw_iload_n C dX0_restsOfSums_67 rfl 3 rfl ?_
        refine rw_stI C dX0_restsOfSums_68 (fun M5 => ?_)
        refine rw_iinc (c := 1) (lv' := [(2, .int (x3 + 1)), (0, .ref (κ.1 + 158)), (1, .int x1), (3, .int x4)]) C dX0_restsOfSums_69 2 rfl (by decide) (by decide) rfl ?_
        refine rw_goto (tgt := 7) C dX0_restsOfSums_72 (by decide) ?_
        exact rw_lv [1, 2, 0] rfl (hrec1 (x3 + 1) M5)
      · refine rw_lv (lv' := [(0, .ref (κ.1 + 158)), (1, .int x1), (2, .int x3), (3, .int 0), (4, .int 0)]) [2, 3, 4, 1, 0] rfl ?_
        refine pv_lp3_ind (fun x5 x6 M6 xx => pv_R g κ pv_T pv_RF 5 0 0 (pv_QF g κ pv_ji) 17 [(0, .ref (κ.1 + 158)), (1, .int x1), (2, .int x3), (3, .int x5), (4, .int x6)] [] M6 xx) (fun _ _ _ => rw_none) (fun rec2 hrec2 x5 x6 M6 => ?_) _ _ _ _
        unfold f_X0_restsOfSums_L17
        refine rw_iload C dX0_restsOfSums_17 4 rfl ?_
        refine rw_aload_n C dX0_restsOfSums_19 rfl 0 rfl ?_
        refine rw_getR (k0 := 158) (k1 := 39) C dX0_restsOfSums_20 fl_X0_44 rfl (by decide) sh_158 (by decide) rfl ?_
        refine rw_getI (k0 := 39) C dX0_restsOfSums_23 fl_X0_62 rfl (by decide) sh_39 (by decide) (fun x7 => ?_)
        refine rw_icmp_ge (tgt := 62) C dX0_restsOfSums_26 (by decide) ?_ ?_
        · exact rw_lv [0, 1, 2, 3] rfl (hj2 x5 M6)
        · refine rw_aload_n C dX0_restsOfSums_29 rfl 0 rfl ?_
          refine rw_getR (k0 := 158) (k1 := 161) C dX0_restsOfSums_30 fl_X0_18 rfl (by decide) sh_158 (by decide) rfl ?_
          refine rw_iload C dX0_restsOfSums_33 4 rfl ?_
          refine rw_ldI C dX0_restsOfSums_35 (fun x8 => ?_)
          refine rw_if_le (tgt := 56) C dX0_restsOfSums_36 (by decide) ?_ ?_
          · refine rw_iinc (c := 1) (lv' := [(4, .int (x6 + 1)), (0, .ref (κ.1 + 158)), (1, .int x1), (2, .int x3), (3, .int x5)]) C dX0_restsOfSums_56 4 rfl (by decide) (by decide) rfl ?_
            refine rw_goto (tgt := 17) C dX0_restsOfSums_59 (by decide) ?_
            exact rw_lv [1, 2, 3, 4, 0] rfl (hrec2 x5 (x6 + 1) M6)
          · refine rw_aload_n C dX0_restsOfSums_39 rfl 0 rfl ?_
            refine rw_iload_n C dX0_restsOfSums_40 rfl 2 rfl ?_
            refine rw_iload C dX0_restsOfSums_41 4 rfl ?_
            refine rw_callVi (As := [.int x3, .int x6]) (k0 := 158) C hR dX0_restsOfSums_43 cv_X0_68 (k_X0_isContent g.2.1 κ x3 x6 M6) (by decide) (by decide) (by decide) sh_158 rfl rfl (Nat.le_of_ble_eq_true rfl) rfl (fun x9 M7 => ?_)
            refine rw_if_eq (tgt := 56) C dX0_restsOfSums_46 (by decide) ?_ ?_
            · refine rw_iinc (c := 1) (lv' := [(4, .int (x6 + 1)), (0, .ref (κ.1 + 158)), (1, .int x1), (2, .int x3), (3, .int x5)]) C dX0_restsOfSums_56 4 rfl (by decide) (by decide) rfl ?_
              refine rw_goto (tgt := 17) C dX0_restsOfSums_59 (by decide) ?_
              exact rw_lv [1, 2, 3, 4, 0] rfl (hrec2 x5 (x6 + 1) M7)
            · refine rw_iload_n C dX0_restsOfSums_49 rfl 3 rfl ?_
              refine rw_iconst (c := 1) C dX0_restsOfSums_50 ci_1 ?_
              refine rw_iload C dX0_restsOfSums_51 4 rfl ?_
              refine rw_ishl C dX0_restsOfSums_53 ?_
              refine rw_ior C dX0_restsOfSums_54 ?_
              refine rw_nm (fun x10 => ?_)
              refine rw_istore_n (lv' := [(3, .int x10), (0, .ref (κ.1 + 158)), (1, .int x1), (2, .int x3), (4, .int x6)]) C dX0_restsOfSums_55 rfl (by decide) rfl ?_
              refine rw_iinc (c := 1) (lv' := [(4, .int (x6 + 1)), (3, .int x10), (0, .ref (κ.1 + 158)), (1, .int x1), (2, .int x3)]) C dX0_restsOfSums_56 4 rfl (by decide) (by decide) rfl ?_
              refine rw_goto (tgt := 17) C dX0_restsOfSums_59 (by decide) ?_
              exact rw_lv [2, 3, 4, 1, 0] rfl (hrec2 x10 (x6 + 1) M7)
def f_X0_restsOfSpread_L29 (a2 : Int32) (a1 : Int32) (fr : Int32 → Int32 → pv_M → Option (Int32 × pv_M)) (rec1 : Int32 → Int32 → pv_M → Option (Int32 × pv_M)) (x2 : Int32) (x3 : Int32) (M1 : pv_M) : Option (Int32 × pv_M) := (if a2 < x3 then some (x2, M1) else pv_ldI pv_T 160 a1 M1 (fun x4 => pv_stI pv_T 160 a1 (x4 + x3) M1 (fun M2 => pv_stI pv_T 161 a1 x3 M2 (fun M3 => pv_cal (fr (a1 + 1) (a2 - x3) M3) (fun x5 M4 => pv_nm (x2 + x5) (fun x6 => pv_ldI pv_T 160 a1 M4 (fun x7 => pv_stI pv_T 160 a1 (x7 - x3) M4 (fun M5 => rec1 x6 (x3 + 1) M5))))))))
def f_X0_restsOfSpread_B (fr : Int32 → Int32 → pv_M → Option (Int32 × pv_M)) (a1 : Int32) (a2 : Int32) (M : pv_M) : Option (Int32 × pv_M) := pv_nm (M.1 39 0) (fun x1 => (if a1 < x1 then pv_lp3 (f_X0_restsOfSpread_L29 a2 a1 fr) pv_FU 0 0 M else (if a2 = 0 then pv_cal (f_X0_restsOfSums M) (fun x8 M6 => some (x8, M6)) else some (0, M))))
def f_X0_restsOfSpread : Nat → Int32 → Int32 → pv_M → Option (Int32 × pv_M)
  | 0 => fun _ _ _ => none
  | D + 1 => f_X0_restsOfSpread_B (f_X0_restsOfSpread D)
set_option maxHeartbeats 4000000 in
set_option maxRecDepth 100000 in
theorem k_X0_restsOfSpread (l : Launch) (κ : pv_K) : ∀ (D : Nat) (a1 : Int32) (a2 : Int32) (M : pv_M), pv_Mt l yX0_restsOfSpread cX0_restsOfSpread 5 (some .int) (D + 13) κ [.ref (κ.1 + 158), .int a1, .int a2] M pv_ji (f_X0_restsOfSpread D a1 a2 M)
  | 0, _, _, _ => fun v hv => by cases hv
  | D + 1, a1, a2, M => by
    have ih := k_X0_restsOfSpread l κ D
    refine pv_enter (by decide +kernel) (Nat.le_of_ble_eq_true rfl) (fun g hl hR C => ?_)
    have C : pv_Ok g κ 5 cX0_restsOfSpread RX0 (some .int) := C
    rw [← hl] at ih
    show pv_R g κ pv_T pv_RF 5 0 0 (pv_QF g κ pv_ji) 0 [(0, .ref (κ.1 + 158)), (1, .int a1), (2, .int a2)] [] M (f_X0_restsOfSpread_B (f_X0_restsOfSpread D) a1 a2 M)
    generalize f_X0_restsOfSpread D = fr at ih ⊢
    unfold f_X0_restsOfSpread_B
    refine rw_iload_n C dX0_restsOfSpread_0 rfl 1 rfl ?_
    refine rw_aload_n C dX0_restsOfSpread_1 rfl 0 rfl ?_
    refine rw_getR (k0 := 158) (k1 := 39) C dX0_restsOfSpread_2 fl_X0_44 rfl (by decide) sh_158 (by decide) rfl ?_
    refine rw_getI (k0 := 39) C dX0_restsOfSpread_5 fl_X0_62 rfl (by decide) sh_39 (by decide) (fun x1 => ?_)
    refine rw_icmp_lt (tgt := 24) C dX0_restsOfSpread_8 (by decide) ?_ ?_
    · refine rw_iconst (c := 0) C dX0_restsOfSpread_24 ci_0 ?_
      refine rw_istore_n (lv' := [(3, .int 0), (0, .ref (κ.1 + 158)), (1, .int a1), (2, .int a2)]) C dX0_restsOfSpread_25 rfl (by decide) rfl ?_
      refine rw_iconst (c := 0) C dX0_restsOfSpread_26 ci_0 ?_
      refine rw_istore (lv' := [(4, .int 0), (3, .int 0), (0, .ref (κ.1 + 158)), (1, .int a1), (2, .int a2)]) C dX0_restsOfSpread_27 (by decide) rfl ?_
      refine rw_lv (lv' := [(0, .ref (κ.1 + 158)), (1, .int a1), (2, .int a2), (3, .int 0), (4, .int 0)]) [2, 3, 4, 1, 0] rfl ?_
      refine pv_lp3_ind (fun x2 x3 M1 xx => pv_R g κ pv_T pv_RF 5 0 0 (pv_QF g κ pv_ji) 29 [(0, .ref (κ.1 + 158)), (1, .int a1), (2, .int a2), (3, .int x2), (4, .int x3)] [] M1 xx) (fun _ _ _ => rw_none) (fun rec1 hrec1 x2 x3 M1 => ?_) _ _ _ _
      unfold f_X0_restsOfSpread_L29
      refine rw_iload C dX0_restsOfSpread_29 4 rfl ?_
      refine rw_iload_n C dX0_restsOfSpread_31 rfl 2 rfl ?_
      refine rw_icmp_gt (tgt := 85) C dX0_restsOfSpread_32 (by decide) ?_ ?_
      · refine rw_iload_n C dX0_restsOfSpread_85 rfl 3 rfl ?_
        exact rw_iret C dX0_restsOfSpread_86
      · refine rw_aload_n C dX0_restsOfSpread_35 rfl 0 rfl ?_
        refine rw_getR (k0 := 158) (k1 := 160) C dX0_restsOfSpread_36 fl_X0_15 rfl (by decide) sh_158 (by decide) rfl ?_
        refine rw_iload_n C dX0_restsOfSpread_39 rfl 1 rfl ?_
        refine rw_dup2 C dX0_restsOfSpread_40 rfl rfl ?_
        refine rw_ldI C dX0_restsOfSpread_41 (fun x4 => ?_)
        refine rw_iload C dX0_restsOfSpread_42 4 rfl ?_
        refine rw_iadd C dX0_restsOfSpread_44 ?_
        refine rw_stI C dX0_restsOfSpread_45 (fun M2 => ?_)
        refine rw_aload_n C dX0_restsOfSpread_46 rfl 0 rfl ?_
        refine rw_getR (k0 := 158) (k1 := 161) C dX0_restsOfSpread_47 fl_X0_18 rfl (by decide) sh_158 (by decide) rfl ?_
        refine rw_iload_n C dX0_restsOfSpread_50 rfl 1 rfl ?_
        refine rw_iload C dX0_restsOfSpread_51 4 rfl ?_
        refine rw_stI C dX0_restsOfSpread_53 (fun M3 => ?_)
        refine rw_iload_n C dX0_restsOfSpread_54 rfl 3 rfl ?_
        refine rw_aload_n C dX0_restsOfSpread_55 rfl 0 rfl ?_
        refine rw_iload_n C dX0_restsOfSpread_56 rfl 1 rfl ?_
        refine rw_iconst (c := 1) C dX0_restsOfSpread_57 ci_1 ?_
        refine rw_iadd C dX0_restsOfSpread_58 ?_
        refine rw_iload_n C dX0_restsOfSpread_59 rfl 2 rfl ?_
        refine rw_iload C dX0_restsOfSpread_60 4 rfl ?_
        refine rw_isub C dX0_restsOfSpread_62 ?_
        refine rw_callVi (As := [.int (a1 + 1), .int (a2 - x3)]) (k0 := 158) C hR dX0_restsOfSpread_63 cv_X0_78 (ih (a1 + 1) (a2 - x3) M3) (by omega) (by decide) (by decide) sh_158 rfl rfl (Nat.le_of_ble_eq_true rfl) rfl (fun x5 M4 => ?_)
        refine rw_iadd C dX0_restsOfSpread_66 ?_
        refine rw_nm (fun x6 => ?_)
        refine rw_istore_n (lv' := [(3, .int x6), (0, .ref (κ.1 + 158)), (1, .int a1), (2, .int a2), (4, .int x3)]) C dX0_restsOfSpread_67 rfl (by decide) rfl ?_
        refine rw_aload_n C dX0_restsOfSpread_68 rfl 1 rfl ?_
        refine rw_getR (k0 := 158) (k1 := 160) C dX0_restsOfSpread_69 fl_X0_15 rfl (by decide) sh_158 (by decide) rfl ?_
        refine rw_iload_n C dX0_restsOfSpread_72 rfl 2 rfl ?_
        refine rw_dup2 C dX0_restsOfSpread_73 rfl rfl ?_
        refine rw_ldI C dX0_restsOfSpread_74 (fun x7 => ?_)
        refine rw_iload C dX0_restsOfSpread_75 4 rfl ?_
        refine rw_isub C dX0_restsOfSpread_77 ?_
        refine rw_stI C dX0_restsOfSpread_78 (fun M5 => ?_)
        refine rw_iinc (c := 1) (lv' := [(4, .int (x3 + 1)), (3, .int x6), (0, .ref (κ.1 + 158)), (1, .int a1), (2, .int a2)]) C dX0_restsOfSpread_79 4 rfl (by decide) (by decide) rfl ?_
        refine rw_goto (tgt := 29) C dX0_restsOfSpread_82 (by decide) ?_
        exact rw_lv [2, 3, 4, 1, 0] rfl (hrec1 x6 (x3 + 1) M5)
    · refine rw_iload_n C dX0_restsOfSpread_11 rfl 2 rfl ?_
      refine rw_if_ne (tgt := 22) C dX0_restsOfSpread_12 (by decide) ?_ ?_
      · refine rw_iconst (c := 0) C dX0_restsOfSpread_22 ci_0 ?_
        exact rw_iret C dX0_restsOfSpread_23
      · refine rw_aload_n C dX0_restsOfSpread_15 rfl 0 rfl ?_
        refine rw_callVi (As := []) (k0 := 158) C hR dX0_restsOfSpread_16 cv_X0_98 (k_X0_restsOfSums g.2.1 κ M) (by omega) (by decide) (by decide) sh_158 rfl rfl (Nat.le_of_ble_eq_true rfl) rfl (fun x8 M6 => ?_)
        refine rw_goto (tgt := 23) C dX0_restsOfSpread_19 (by decide) ?_
        exact rw_iret C dX0_restsOfSpread_23
def f_X0_restfulRows (M : pv_M) : Option (Int32 × pv_M) := pv_nm (M.1 39 0) (fun x1 => (if x1 = 0 then some (0, M) else pv_nm (M.1 158 11) (fun x2 => pv_nm (M.1 39 2) (fun x3 => (if x2 = x3 then pv_nm (M.1 158 12) (fun x4 => some (x4, M)) else pv_nm (M.1 39 2) (fun x5 => pv_nm (pv_u M.1 158 11 x5, M.2) (fun M1 => pv_cal (f_X0_prepare M1) (fun u1 M2 => pv_cap (f_X0_players M2) (fun x6 => pv_cal (f_X0_restsOfSpread 10 0 x6 M2) (fun x7 M3 => pv_nm (pv_u M3.1 158 12 x7, M3.2) (fun M4 => pv_nm (M4.1 158 12) (fun x8 => some (x8, M4)))))))))))))
set_option maxHeartbeats 4000000 in
set_option maxRecDepth 100000 in
theorem k_X0_restfulRows (l : Launch) (κ : pv_K) (M : pv_M) : pv_Mt l yX0_restfulRows cX0_restfulRows 1 (some .int) 24 κ [.ref (κ.1 + 158)] M pv_ji (f_X0_restfulRows M) := by
  refine pv_enter (by decide +kernel) (Nat.le_of_ble_eq_true rfl) (fun g hl hR C => ?_)
  have C : pv_Ok g κ 1 cX0_restfulRows RX0 (some .int) := C
  show pv_R g κ pv_T pv_RF 1 0 0 (pv_QF g κ pv_ji) 0 [(0, .ref (κ.1 + 158))] [] M (f_X0_restfulRows M)
  unfold f_X0_restfulRows
  refine rw_aload_n C dX0_restfulRows_0 rfl 0 rfl ?_
  refine rw_getR (k0 := 158) (k1 := 39) C dX0_restfulRows_1 fl_X0_44 rfl (by decide) sh_158 (by decide) rfl ?_
  refine rw_getI (k0 := 39) C dX0_restfulRows_4 fl_X0_62 rfl (by decide) sh_39 (by decide) (fun x1 => ?_)
  refine rw_if_ne (tgt := 12) C dX0_restfulRows_7 (by decide) ?_ ?_
  · refine rw_aload_n C dX0_restfulRows_12 rfl 0 rfl ?_
    refine rw_getI (k0 := 158) C dX0_restfulRows_13 fl_X0_72 rfl (by decide) sh_158 (by decide) (fun x2 => ?_)
    refine rw_aload_n C dX0_restfulRows_16 rfl 0 rfl ?_
    refine rw_getR (k0 := 158) (k1 := 39) C dX0_restfulRows_17 fl_X0_44 rfl (by decide) sh_158 (by decide) rfl ?_
    refine rw_getI (k0 := 39) C dX0_restfulRows_20 fl_X0_75 rfl (by decide) sh_39 (by decide) (fun x3 => ?_)
    refine rw_icmp_eq (tgt := 54) C dX0_restfulRows_23 (by decide) ?_ ?_
    · refine rw_aload_n C dX0_restfulRows_54 rfl 0 rfl ?_
      refine rw_getI (k0 := 158) C dX0_restfulRows_55 fl_X0_81 rfl (by decide) sh_158 (by decide) (fun x4 => ?_)
      exact rw_iret C dX0_restfulRows_58
    · refine rw_aload_n C dX0_restfulRows_26 rfl 0 rfl ?_
      refine rw_aload_n C dX0_restfulRows_27 rfl 0 rfl ?_
      refine rw_getR (k0 := 158) (k1 := 39) C dX0_restfulRows_28 fl_X0_44 rfl (by decide) sh_158 (by decide) rfl ?_
      refine rw_getI (k0 := 39) C dX0_restfulRows_31 fl_X0_75 rfl (by decide) sh_39 (by decide) (fun x5 => ?_)
      refine rw_put (k0 := 158) C dX0_restfulRows_34 fl_X0_72 ff_X0_11 rfl rfl rfl (by decide) sh_158 (by decide) (fun M1 => ?_)
      refine rw_aload_n C dX0_restfulRows_37 rfl 0 rfl ?_
      refine rw_callVu (As := []) (k0 := 158) C hR dX0_restfulRows_38 cv_X0_65 (k_X0_prepare g.2.1 κ M1) (by decide) (by decide) (by decide) sh_158 rfl rfl (Nat.le_of_ble_eq_true rfl) rfl (fun u1 M2 => ?_)
      refine rw_aload_n C dX0_restfulRows_41 rfl 0 rfl ?_
      refine rw_aload_n C dX0_restfulRows_42 rfl 0 rfl ?_
      refine rw_iconst (c := 0) C dX0_restfulRows_43 ci_0 ?_
      refine rw_aload_n C dX0_restfulRows_44 rfl 0 rfl ?_
      refine rw_callVPi (As := []) (k0 := 158) C hR dX0_restfulRows_45 cv_X0_54 (k_X0_players g.2.1 κ M2) (by decide) (by decide) (by decide) sh_158 rfl rfl (Nat.le_of_ble_eq_true rfl) rfl (fun x6 => ?_)
      refine rw_callVi (As := [.int 0, .int x6]) (k0 := 158) C hR dX0_restfulRows_48 cv_X0_78 (k_X0_restsOfSpread g.2.1 κ 10 0 x6 M2) (by decide) (by decide) (by decide) sh_158 rfl rfl (Nat.le_of_ble_eq_true rfl) rfl (fun x7 M3 => ?_)
      refine rw_put (k0 := 158) C dX0_restfulRows_51 fl_X0_81 ff_X0_12 rfl rfl rfl (by decide) sh_158 (by decide) (fun M4 => ?_)
      refine rw_aload_n C dX0_restfulRows_54 rfl 0 rfl ?_
      refine rw_getI (k0 := 158) C dX0_restfulRows_55 fl_X0_81 rfl (by decide) sh_158 (by decide) (fun x8 => ?_)
      exact rw_iret C dX0_restfulRows_58
  · refine rw_iconst (c := 0) C dX0_restfulRows_10 ci_0 ?_
    exact rw_iret C dX0_restfulRows_11
def f_X2_owed (a1 : Int32) (M : pv_M) : Option Int32 := pv_ldI pv_T 52 a1 M (fun x1 => some x1)
set_option maxHeartbeats 4000000 in
set_option maxRecDepth 100000 in
theorem k_X2_owed (l : Launch) (κ : pv_K) (a1 : Int32) (M : pv_M) : pv_MtP l yX2_owed cX2_owed 2 (some .int) 0 κ [.ref (κ.1 + 39), .int a1] M pv_ji (f_X2_owed a1 M) := by
  refine pv_enterP (by decide +kernel) (Nat.le_of_ble_eq_true rfl) (fun g hl hR C => ?_)
  have C : pv_Ok g κ 2 cX2_owed RX2 (some .int) := C
  show pv_R g κ pv_T pv_RF 2 0 0 (pv_QP g κ pv_ji M) 0 [(0, .ref (κ.1 + 39)), (1, .int a1)] [] M (f_X2_owed a1 M)
  unfold f_X2_owed
  refine rw_aload_n C dX2_owed_0 rfl 0 rfl ?_
  refine rw_getR (k0 := 39) (k1 := 52) C dX2_owed_1 fl_X2_20 rfl (by decide) sh_39 (by decide) rfl ?_
  refine rw_iload_n C dX2_owed_4 rfl 1 rfl ?_
  refine rw_ldI C dX2_owed_5 (fun x1 => ?_)
  exact rw_iretP C dX2_owed_6
def f_X2_unitOf (a1 : Int32) (M : pv_M) : Option Int32 := pv_ldI pv_T 51 a1 M (fun x1 => some x1)
set_option maxHeartbeats 4000000 in
set_option maxRecDepth 100000 in
theorem k_X2_unitOf (l : Launch) (κ : pv_K) (a1 : Int32) (M : pv_M) : pv_MtP l yX2_unitOf cX2_unitOf 2 (some .int) 0 κ [.ref (κ.1 + 39), .int a1] M pv_ji (f_X2_unitOf a1 M) := by
  refine pv_enterP (by decide +kernel) (Nat.le_of_ble_eq_true rfl) (fun g hl hR C => ?_)
  have C : pv_Ok g κ 2 cX2_unitOf RX2 (some .int) := C
  show pv_R g κ pv_T pv_RF 2 0 0 (pv_QP g κ pv_ji M) 0 [(0, .ref (κ.1 + 39)), (1, .int a1)] [] M (f_X2_unitOf a1 M)
  unfold f_X2_unitOf
  refine rw_aload_n C dX2_unitOf_0 rfl 0 rfl ?_
  refine rw_getR (k0 := 39) (k1 := 51) C dX2_unitOf_1 fl_X2_16 rfl (by decide) sh_39 (by decide) rfl ?_
  refine rw_iload_n C dX2_unitOf_4 rfl 1 rfl ?_
  refine rw_ldI C dX2_unitOf_5 (fun x1 => ?_)
  exact rw_iretP C dX2_unitOf_6
def f_X0_supportPlace (a1 : Int32) (a2 : Int32) (M : pv_M) : Option Int32 := some ((((a1 * 9) + a2) - 1) * 4)
set_option maxHeartbeats 4000000 in
set_option maxRecDepth 100000 in
theorem k_X0_supportPlace (l : Launch) (κ : pv_K) (a1 : Int32) (a2 : Int32) (M : pv_M) : pv_MtP l yX0_supportPlace cX0_supportPlace 2 (some .int) 0 κ [.int a1, .int a2] M pv_ji (f_X0_supportPlace a1 a2 M) := by
  refine pv_enterP (by decide +kernel) (Nat.le_of_ble_eq_true rfl) (fun g hl hR C => ?_)
  have C : pv_Ok g κ 2 cX0_supportPlace RX0 (some .int) := C
  show pv_R g κ pv_T pv_RF 2 0 0 (pv_QP g κ pv_ji M) 0 [(0, .int a1), (1, .int a2)] [] M (f_X0_supportPlace a1 a2 M)
  unfold f_X0_supportPlace
  refine rw_iload_n C dX0_supportPlace_0 rfl 0 rfl ?_
  refine rw_bipush (c := 9) C dX0_supportPlace_1 (by decide) ?_
  refine rw_imul C dX0_supportPlace_3 ?_
  refine rw_iload_n C dX0_supportPlace_4 rfl 1 rfl ?_
  refine rw_iadd C dX0_supportPlace_5 ?_
  refine rw_iconst (c := 1) C dX0_supportPlace_6 ci_1 ?_
  refine rw_isub C dX0_supportPlace_7 ?_
  refine rw_iconst (c := 4) C dX0_supportPlace_8 ci_4 ?_
  refine rw_imul C dX0_supportPlace_9 ?_
  exact rw_iretP C dX0_supportPlace_10
def f_X0_fillSupport_L36 (rec1 : Int32 → pv_M → Option (Unit × pv_M)) (x1 : Int32) (a1 : Int32) (rec2 : Int32 → pv_M → Option (Unit × pv_M)) (x3 : Int32) (M4 : pv_M) : Option (Unit × pv_M) := (if 9 < x3 then rec1 (x1 + 1) M4 else pv_cap (f_X2_owed x1 M4) (fun x4 => pv_stI pv_T 159 a1 (x4 * x3) M4 (fun M5 => pv_cap (f_X2_unitOf x1 M5) (fun x5 => pv_cap (f_X0_supportPlace x5 x3 M5) (fun x6 => pv_nm (M5.1 39 0) (fun x7 => pv_cap (f_X8_greatest 159 0 x7 ((-1)) M5) (fun x8 => pv_nm (x6 + x8) (fun x9 => pv_ldI pv_T 170 x9 M5 (fun x10 => pv_stI pv_T 170 x9 (x10 + 1) M5 (fun M6 => rec2 (x3 + 1) M6))))))))))
def f_X0_fillSupport_L10 (a1 : Int32) (rec1 : Int32 → pv_M → Option (Unit × pv_M)) (x1 : Int32) (M2 : pv_M) : Option (Unit × pv_M) := pv_nm (M2.1 39 1) (fun x2 => (if x2 ≤ x1 then some ((), M2) else pv_cal (f_X2_fillGains x1 0 159 M2) (fun u2 M3 => pv_lp2 (f_X0_fillSupport_L36 rec1 x1 a1) pv_FU 1 M3)))
def f_X0_fillSupport (a1 : Int32) (M : pv_M) : Option (Unit × pv_M) := pv_cal (f_J7_fill_53178 170 0 M) (fun u1 M1 => pv_lp2 (f_X0_fillSupport_L10 a1) pv_FU 0 M1)
set_option maxHeartbeats 4000000 in
set_option maxRecDepth 100000 in
theorem k_X0_fillSupport (l : Launch) (κ : pv_K) (a1 : Int32) (M : pv_M) : pv_Mt l yX0_fillSupport cX0_fillSupport 5 none 2 κ [.ref (κ.1 + 158), .int a1] M pv_ju (f_X0_fillSupport a1 M) := by
  refine pv_enter (by decide +kernel) (Nat.le_of_ble_eq_true rfl) (fun g hl hR C => ?_)
  have C : pv_Ok g κ 5 cX0_fillSupport RX0 none := C
  show pv_R g κ pv_T pv_RF 5 0 0 (pv_QF g κ pv_ju) 0 [(0, .ref (κ.1 + 158)), (1, .int a1)] [] M (f_X0_fillSupport a1 M)
  unfold f_X0_fillSupport
  refine rw_aload_n C dX0_fillSupport_0 rfl 0 rfl ?_
  refine rw_getR (k0 := 158) (k1 := 170) C dX0_fillSupport_1 fl_X0_29 rfl (by decide) sh_158 (by decide) rfl ?_
  refine rw_iconst (c := 0) C dX0_fillSupport_4 ci_0 ?_
  refine rw_callSu (As := [.ref (κ.1 + 170), .int 0]) C hR dX0_fillSupport_5 cs_X0_84 (k_J7_fill_53178 g.2.1 κ 170 0 M) (by decide) (by decide) rfl (Nat.le_of_ble_eq_true rfl) rfl (fun u1 M1 => ?_)
  refine rw_iconst (c := 0) C dX0_fillSupport_8 ci_0 ?_
  refine rw_istore_n (lv' := [(2, .int 0), (0, .ref (κ.1 + 158)), (1, .int a1)]) C dX0_fillSupport_9 rfl (by decide) rfl ?_
  refine rw_lv (lv' := [(0, .ref (κ.1 + 158)), (1, .int a1), (2, .int 0)]) [1, 2, 0] rfl ?_
  refine pv_lp2_ind (fun x1 M2 xx => pv_R g κ pv_T pv_RF 5 0 0 (pv_QF g κ pv_ju) 10 [(0, .ref (κ.1 + 158)), (1, .int a1), (2, .int x1)] [] M2 xx) (fun _ _ => rw_none) (fun rec1 hrec1 x1 M2 => ?_) _ _ _
  unfold f_X0_fillSupport_L10
  refine rw_iload_n C dX0_fillSupport_10 rfl 2 rfl ?_
  refine rw_aload_n C dX0_fillSupport_11 rfl 0 rfl ?_
  refine rw_getR (k0 := 158) (k1 := 39) C dX0_fillSupport_12 fl_X0_44 rfl (by decide) sh_158 (by decide) rfl ?_
  refine rw_getI (k0 := 39) C dX0_fillSupport_15 fl_X0_48 rfl (by decide) sh_39 (by decide) (fun x2 => ?_)
  refine rw_icmp_ge (tgt := 112) C dX0_fillSupport_18 (by decide) ?_ ?_
  · exact rw_vret C dX0_fillSupport_112
  · refine rw_aload_n C dX0_fillSupport_21 rfl 0 rfl ?_
    refine rw_getR (k0 := 158) (k1 := 39) C dX0_fillSupport_22 fl_X0_44 rfl (by decide) sh_158 (by decide) rfl ?_
    refine rw_iload_n C dX0_fillSupport_25 rfl 2 rfl ?_
    refine rw_iconst (c := 0) C dX0_fillSupport_26 ci_0 ?_
    refine rw_aload_n C dX0_fillSupport_27 rfl 0 rfl ?_
    refine rw_getR (k0 := 158) (k1 := 159) C dX0_fillSupport_28 fl_X0_9 rfl (by decide) sh_158 (by decide) rfl ?_
    refine rw_callVu (As := [.int x1, .int 0, .ref (κ.1 + 159)]) (k0 := 39) C hR dX0_fillSupport_31 cv_X0_90 (k_X2_fillGains g.2.1 κ x1 0 159 M2) (by decide) (by decide) (by decide) sh_39 rfl rfl (Nat.le_of_ble_eq_true rfl) rfl (fun u2 M3 => ?_)
    refine rw_iconst (c := 1) C dX0_fillSupport_34 ci_1 ?_
    refine rw_istore_n (lv' := [(3, .int 1), (0, .ref (κ.1 + 158)), (1, .int a1), (2, .int x1)]) C dX0_fillSupport_35 rfl (by decide) rfl ?_
    refine rw_lv (lv' := [(0, .ref (κ.1 + 158)), (1, .int a1), (2, .int x1), (3, .int 1)]) [1, 2, 3, 0] rfl ?_
    refine pv_lp2_ind (fun x3 M4 xx => pv_R g κ pv_T pv_RF 5 0 0 (pv_QF g κ pv_ju) 36 [(0, .ref (κ.1 + 158)), (1, .int a1), (2, .int x1), (3, .int x3)] [] M4 xx) (fun _ _ => rw_none) (fun rec2 hrec2 x3 M4 => ?_) _ _ _
    unfold f_X0_fillSupport_L36
    refine rw_iload_n C dX0_fillSupport_36 rfl 3 rfl ?_
    refine rw_bipush (c := 9) C dX0_fillSupport_37 (by decide) ?_
    refine rw_icmp_gt (tgt := 106) C dX0_fillSupport_39 (by decide) ?_ ?_
    · refine rw_iinc (c := 1) (lv' := [(2, .int (x1 + 1)), (0, .ref (κ.1 + 158)), (1, .int a1), (3, .int x3)]) C dX0_fillSupport_106 2 rfl (by decide) (by decide) rfl ?_
      refine rw_goto (tgt := 10) C dX0_fillSupport_109 (by decide) ?_
      exact rw_lv [1, 2, 0] rfl (hrec1 (x1 + 1) M4)
    · refine rw_aload_n C dX0_fillSupport_42 rfl 0 rfl ?_
      refine rw_getR (k0 := 158) (k1 := 159) C dX0_fillSupport_43 fl_X0_9 rfl (by decide) sh_158 (by decide) rfl ?_
      refine rw_iload_n C dX0_fillSupport_46 rfl 1 rfl ?_
      refine rw_aload_n C dX0_fillSupport_47 rfl 0 rfl ?_
      refine rw_getR (k0 := 158) (k1 := 39) C dX0_fillSupport_48 fl_X0_44 rfl (by decide) sh_158 (by decide) rfl ?_
      refine rw_iload_n C dX0_fillSupport_51 rfl 2 rfl ?_
      refine rw_callVPi (As := [.int x1]) (k0 := 39) C hR dX0_fillSupport_52 cv_X0_116 (k_X2_owed g.2.1 κ x1 M4) (by decide) (by decide) (by decide) sh_39 rfl rfl (Nat.le_of_ble_eq_true rfl) rfl (fun x4 => ?_)
      refine rw_iload_n C dX0_fillSupport_55 rfl 3 rfl ?_
      refine rw_imul C dX0_fillSupport_56 ?_
      refine rw_stI C dX0_fillSupport_57 (fun M5 => ?_)
      refine rw_aload_n C dX0_fillSupport_58 rfl 0 rfl ?_
      refine rw_getR (k0 := 158) (k1 := 39) C dX0_fillSupport_59 fl_X0_44 rfl (by decide) sh_158 (by decide) rfl ?_
      refine rw_iload_n C dX0_fillSupport_62 rfl 2 rfl ?_
      refine rw_callVPi (As := [.int x1]) (k0 := 39) C hR dX0_fillSupport_63 cv_X0_119 (k_X2_unitOf g.2.1 κ x1 M5) (by decide) (by decide) (by decide) sh_39 rfl rfl (Nat.le_of_ble_eq_true rfl) rfl (fun x5 => ?_)
      refine rw_iload_n C dX0_fillSupport_66 rfl 3 rfl ?_
      refine rw_callSPi (As := [.int x5, .int x3]) C hR dX0_fillSupport_67 cs_X0_122 (k_X0_supportPlace g.2.1 κ x5 x3 M5) (by decide) (by decide) rfl (Nat.le_of_ble_eq_true rfl) rfl (fun x6 => ?_)
      refine rw_istore (lv' := [(4, .int x6), (0, .ref (κ.1 + 158)), (1, .int a1), (2, .int x1), (3, .int x3)]) C dX0_fillSupport_70 (by decide) rfl ?_
      refine rw_aload_n C dX0_fillSupport_72 rfl 1 rfl ?_
      refine rw_getR (k0 := 158) (k1 := 170) C dX0_fillSupport_73 fl_X0_29 rfl (by decide) sh_158 (by decide) rfl ?_
      refine rw_iload C dX0_fillSupport_76 0 rfl ?_
      refine rw_aload_n C dX0_fillSupport_78 rfl 1 rfl ?_
      refine rw_getR (k0 := 158) (k1 := 159) C dX0_fillSupport_79 fl_X0_9 rfl (by decide) sh_158 (by decide) rfl ?_
      refine rw_iconst (c := 0) C dX0_fillSupport_82 ci_0 ?_
      refine rw_aload_n C dX0_fillSupport_83 rfl 1 rfl ?_
      refine rw_getR (k0 := 158) (k1 := 39) C dX0_fillSupport_84 fl_X0_44 rfl (by decide) sh_158 (by decide) rfl ?_
      refine rw_getI (k0 := 39) C dX0_fillSupport_87 fl_X0_62 rfl (by decide) sh_39 (by decide) (fun x7 => ?_)
      refine rw_iconst (c := (-1)) C dX0_fillSupport_90 ci_m1 ?_
      refine rw_callNPi (As := [.ref (κ.1 + 159), .int 0, .int x7, .int (-1)]) C hR dX0_fillSupport_91 cn_X0_94 (k_X8_greatest g.2.1 κ 159 0 x7 ((-1)) M5) (by decide) (by decide) rfl (Nat.le_of_ble_eq_true rfl) rfl (fun x8 => ?_)
      refine rw_iadd C dX0_fillSupport_94 ?_
      refine rw_nm (fun x9 => ?_)
      refine rw_dup2 C dX0_fillSupport_95 rfl rfl ?_
      refine rw_ldI C dX0_fillSupport_96 (fun x10 => ?_)
      refine rw_iconst (c := 1) C dX0_fillSupport_97 ci_1 ?_
      refine rw_iadd C dX0_fillSupport_98 ?_
      refine rw_stI C dX0_fillSupport_99 (fun M6 => ?_)
      refine rw_iinc (c := 1) (lv' := [(3, .int (x3 + 1)), (4, .int x6), (0, .ref (κ.1 + 158)), (1, .int a1), (2, .int x1)]) C dX0_fillSupport_100 4 rfl (by decide) (by decide) rfl ?_
      refine rw_goto (tgt := 36) C dX0_fillSupport_103 (by decide) ?_
      exact rw_lv [2, 3, 4, 0] rfl (hrec2 (x3 + 1) M6)
def f_X2_figure (a1 : Int32) (a2 : Int32) (a3 : Int32) (M : pv_M) : Option Int32 := pv_ldR pv_T 40 a1 (fun k1 => pv_ldI pv_T k1 ((a2 * 3) + a3) M (fun x1 => some x1))
set_option maxHeartbeats 4000000 in
set_option maxRecDepth 100000 in
theorem k_X2_figure (l : Launch) (κ : pv_K) (a1 : Int32) (a2 : Int32) (a3 : Int32) (M : pv_M) : pv_MtP l yX2_figure cX2_figure 4 (some .int) 0 κ [.ref (κ.1 + 39), .int a1, .int a2, .int a3] M pv_ji (f_X2_figure a1 a2 a3 M) := by
  refine pv_enterP (by decide +kernel) (Nat.le_of_ble_eq_true rfl) (fun g hl hR C => ?_)
  have C : pv_Ok g κ 4 cX2_figure RX2 (some .int) := C
  show pv_R g κ pv_T pv_RF 4 0 0 (pv_QP g κ pv_ji M) 0 [(0, .ref (κ.1 + 39)), (1, .int a1), (2, .int a2), (3, .int a3)] [] M (f_X2_figure a1 a2 a3 M)
  unfold f_X2_figure
  refine rw_aload_n C dX2_figure_0 rfl 0 rfl ?_
  refine rw_getR (k0 := 39) (k1 := 40) C dX2_figure_1 fl_X2_11 rfl (by decide) sh_39 (by decide) rfl ?_
  refine rw_iload_n C dX2_figure_4 rfl 1 rfl ?_
  refine rw_ldR C dX2_figure_5 (fun k1 => ?_)
  refine rw_iload_n C dX2_figure_6 rfl 2 rfl ?_
  refine rw_iconst (c := 3) C dX2_figure_7 ci_3 ?_
  refine rw_imul C dX2_figure_8 ?_
  refine rw_iload_n C dX2_figure_9 rfl 3 rfl ?_
  refine rw_iadd C dX2_figure_10 ?_
  refine rw_ldI C dX2_figure_11 (fun x1 => ?_)
  exact rw_iretP C dX2_figure_12
def f_X0_tryTicket_L75 (j2 : pv_M → Option (Unit × pv_M)) (a2 : Int32) (a3 : Int32) (a4 : Int32) (rec1 : Int32 → pv_M → Option (Unit × pv_M)) (x11 : Int32) (M4 : pv_M) : Option (Unit × pv_M) := pv_nm (M4.1 39 0) (fun x12 => (if x12 ≤ x11 then j2 M4 else pv_cap (f_X0_supportPlace 0 a2 M4) (fun x13 => pv_ldI pv_T 170 (x13 + x11) M4 (fun x14 => pv_cap (f_X0_supportPlace 1 a3 M4) (fun x15 => pv_ldI pv_T 170 (x15 + x11) M4 (fun x16 => pv_cap (f_X0_supportPlace 2 a4 M4) (fun x17 => pv_ldI pv_T 170 (x17 + x11) M4 (fun x18 => pv_stI pv_T 160 x11 ((x14 + x16) + x18) M4 (fun M5 => rec1 (x11 + 1) M5)))))))))
def f_X0_tryTicket_J72 (a1 : Int32) (a2 : Int32) (a3 : Int32) (a4 : Int32) (x7 : Int32) (M : pv_M) : Option (Unit × pv_M) := pv_jn (fun (M1 : pv_M) => pv_nm (M1.1 39 0) (fun x9 => pv_cap (f_X8_greatest 160 0 x9 ((-1)) M1) (fun x10 => (if x10 = a1 then pv_stI pv_T 172 a1 (((100 * a2) + (10 * a3)) + a4) M1 (fun M2 => pv_stI pv_T 173 a1 x7 M2 (fun M3 => some ((), M3))) else some ((), M1))))) (fun j2 => pv_lp2 (f_X0_tryTicket_L75 j2 a2 a3 a4) pv_FU 0 M)
def f_X0_tryTicket (a1 : Int32) (a2 : Int32) (a3 : Int32) (a4 : Int32) (M : pv_M) : Option (Unit × pv_M) := pv_cap (f_X2_figure 0 a1 0 M) (fun x1 => pv_nm (a2 - x1) (fun x2 => pv_cap (f_X2_figure 0 a1 1 M) (fun x3 => pv_nm (a3 - x3) (fun x4 => pv_cap (f_X2_figure 0 a1 2 M) (fun x5 => pv_nm (a4 - x5) (fun x6 => pv_nm (((if 0 ≤ x2 then x2 else 0 - x2) + (if 0 ≤ x4 then x4 else 0 - x4)) + (if 0 ≤ x6 then x6 else 0 - x6)) (fun x7 => pv_ldI pv_T 172 a1 M (fun x8 => pv_jn (f_X0_tryTicket_J72 a1 a2 a3 a4 x7 M) (fun j1 => (if x8 = ((-1)) then j1 else pv_ldI pv_T 173 a1 M (fun x19 => (if x7 < x19 then j1 else some ((), M)))))))))))))
set_option maxHeartbeats 4000000 in
set_option maxRecDepth 100000 in
theorem k_X0_tryTicket (l : Launch) (κ : pv_K) (a1 : Int32) (a2 : Int32) (a3 : Int32) (a4 : Int32) (M : pv_M) : pv_Mt l yX0_tryTicket cX0_tryTicket 7 none 1 κ [.ref (κ.1 + 158), .int a1, .int a2, .int a3, .int a4] M pv_ju (f_X0_tryTicket a1 a2 a3 a4 M) := by
  refine pv_enter (by decide +kernel) (Nat.le_of_ble_eq_true rfl) (fun g hl hR C => ?_)
  have C : pv_Ok g κ 7 cX0_tryTicket RX0 none := C
  show pv_R g κ pv_T pv_RF 7 0 0 (pv_QF g κ pv_ju) 0 [(0, .ref (κ.1 + 158)), (1, .int a1), (2, .int a2), (3, .int a3), (4, .int a4)] [] M (f_X0_tryTicket a1 a2 a3 a4 M)
  unfold f_X0_tryTicket
  refine rw_iload_n C dX0_tryTicket_0 rfl 2 rfl ?_
  refine rw_aload_n C dX0_tryTicket_1 rfl 0 rfl ?_
  refine rw_getR (k0 := 158) (k1 := 39) C dX0_tryTicket_2 fl_X0_44 rfl (by decide) sh_158 (by decide) rfl ?_
  refine rw_iconst (c := 0) C dX0_tryTicket_5 ci_0 ?_
  refine rw_iload_n C dX0_tryTicket_6 rfl 1 rfl ?_
  refine rw_iconst (c := 0) C dX0_tryTicket_7 ci_0 ?_
  refine rw_callVPi (As := [.int 0, .int a1, .int 0]) (k0 := 39) C hR dX0_tryTicket_8 cv_X0_125 (k_X2_figure g.2.1 κ 0 a1 0 M) (by decide) (by decide) (by decide) sh_39 rfl rfl (Nat.le_of_ble_eq_true rfl) rfl (fun x1 => ?_)
  refine rw_isub C dX0_tryTicket_11 ?_
  refine rw_nm (fun x2 => ?_)
  refine rw_abs C hR dX0_tryTicket_12 ⟨mw_736, mw_380, mw_381, mw_382⟩ (by decide) (Nat.le_of_ble_eq_true rfl) ⟨rfl, rfl⟩ ?_
  refine rw_iload_n C dX0_tryTicket_15 rfl 3 rfl ?_
  refine rw_aload_n C dX0_tryTicket_16 rfl 0 rfl ?_
  refine rw_getR (k0 := 158) (k1 := 39) C dX0_tryTicket_17 fl_X0_44 rfl (by decide) sh_158 (by decide) rfl ?_
  refine rw_iconst (c := 0) C dX0_tryTicket_20 ci_0 ?_
  refine rw_iload_n C dX0_tryTicket_21 rfl 1 rfl ?_
  refine rw_iconst (c := 1) C dX0_tryTicket_22 ci_1 ?_
  refine rw_callVPi (As := [.int 0, .int a1, .int 1]) (k0 := 39) C hR dX0_tryTicket_23 cv_X0_125 (k_X2_figure g.2.1 κ 0 a1 1 M) (by decide) (by decide) (by decide) sh_39 rfl rfl (Nat.le_of_ble_eq_true rfl) rfl (fun x3 => ?_)
  refine rw_isub C dX0_tryTicket_26 ?_
  refine rw_nm (fun x4 => ?_)
  refine rw_abs C hR dX0_tryTicket_27 ⟨mw_736, mw_380, mw_381, mw_382⟩ (by decide) (Nat.le_of_ble_eq_true rfl) ⟨rfl, rfl⟩ ?_
  refine rw_iadd C dX0_tryTicket_30 ?_
  refine rw_iload C dX0_tryTicket_31 4 rfl ?_
  refine rw_aload_n C dX0_tryTicket_33 rfl 0 rfl ?_
  refine rw_getR (k0 := 158) (k1 := 39) C dX0_tryTicket_34 fl_X0_44 rfl (by decide) sh_158 (by decide) rfl ?_
  refine rw_iconst (c := 0) C dX0_tryTicket_37 ci_0 ?_
  refine rw_iload_n C dX0_tryTicket_38 rfl 1 rfl ?_
  refine rw_iconst (c := 2) C dX0_tryTicket_39 ci_2 ?_
  refine rw_callVPi (As := [.int 0, .int a1, .int 2]) (k0 := 39) C hR dX0_tryTicket_40 cv_X0_125 (k_X2_figure g.2.1 κ 0 a1 2 M) (by decide) (by decide) (by decide) sh_39 rfl rfl (Nat.le_of_ble_eq_true rfl) rfl (fun x5 => ?_)
  refine rw_isub C dX0_tryTicket_43 ?_
  refine rw_nm (fun x6 => ?_)
  refine rw_abs C hR dX0_tryTicket_44 ⟨mw_736, mw_380, mw_381, mw_382⟩ (by decide) (Nat.le_of_ble_eq_true rfl) ⟨rfl, rfl⟩ ?_
  refine rw_iadd C dX0_tryTicket_47 ?_
  refine rw_nm (fun x7 => ?_)
  refine rw_istore (lv' := [(5, .int x7), (0, .ref (κ.1 + 158)), (1, .int a1), (2, .int a2), (3, .int a3), (4, .int a4)]) C dX0_tryTicket_48 (by decide) rfl ?_
  refine rw_aload_n C dX0_tryTicket_50 rfl 1 rfl ?_
  refine rw_getR (k0 := 158) (k1 := 172) C dX0_tryTicket_51 fl_X0_35 rfl (by decide) sh_158 (by decide) rfl ?_
  refine rw_iload_n C dX0_tryTicket_54 rfl 2 rfl ?_
  refine rw_ldI C dX0_tryTicket_55 (fun x8 => ?_)
  refine rw_iconst (c := (-1)) C dX0_tryTicket_56 ci_m1 ?_
  refine rw_jn (fun j1 => pv_R g κ pv_T pv_RF 7 0 0 (pv_QF g κ pv_ju) 72 [(0, .ref (κ.1 + 158)), (1, .int a1), (2, .int a2), (3, .int a3), (4, .int a4), (5, .int x7)] [] M (j1)) (?_) (fun j1 hj1 => ?_)
  · unfold f_X0_tryTicket_J72
    refine rw_iconst (c := 0) C dX0_tryTicket_72 ci_0 ?_
    refine rw_istore (lv' := [(6, .int 0), (0, .ref (κ.1 + 158)), (1, .int a1), (2, .int a2), (3, .int a3), (4, .int a4), (5, .int x7)]) C dX0_tryTicket_73 (by decide) rfl ?_
    refine rw_jn (fun j2 => ∀ (M1 : pv_M), pv_R g κ pv_T pv_RF 7 0 0 (pv_QF g κ pv_ju) 142 [(0, .ref (κ.1 + 158)), (1, .int a1), (2, .int a2), (3, .int a3), (4, .int a4), (5, .int x7)] [] M1 (j2 M1)) (fun M1 => ?_) (fun j2 hj2 => ?_)
    · refine rw_aload_n C dX0_tryTicket_142 rfl 0 rfl ?_
      refine rw_getR (k0 := 158) (k1 := 160) C dX0_tryTicket_143 fl_X0_15 rfl (by decide) sh_158 (by decide) rfl ?_
      refine rw_iconst (c := 0) C dX0_tryTicket_146 ci_0 ?_
      refine rw_aload_n C dX0_tryTicket_147 rfl 0 rfl ?_
      refine rw_getR (k0 := 158) (k1 := 39) C dX0_tryTicket_148 fl_X0_44 rfl (by decide) sh_158 (by decide) rfl ?_
      refine rw_getI (k0 := 39) C dX0_tryTicket_151 fl_X0_62 rfl (by decide) sh_39 (by decide) (fun x9 => ?_)
      refine rw_iconst (c := (-1)) C dX0_tryTicket_154 ci_m1 ?_
      refine rw_callNPi (As := [.ref (κ.1 + 160), .int 0, .int x9, .int (-1)]) C hR dX0_tryTicket_155 cn_X0_94 (k_X8_greatest g.2.1 κ 160 0 x9 ((-1)) M1) (by decide) (by decide) rfl (Nat.le_of_ble_eq_true rfl) rfl (fun x10 => ?_)
      refine rw_iload_n C dX0_tryTicket_158 rfl 1 rfl ?_
      refine rw_icmp_eq (tgt := 163) C dX0_tryTicket_159 (by decide) ?_ ?_
      · refine rw_aload_n C dX0_tryTicket_163 rfl 0 rfl ?_
        refine rw_getR (k0 := 158) (k1 := 172) C dX0_tryTicket_164 fl_X0_35 rfl (by decide) sh_158 (by decide) rfl ?_
        refine rw_iload_n C dX0_tryTicket_167 rfl 1 rfl ?_
        refine rw_bipush (c := 100) C dX0_tryTicket_168 (by decide) ?_
        refine rw_iload_n C dX0_tryTicket_170 rfl 2 rfl ?_
        refine rw_imul C dX0_tryTicket_171 ?_
        refine rw_bipush (c := 10) C dX0_tryTicket_172 (by decide) ?_
        refine rw_iload_n C dX0_tryTicket_174 rfl 3 rfl ?_
        refine rw_imul C dX0_tryTicket_175 ?_
        refine rw_iadd C dX0_tryTicket_176 ?_
        refine rw_iload C dX0_tryTicket_177 4 rfl ?_
        refine rw_iadd C dX0_tryTicket_179 ?_
        refine rw_stI C dX0_tryTicket_180 (fun M2 => ?_)
        refine rw_aload_n C dX0_tryTicket_181 rfl 0 rfl ?_
        refine rw_getR (k0 := 158) (k1 := 173) C dX0_tryTicket_182 fl_X0_38 rfl (by decide) sh_158 (by decide) rfl ?_
        refine rw_iload_n C dX0_tryTicket_185 rfl 1 rfl ?_
        refine rw_iload C dX0_tryTicket_186 5 rfl ?_
        refine rw_stI C dX0_tryTicket_188 (fun M3 => ?_)
        exact rw_vret C dX0_tryTicket_189
      · exact rw_vret C dX0_tryTicket_162
    · refine rw_lv (lv' := [(0, .ref (κ.1 + 158)), (1, .int a1), (2, .int a2), (3, .int a3), (4, .int a4), (5, .int x7), (6, .int 0)]) [1, 2, 3, 4, 5, 6, 0] rfl ?_
      refine pv_lp2_ind (fun x11 M4 xx => pv_R g κ pv_T pv_RF 7 0 0 (pv_QF g κ pv_ju) 75 [(0, .ref (κ.1 + 158)), (1, .int a1), (2, .int a2), (3, .int a3), (4, .int a4), (5, .int x7), (6, .int x11)] [] M4 xx) (fun _ _ => rw_none) (fun rec1 hrec1 x11 M4 => ?_) _ _ _
      unfold f_X0_tryTicket_L75
      refine rw_iload C dX0_tryTicket_75 6 rfl ?_
      refine rw_aload_n C dX0_tryTicket_77 rfl 0 rfl ?_
      refine rw_getR (k0 := 158) (k1 := 39) C dX0_tryTicket_78 fl_X0_44 rfl (by decide) sh_158 (by decide) rfl ?_
      refine rw_getI (k0 := 39) C dX0_tryTicket_81 fl_X0_62 rfl (by decide) sh_39 (by decide) (fun x12 => ?_)
      refine rw_icmp_ge (tgt := 142) C dX0_tryTicket_84 (by decide) ?_ ?_
      · exact rw_lv [0, 1, 2, 3, 4, 5] rfl (hj2 M4)
      · refine rw_aload_n C dX0_tryTicket_87 rfl 0 rfl ?_
        refine rw_getR (k0 := 158) (k1 := 160) C dX0_tryTicket_88 fl_X0_15 rfl (by decide) sh_158 (by decide) rfl ?_
        refine rw_iload C dX0_tryTicket_91 6 rfl ?_
        refine rw_aload_n C dX0_tryTicket_93 rfl 0 rfl ?_
        refine rw_getR (k0 := 158) (k1 := 170) C dX0_tryTicket_94 fl_X0_29 rfl (by decide) sh_158 (by decide) rfl ?_
        refine rw_iconst (c := 0) C dX0_tryTicket_97 ci_0 ?_
        refine rw_iload_n C dX0_tryTicket_98 rfl 2 rfl ?_
        refine rw_callSPi (As := [.int 0, .int a2]) C hR dX0_tryTicket_99 cs_X0_122 (k_X0_supportPlace g.2.1 κ 0 a2 M4) (by decide) (by decide) rfl (Nat.le_of_ble_eq_true rfl) rfl (fun x13 => ?_)
        refine rw_iload C dX0_tryTicket_102 6 rfl ?_
        refine rw_iadd C dX0_tryTicket_104 ?_
        refine rw_ldI C dX0_tryTicket_105 (fun x14 => ?_)
        refine rw_aload_n C dX0_tryTicket_106 rfl 0 rfl ?_
        refine rw_getR (k0 := 158) (k1 := 170) C dX0_tryTicket_107 fl_X0_29 rfl (by decide) sh_158 (by decide) rfl ?_
        refine rw_iconst (c := 1) C dX0_tryTicket_110 ci_1 ?_
        refine rw_iload_n C dX0_tryTicket_111 rfl 3 rfl ?_
        refine rw_callSPi (As := [.int 1, .int a3]) C hR dX0_tryTicket_112 cs_X0_122 (k_X0_supportPlace g.2.1 κ 1 a3 M4) (by decide) (by decide) rfl (Nat.le_of_ble_eq_true rfl) rfl (fun x15 => ?_)
        refine rw_iload C dX0_tryTicket_115 6 rfl ?_
        refine rw_iadd C dX0_tryTicket_117 ?_
        refine rw_ldI C dX0_tryTicket_118 (fun x16 => ?_)
        refine rw_iadd C dX0_tryTicket_119 ?_
        refine rw_aload_n C dX0_tryTicket_120 rfl 0 rfl ?_
        refine rw_getR (k0 := 158) (k1 := 170) C dX0_tryTicket_121 fl_X0_29 rfl (by decide) sh_158 (by decide) rfl ?_
        refine rw_iconst (c := 2) C dX0_tryTicket_124 ci_2 ?_
        refine rw_iload C dX0_tryTicket_125 4 rfl ?_
        refine rw_callSPi (As := [.int 2, .int a4]) C hR dX0_tryTicket_127 cs_X0_122 (k_X0_supportPlace g.2.1 κ 2 a4 M4) (by decide) (by decide) rfl (Nat.le_of_ble_eq_true rfl) rfl (fun x17 => ?_)
        refine rw_iload C dX0_tryTicket_130 6 rfl ?_
        refine rw_iadd C dX0_tryTicket_132 ?_
        refine rw_ldI C dX0_tryTicket_133 (fun x18 => ?_)
        refine rw_iadd C dX0_tryTicket_134 ?_
        refine rw_stI C dX0_tryTicket_135 (fun M5 => ?_)
        refine rw_iinc (c := 1) (lv' := [(6, .int (x11 + 1)), (0, .ref (κ.1 + 158)), (1, .int a1), (2, .int a2), (3, .int a3), (4, .int a4), (5, .int x7)]) C dX0_tryTicket_136 6 rfl (by decide) (by decide) rfl ?_
        refine rw_goto (tgt := 75) C dX0_tryTicket_139 (by decide) ?_
        exact rw_lv [1, 2, 3, 4, 5, 6, 0] rfl (hrec1 (x11 + 1) M5)
  · refine rw_icmp_eq (tgt := 72) C dX0_tryTicket_57 (by decide) ?_ ?_
    · exact rw_lv [1, 2, 3, 4, 5, 0] rfl (hj1 )
    · refine rw_iload C dX0_tryTicket_60 0 rfl ?_
      refine rw_aload_n C dX0_tryTicket_62 rfl 1 rfl ?_
      refine rw_getR (k0 := 158) (k1 := 173) C dX0_tryTicket_63 fl_X0_38 rfl (by decide) sh_158 (by decide) rfl ?_
      refine rw_iload_n C dX0_tryTicket_66 rfl 2 rfl ?_
      refine rw_ldI C dX0_tryTicket_67 (fun x19 => ?_)
      refine rw_icmp_lt (tgt := 72) C dX0_tryTicket_68 (by decide) ?_ ?_
      · exact rw_lv [1, 2, 3, 4, 5, 0] rfl (hj1 )
      · exact rw_vret C dX0_tryTicket_71
def f_X0_findWin_L68 (rec2 : Int32 → pv_M → Option (Unit × pv_M)) (x5 : Int32) (a1 : Int32) (x4 : Int32) (rec3 : Int32 → pv_M → Option (Unit × pv_M)) (x6 : Int32) (M7 : pv_M) : Option (Unit × pv_M) := (if 9 < x6 then rec2 (x5 + 1) M7 else pv_cal (f_X0_tryTicket a1 x4 x5 x6 M7) (fun u2 M8 => rec3 (x6 + 1) M8))
def f_X0_findWin_L59 (rec1 : Int32 → pv_M → Option (Unit × pv_M)) (x4 : Int32) (a1 : Int32) (rec2 : Int32 → pv_M → Option (Unit × pv_M)) (x5 : Int32) (M6 : pv_M) : Option (Unit × pv_M) := (if 9 < x5 then rec1 (x4 + 1) M6 else pv_lp2 (f_X0_findWin_L68 rec2 x5 a1 x4) pv_FU 1 M6)
def f_X0_findWin_L51 (a1 : Int32) (rec1 : Int32 → pv_M → Option (Unit × pv_M)) (x4 : Int32) (M5 : pv_M) : Option (Unit × pv_M) := (if 9 < x4 then some ((), M5) else pv_lp2 (f_X0_findWin_L59 rec1 x4 a1) pv_FU 1 M5)
def f_X0_findWin (a1 : Int32) (M : pv_M) : Option (Unit × pv_M) := pv_ldI pv_T 171 a1 M (fun x1 => pv_nm (M.1 39 2) (fun x2 => (if x1 = x2 then some ((), M) else pv_nm (M.1 39 2) (fun x3 => pv_stI pv_T 171 a1 x3 M (fun M1 => pv_stI pv_T 172 a1 ((-1)) M1 (fun M2 => pv_stI pv_T 173 a1 ((-1)) M2 (fun M3 => pv_cal (f_X0_fillSupport a1 M3) (fun u1 M4 => pv_lp2 (f_X0_findWin_L51 a1) pv_FU 1 M4))))))))
set_option maxHeartbeats 4000000 in
set_option maxRecDepth 100000 in
theorem k_X0_findWin (l : Launch) (κ : pv_K) (a1 : Int32) (M : pv_M) : pv_Mt l yX0_findWin cX0_findWin 5 none 3 κ [.ref (κ.1 + 158), .int a1] M pv_ju (f_X0_findWin a1 M) := by
  refine pv_enter (by decide +kernel) (Nat.le_of_ble_eq_true rfl) (fun g hl hR C => ?_)
  have C : pv_Ok g κ 5 cX0_findWin RX0 none := C
  show pv_R g κ pv_T pv_RF 5 0 0 (pv_QF g κ pv_ju) 0 [(0, .ref (κ.1 + 158)), (1, .int a1)] [] M (f_X0_findWin a1 M)
  unfold f_X0_findWin
  refine rw_aload_n C dX0_findWin_0 rfl 0 rfl ?_
  refine rw_getR (k0 := 158) (k1 := 171) C dX0_findWin_1 fl_X0_32 rfl (by decide) sh_158 (by decide) rfl ?_
  refine rw_iload_n C dX0_findWin_4 rfl 1 rfl ?_
  refine rw_ldI C dX0_findWin_5 (fun x1 => ?_)
  refine rw_aload_n C dX0_findWin_6 rfl 0 rfl ?_
  refine rw_getR (k0 := 158) (k1 := 39) C dX0_findWin_7 fl_X0_44 rfl (by decide) sh_158 (by decide) rfl ?_
  refine rw_getI (k0 := 39) C dX0_findWin_10 fl_X0_75 rfl (by decide) sh_39 (by decide) (fun x2 => ?_)
  refine rw_icmp_ne (tgt := 17) C dX0_findWin_13 (by decide) ?_ ?_
  · refine rw_aload_n C dX0_findWin_17 rfl 0 rfl ?_
    refine rw_getR (k0 := 158) (k1 := 171) C dX0_findWin_18 fl_X0_32 rfl (by decide) sh_158 (by decide) rfl ?_
    refine rw_iload_n C dX0_findWin_21 rfl 1 rfl ?_
    refine rw_aload_n C dX0_findWin_22 rfl 0 rfl ?_
    refine rw_getR (k0 := 158) (k1 := 39) C dX0_findWin_23 fl_X0_44 rfl (by decide) sh_158 (by decide) rfl ?_
    refine rw_getI (k0 := 39) C dX0_findWin_26 fl_X0_75 rfl (by decide) sh_39 (by decide) (fun x3 => ?_)
    refine rw_stI C dX0_findWin_29 (fun M1 => ?_)
    refine rw_aload_n C dX0_findWin_30 rfl 0 rfl ?_
    refine rw_getR (k0 := 158) (k1 := 172) C dX0_findWin_31 fl_X0_35 rfl (by decide) sh_158 (by decide) rfl ?_
    refine rw_iload_n C dX0_findWin_34 rfl 1 rfl ?_
    refine rw_iconst (c := (-1)) C dX0_findWin_35 ci_m1 ?_
    refine rw_stI C dX0_findWin_36 (fun M2 => ?_)
    refine rw_aload_n C dX0_findWin_37 rfl 0 rfl ?_
    refine rw_getR (k0 := 158) (k1 := 173) C dX0_findWin_38 fl_X0_38 rfl (by decide) sh_158 (by decide) rfl ?_
    refine rw_iload_n C dX0_findWin_41 rfl 1 rfl ?_
    refine rw_iconst (c := (-1)) C dX0_findWin_42 ci_m1 ?_
    refine rw_stI C dX0_findWin_43 (fun M3 => ?_)
    refine rw_aload_n C dX0_findWin_44 rfl 0 rfl ?_
    refine rw_iload_n C dX0_findWin_45 rfl 1 rfl ?_
    refine rw_callVu (As := [.int a1]) (k0 := 158) C hR dX0_findWin_46 cv_X0_109 (k_X0_fillSupport g.2.1 κ a1 M3) (by decide) (by decide) (by decide) sh_158 rfl rfl (Nat.le_of_ble_eq_true rfl) rfl (fun u1 M4 => ?_)
    refine rw_iconst (c := 1) C dX0_findWin_49 ci_1 ?_
    refine rw_istore_n (lv' := [(2, .int 1), (0, .ref (κ.1 + 158)), (1, .int a1)]) C dX0_findWin_50 rfl (by decide) rfl ?_
    refine rw_lv (lv' := [(0, .ref (κ.1 + 158)), (1, .int a1), (2, .int 1)]) [1, 2, 0] rfl ?_
    refine pv_lp2_ind (fun x4 M5 xx => pv_R g κ pv_T pv_RF 5 0 0 (pv_QF g κ pv_ju) 51 [(0, .ref (κ.1 + 158)), (1, .int a1), (2, .int x4)] [] M5 xx) (fun _ _ => rw_none) (fun rec1 hrec1 x4 M5 => ?_) _ _ _
    unfold f_X0_findWin_L51
    refine rw_iload_n C dX0_findWin_51 rfl 2 rfl ?_
    refine rw_bipush (c := 9) C dX0_findWin_52 (by decide) ?_
    refine rw_icmp_gt (tgt := 102) C dX0_findWin_54 (by decide) ?_ ?_
    · exact rw_vret C dX0_findWin_102
    · refine rw_iconst (c := 1) C dX0_findWin_57 ci_1 ?_
      refine rw_istore_n (lv' := [(3, .int 1), (0, .ref (κ.1 + 158)), (1, .int a1), (2, .int x4)]) C dX0_findWin_58 rfl (by decide) rfl ?_
      refine rw_lv (lv' := [(0, .ref (κ.1 + 158)), (1, .int a1), (2, .int x4), (3, .int 1)]) [1, 2, 3, 0] rfl ?_
      refine pv_lp2_ind (fun x5 M6 xx => pv_R g κ pv_T pv_RF 5 0 0 (pv_QF g κ pv_ju) 59 [(0, .ref (κ.1 + 158)), (1, .int a1), (2, .int x4), (3, .int x5)] [] M6 xx) (fun _ _ => rw_none) (fun rec2 hrec2 x5 M6 => ?_) _ _ _
      unfold f_X0_findWin_L59
      refine rw_iload_n C dX0_findWin_59 rfl 3 rfl ?_
      refine rw_bipush (c := 9) C dX0_findWin_60 (by decide) ?_
      refine rw_icmp_gt (tgt := 96) C dX0_findWin_62 (by decide) ?_ ?_
      · refine rw_iinc (c := 1) (lv' := [(2, .int (x4 + 1)), (0, .ref (κ.1 + 158)), (1, .int a1), (3, .int x5)]) C dX0_findWin_96 2 rfl (by decide) (by decide) rfl ?_
        refine rw_goto (tgt := 51) C dX0_findWin_99 (by decide) ?_
        exact rw_lv [1, 2, 0] rfl (hrec1 (x4 + 1) M6)
      · refine rw_iconst (c := 1) C dX0_findWin_65 ci_1 ?_
        refine rw_istore (lv' := [(4, .int 1), (0, .ref (κ.1 + 158)), (1, .int a1), (2, .int x4), (3, .int x5)]) C dX0_findWin_66 (by decide) rfl ?_
        refine rw_lv (lv' := [(0, .ref (κ.1 + 158)), (1, .int a1), (2, .int x4), (3, .int x5), (4, .int 1)]) [1, 2, 3, 4, 0] rfl ?_
        refine pv_lp2_ind (fun x6 M7 xx => pv_R g κ pv_T pv_RF 5 0 0 (pv_QF g κ pv_ju) 68 [(0, .ref (κ.1 + 158)), (1, .int a1), (2, .int x4), (3, .int x5), (4, .int x6)] [] M7 xx) (fun _ _ => rw_none) (fun rec3 hrec3 x6 M7 => ?_) _ _ _
        unfold f_X0_findWin_L68
        refine rw_iload C dX0_findWin_68 4 rfl ?_
        refine rw_bipush (c := 9) C dX0_findWin_70 (by decide) ?_
        refine rw_icmp_gt (tgt := 90) C dX0_findWin_72 (by decide) ?_ ?_
        · refine rw_iinc (c := 1) (lv' := [(3, .int (x5 + 1)), (0, .ref (κ.1 + 158)), (1, .int a1), (2, .int x4), (4, .int x6)]) C dX0_findWin_90 3 rfl (by decide) (by decide) rfl ?_
          refine rw_goto (tgt := 59) C dX0_findWin_93 (by decide) ?_
          exact rw_lv [1, 2, 3, 0] rfl (hrec2 (x5 + 1) M7)
        · refine rw_aload_n C dX0_findWin_75 rfl 0 rfl ?_
          refine rw_iload_n C dX0_findWin_76 rfl 1 rfl ?_
          refine rw_iload_n C dX0_findWin_77 rfl 2 rfl ?_
          refine rw_iload_n C dX0_findWin_78 rfl 3 rfl ?_
          refine rw_iload C dX0_findWin_79 4 rfl ?_
          refine rw_callVu (As := [.int a1, .int x4, .int x5, .int x6]) (k0 := 158) C hR dX0_findWin_81 cv_X0_112 (k_X0_tryTicket g.2.1 κ a1 x4 x5 x6 M7) (by decide) (by decide) (by decide) sh_158 rfl rfl (Nat.le_of_ble_eq_true rfl) rfl (fun u2 M8 => ?_)
          refine rw_iinc (c := 1) (lv' := [(4, .int (x6 + 1)), (0, .ref (κ.1 + 158)), (1, .int a1), (2, .int x4), (3, .int x5)]) C dX0_findWin_84 4 rfl (by decide) (by decide) rfl ?_
          refine rw_goto (tgt := 68) C dX0_findWin_87 (by decide) ?_
          exact rw_lv [1, 2, 3, 4, 0] rfl (hrec3 (x6 + 1) M8)
  · exact rw_vret C dX0_findWin_16
def f_X0_winningTicket (a1 : Int32) (M : pv_M) : Option (Int32 × pv_M) := pv_cal (f_X0_findWin a1 M) (fun u1 M1 => pv_ldI pv_T 172 a1 M1 (fun x1 => some (x1, M1)))
set_option maxHeartbeats 4000000 in
set_option maxRecDepth 100000 in
theorem k_X0_winningTicket (l : Launch) (κ : pv_K) (a1 : Int32) (M : pv_M) : pv_Mt l yX0_winningTicket cX0_winningTicket 2 (some .int) 4 κ [.ref (κ.1 + 158), .int a1] M pv_ji (f_X0_winningTicket a1 M) := by
  refine pv_enter (by decide +kernel) (Nat.le_of_ble_eq_true rfl) (fun g hl hR C => ?_)
  have C : pv_Ok g κ 2 cX0_winningTicket RX0 (some .int) := C
  show pv_R g κ pv_T pv_RF 2 0 0 (pv_QF g κ pv_ji) 0 [(0, .ref (κ.1 + 158)), (1, .int a1)] [] M (f_X0_winningTicket a1 M)
  unfold f_X0_winningTicket
  refine rw_aload_n C dX0_winningTicket_0 rfl 0 rfl ?_
  refine rw_iload_n C dX0_winningTicket_1 rfl 1 rfl ?_
  refine rw_callVu (As := [.int a1]) (k0 := 158) C hR dX0_winningTicket_2 cv_X0_105 (k_X0_findWin g.2.1 κ a1 M) (by decide) (by decide) (by decide) sh_158 rfl rfl (Nat.le_of_ble_eq_true rfl) rfl (fun u1 M1 => ?_)
  refine rw_aload_n C dX0_winningTicket_5 rfl 0 rfl ?_
  refine rw_getR (k0 := 158) (k1 := 172) C dX0_winningTicket_6 fl_X0_35 rfl (by decide) sh_158 (by decide) rfl ?_
  refine rw_iload_n C dX0_winningTicket_9 rfl 1 rfl ?_
  refine rw_ldI C dX0_winningTicket_10 (fun x1 => ?_)
  exact rw_iret C dX0_winningTicket_11
def f_X0_winningUnlikeness (a1 : Int32) (M : pv_M) : Option (Int32 × pv_M) := pv_cal (f_X0_findWin a1 M) (fun u1 M1 => pv_ldI pv_T 173 a1 M1 (fun x1 => some (x1, M1)))
set_option maxHeartbeats 4000000 in
set_option maxRecDepth 100000 in
theorem k_X0_winningUnlikeness (l : Launch) (κ : pv_K) (a1 : Int32) (M : pv_M) : pv_Mt l yX0_winningUnlikeness cX0_winningUnlikeness 2 (some .int) 4 κ [.ref (κ.1 + 158), .int a1] M pv_ji (f_X0_winningUnlikeness a1 M) := by
  refine pv_enter (by decide +kernel) (Nat.le_of_ble_eq_true rfl) (fun g hl hR C => ?_)
  have C : pv_Ok g κ 2 cX0_winningUnlikeness RX0 (some .int) := C
  show pv_R g κ pv_T pv_RF 2 0 0 (pv_QF g κ pv_ji) 0 [(0, .ref (κ.1 + 158)), (1, .int a1)] [] M (f_X0_winningUnlikeness a1 M)
  unfold f_X0_winningUnlikeness
  refine rw_aload_n C dX0_winningUnlikeness_0 rfl 0 rfl ?_
  refine rw_iload_n C dX0_winningUnlikeness_1 rfl 1 rfl ?_
  refine rw_callVu (As := [.int a1]) (k0 := 158) C hR dX0_winningUnlikeness_2 cv_X0_105 (k_X0_findWin g.2.1 κ a1 M) (by decide) (by decide) (by decide) sh_158 rfl rfl (Nat.le_of_ble_eq_true rfl) rfl (fun u1 M1 => ?_)
  refine rw_aload_n C dX0_winningUnlikeness_5 rfl 0 rfl ?_
  refine rw_getR (k0 := 158) (k1 := 173) C dX0_winningUnlikeness_6 fl_X0_38 rfl (by decide) sh_158 (by decide) rfl ?_
  refine rw_iload_n C dX0_winningUnlikeness_9 rfl 1 rfl ?_
  refine rw_ldI C dX0_winningUnlikeness_10 (fun x1 => ?_)
  exact rw_iret C dX0_winningUnlikeness_11
