def f_X9_wins (a1 : Int32) (a2 : Int32) (M : pv_M) : Option (Int32 × pv_M) := pv_cal (f_X9_reads M) (fun u1 M1 => pv_cap (f_X9_isParty a1 M1) (fun x1 => (if x1 = 0 then some ((-2), M1) else pv_cap (f_X9_isTwo a2 M1) (fun x2 => (if x2 = 0 then some ((-2), M1) else pv_cal (f_X9_findWish a1 M1) (fun u2 M2 => pv_ldI pv_T 215 a2 M2 (fun x3 => some (x3, M2))))))))
set_option maxHeartbeats 4000000 in
set_option maxRecDepth 100000 in
theorem k_X9_wins (l : Launch) (κ : pv_K) (a1 : Int32) (a2 : Int32) (M : pv_M) : pv_Mt l yX9_wins cX9_wins 3 (some .int) 6 κ [.ref (κ.1 + 196), .int a1, .int a2] M pv_ji (f_X9_wins a1 a2 M) := by
  refine pv_enter (by decide +kernel) (Nat.le_of_ble_eq_true rfl) (fun g hl hR C => ?_)
  have C : pv_Ok g κ 3 cX9_wins RX9 (some .int) := C
  show pv_R g κ pv_T pv_RF 3 0 0 (pv_QF g κ pv_ji) 0 [(0, .ref (κ.1 + 196)), (1, .int a1), (2, .int a2)] [] M (f_X9_wins a1 a2 M)
  unfold f_X9_wins
  refine rw_aload_n C dX9_wins_0 rfl 0 rfl ?_
  refine rw_callVu (As := []) (k0 := 196) C hR dX9_wins_1 cv_X9_151 (k_X9_reads g.2.1 κ M) (by decide) (by decide) (by decide) sh_196 rfl rfl (Nat.le_of_ble_eq_true rfl) rfl (fun u1 M1 => ?_)
  refine rw_aload_n C dX9_wins_4 rfl 0 rfl ?_
  refine rw_iload_n C dX9_wins_5 rfl 1 rfl ?_
  refine rw_callVPi (As := [.int a1]) (k0 := 196) C hR dX9_wins_6 cv_X9_174 (k_X9_isParty g.2.1 κ a1 M1) (by decide) (by decide) (by decide) sh_196 rfl rfl (Nat.le_of_ble_eq_true rfl) rfl (fun x1 => ?_)
  refine rw_if_eq (tgt := 19) C dX9_wins_9 (by decide) ?_ ?_
  · refine rw_bipush (c := (-2)) C dX9_wins_19 (by decide) ?_
    exact rw_iret C dX9_wins_21
  · refine rw_iload_n C dX9_wins_12 rfl 2 rfl ?_
    refine rw_callSPi (As := [.int a2]) C hR dX9_wins_13 cs_X9_157 (k_X9_isTwo g.2.1 κ a2 M1) (by decide) (by decide) rfl (Nat.le_of_ble_eq_true rfl) rfl (fun x2 => ?_)
    refine rw_if_ne (tgt := 22) C dX9_wins_16 (by decide) ?_ ?_
    · refine rw_aload_n C dX9_wins_22 rfl 0 rfl ?_
      refine rw_iload_n C dX9_wins_23 rfl 1 rfl ?_
      refine rw_callVu (As := [.int a1]) (k0 := 196) C hR dX9_wins_24 cv_X9_271 (k_X9_findWish g.2.1 κ a1 M1) (by decide) (by decide) (by decide) sh_196 rfl rfl (Nat.le_of_ble_eq_true rfl) rfl (fun u2 M2 => ?_)
      refine rw_aload_n C dX9_wins_27 rfl 0 rfl ?_
      refine rw_getR (k0 := 196) (k1 := 215) C dX9_wins_28 fl_X9_64 rfl (by decide) sh_196 (by decide) rfl ?_
      refine rw_iload_n C dX9_wins_31 rfl 2 rfl ?_
      refine rw_ldI C dX9_wins_32 (fun x3 => ?_)
      exact rw_iret C dX9_wins_33
    · refine rw_bipush (c := (-2)) C dX9_wins_19 (by decide) ?_
      exact rw_iret C dX9_wins_21
def f_X9_isHedged_L9 (M : pv_M) (a1 : Int32) (a2 : Int32) (a3 : Int32) (a4 : Int32) (rec1 : Int32 → Int32 → Int32 → Option Int32) (x1 : Int32) (x2 : Int32) (x3 : Int32) : Option Int32 := pv_ldI pv_T 203 0 M (fun x4 => (if x4 ≤ x3 then (if x1 = 0 ∨ x1 = 1 then some x1 else none) else pv_cap (f_X9_gain 0 x3 a1 M) (fun x5 => pv_cap (f_X9_ticketOf 0 x3 0 M) (fun x6 => pv_cap (f_X9_ticketOf 0 x3 1 M) (fun x7 => pv_cap (f_X9_ticketOf 0 x3 2 M) (fun x8 => pv_nm (((x5 + (a2 * x6)) + (a3 * x7)) + (a4 * x8)) (fun x9 => pv_jn (fun (x10 : Int32) => (if x1 = 0 then rec1 0 x10 (x3 + 1) else (if x9 = x10 then rec1 1 x10 (x3 + 1) else rec1 0 x10 (x3 + 1)))) (fun j1 => (if x3 = 0 then j1 x9 else j1 x2)))))))))
def f_X9_isHedged (a1 : Int32) (a2 : Int32) (a3 : Int32) (a4 : Int32) (M : pv_M) : Option Int32 := pv_lp3 (f_X9_isHedged_L9 M a1 a2 a3 a4) pv_FU 1 0 0
set_option maxHeartbeats 4000000 in
set_option maxRecDepth 100000 in
theorem k_X9_isHedged (l : Launch) (κ : pv_K) (a1 : Int32) (a2 : Int32) (a3 : Int32) (a4 : Int32) (M : pv_M) : pv_MtP l yX9_isHedged cX9_isHedged 9 (some .boolean) 3 κ [.ref (κ.1 + 196), .int a1, .int a2, .int a3, .int a4] M pv_ji (f_X9_isHedged a1 a2 a3 a4 M) := by
  refine pv_enterP (by decide +kernel) (Nat.le_of_ble_eq_true rfl) (fun g hl hR C => ?_)
  have C : pv_Ok g κ 9 cX9_isHedged RX9 (some .boolean) := C
  show pv_R g κ pv_T pv_RF 9 0 0 (pv_QP g κ pv_ji M) 0 [(0, .ref (κ.1 + 196)), (1, .int a1), (2, .int a2), (3, .int a3), (4, .int a4)] [] M (f_X9_isHedged a1 a2 a3 a4 M)
  unfold f_X9_isHedged
  refine rw_iconst (c := 1) C dX9_isHedged_0 ci_1 ?_
  refine rw_istore (lv' := [(5, .int 1), (0, .ref (κ.1 + 196)), (1, .int a1), (2, .int a2), (3, .int a3), (4, .int a4)]) C dX9_isHedged_1 (by decide) rfl ?_
  refine rw_iconst (c := 0) C dX9_isHedged_3 ci_0 ?_
  refine rw_istore (lv' := [(6, .int 0), (5, .int 1), (0, .ref (κ.1 + 196)), (1, .int a1), (2, .int a2), (3, .int a3), (4, .int a4)]) C dX9_isHedged_4 (by decide) rfl ?_
  refine rw_iconst (c := 0) C dX9_isHedged_6 ci_0 ?_
  refine rw_istore (lv' := [(7, .int 0), (6, .int 0), (5, .int 1), (0, .ref (κ.1 + 196)), (1, .int a1), (2, .int a2), (3, .int a3), (4, .int a4)]) C dX9_isHedged_7 (by decide) rfl ?_
  refine rw_lv (lv' := [(0, .ref (κ.1 + 196)), (1, .int a1), (2, .int a2), (3, .int a3), (4, .int a4), (5, .int 1), (6, .int 0), (7, .int 0)]) [3, 4, 5, 6, 7, 2, 1, 0] rfl ?_
  refine pv_lp3_ind (fun x1 x2 x3 xx => pv_R g κ pv_T pv_RF 9 0 0 (pv_QP g κ pv_ji M) 9 [(0, .ref (κ.1 + 196)), (1, .int a1), (2, .int a2), (3, .int a3), (4, .int a4), (5, .int x1), (6, .int x2), (7, .int x3)] [] M xx) (fun _ _ _ => rw_none) (fun rec1 hrec1 x1 x2 x3 => ?_) _ _ _ _
  unfold f_X9_isHedged_L9
  refine rw_iload C dX9_isHedged_9 7 rfl ?_
  refine rw_aload_n C dX9_isHedged_11 rfl 0 rfl ?_
  refine rw_getR (k0 := 196) (k1 := 203) C dX9_isHedged_12 fl_X9_28 rfl (by decide) sh_196 (by decide) rfl ?_
  refine rw_iconst (c := 0) C dX9_isHedged_15 ci_0 ?_
  refine rw_ldI C dX9_isHedged_16 (fun x4 => ?_)
  refine rw_icmp_ge (tgt := 103) C dX9_isHedged_17 (by decide) ?_ ?_
  · refine rw_iload C dX9_isHedged_103 5 rfl ?_
    exact rw_zret_ckP C dX9_isHedged_105
  · refine rw_aload_n C dX9_isHedged_20 rfl 0 rfl ?_
    refine rw_iconst (c := 0) C dX9_isHedged_21 ci_0 ?_
    refine rw_iload C dX9_isHedged_22 7 rfl ?_
    refine rw_iload_n C dX9_isHedged_24 rfl 1 rfl ?_
    refine rw_callVPi (As := [.int 0, .int x3, .int a1]) (k0 := 196) C hR dX9_isHedged_25 cv_X9_186 (k_X9_gain g.2.1 κ 0 x3 a1 M) (by decide) (by decide) (by decide) sh_196 rfl rfl (Nat.le_of_ble_eq_true rfl) rfl (fun x5 => ?_)
    refine rw_iload_n C dX9_isHedged_28 rfl 2 rfl ?_
    refine rw_aload_n C dX9_isHedged_29 rfl 0 rfl ?_
    refine rw_iconst (c := 0) C dX9_isHedged_30 ci_0 ?_
    refine rw_iload C dX9_isHedged_31 7 rfl ?_
    refine rw_iconst (c := 0) C dX9_isHedged_33 ci_0 ?_
    refine rw_callVPi (As := [.int 0, .int x3, .int 0]) (k0 := 196) C hR dX9_isHedged_34 cv_X9_177 (k_X9_ticketOf g.2.1 κ 0 x3 0 M) (by decide) (by decide) (by decide) sh_196 rfl rfl (Nat.le_of_ble_eq_true rfl) rfl (fun x6 => ?_)
    refine rw_imul C dX9_isHedged_37 ?_
    refine rw_iadd C dX9_isHedged_38 ?_
    refine rw_iload_n C dX9_isHedged_39 rfl 3 rfl ?_
    refine rw_aload_n C dX9_isHedged_40 rfl 0 rfl ?_
    refine rw_iconst (c := 0) C dX9_isHedged_41 ci_0 ?_
    refine rw_iload C dX9_isHedged_42 7 rfl ?_
    refine rw_iconst (c := 1) C dX9_isHedged_44 ci_1 ?_
    refine rw_callVPi (As := [.int 0, .int x3, .int 1]) (k0 := 196) C hR dX9_isHedged_45 cv_X9_177 (k_X9_ticketOf g.2.1 κ 0 x3 1 M) (by decide) (by decide) (by decide) sh_196 rfl rfl (Nat.le_of_ble_eq_true rfl) rfl (fun x7 => ?_)
    refine rw_imul C dX9_isHedged_48 ?_
    refine rw_iadd C dX9_isHedged_49 ?_
    refine rw_iload C dX9_isHedged_50 4 rfl ?_
    refine rw_aload_n C dX9_isHedged_52 rfl 0 rfl ?_
    refine rw_iconst (c := 0) C dX9_isHedged_53 ci_0 ?_
    refine rw_iload C dX9_isHedged_54 7 rfl ?_
    refine rw_iconst (c := 2) C dX9_isHedged_56 ci_2 ?_
    refine rw_callVPi (As := [.int 0, .int x3, .int 2]) (k0 := 196) C hR dX9_isHedged_57 cv_X9_177 (k_X9_ticketOf g.2.1 κ 0 x3 2 M) (by decide) (by decide) (by decide) sh_196 rfl rfl (Nat.le_of_ble_eq_true rfl) rfl (fun x8 => ?_)
    refine rw_imul C dX9_isHedged_60 ?_
    refine rw_iadd C dX9_isHedged_61 ?_
    refine rw_nm (fun x9 => ?_)
    refine rw_istore (lv' := [(8, .int x9), (0, .ref (κ.1 + 196)), (1, .int a1), (2, .int a2), (3, .int a3), (4, .int a4), (5, .int x1), (6, .int x2), (7, .int x3)]) C dX9_isHedged_62 (by decide) rfl ?_
    refine rw_iload C dX9_isHedged_64 8 rfl ?_
    refine rw_jn (fun j1 => ∀ (x10 : Int32), pv_R g κ pv_T pv_RF 9 0 0 (pv_QP g κ pv_ji M) 76 [(0, .ref (κ.1 + 196)), (1, .int a1), (2, .int a2), (3, .int a3), (4, .int a4), (5, .int x1), (7, .int x3), (8, .int x9)] [.int x10] M (j1 x10)) (fun x10 => ?_) (fun j1 hj1 => ?_)
    · refine rw_istore (lv' := [(6, .int x10), (0, .ref (κ.1 + 196)), (1, .int a1), (2, .int a2), (3, .int a3), (4, .int a4), (5, .int x1), (7, .int x3), (8, .int x9)]) C dX9_isHedged_76 (by decide) rfl ?_
      refine rw_iload C dX9_isHedged_78 6 rfl ?_
      refine rw_if_eq (tgt := 94) C dX9_isHedged_80 (by decide) ?_ ?_
      · refine rw_iconst (c := 0) C dX9_isHedged_94 ci_0 ?_
        refine rw_istore (lv' := [(5, .int 0), (6, .int x10), (0, .ref (κ.1 + 196)), (1, .int a1), (2, .int a2), (3, .int a3), (4, .int a4), (7, .int x3), (8, .int x9)]) C dX9_isHedged_95 (by decide) rfl ?_
        refine rw_iinc (c := 1) (lv' := [(7, .int (x3 + 1)), (5, .int 0), (6, .int x10), (0, .ref (κ.1 + 196)), (1, .int a1), (2, .int a2), (3, .int a3), (4, .int a4), (8, .int x9)]) C dX9_isHedged_97 7 rfl (by decide) (by decide) rfl ?_
        refine rw_goto (tgt := 9) C dX9_isHedged_100 (by decide) ?_
        exact rw_lv [3, 4, 5, 6, 7, 1, 2, 0] rfl (hrec1 0 x10 (x3 + 1))
      · refine rw_iload C dX9_isHedged_83 8 rfl ?_
        refine rw_iload C dX9_isHedged_85 0 rfl ?_
        refine rw_icmp_ne (tgt := 94) C dX9_isHedged_87 (by decide) ?_ ?_
        · refine rw_iconst (c := 0) C dX9_isHedged_94 ci_0 ?_
          refine rw_istore (lv' := [(5, .int 0), (6, .int x10), (0, .ref (κ.1 + 196)), (1, .int a1), (2, .int a2), (3, .int a3), (4, .int a4), (7, .int x3), (8, .int x9)]) C dX9_isHedged_95 (by decide) rfl ?_
          refine rw_iinc (c := 1) (lv' := [(7, .int (x3 + 1)), (5, .int 0), (6, .int x10), (0, .ref (κ.1 + 196)), (1, .int a1), (2, .int a2), (3, .int a3), (4, .int a4), (8, .int x9)]) C dX9_isHedged_97 7 rfl (by decide) (by decide) rfl ?_
          refine rw_goto (tgt := 9) C dX9_isHedged_100 (by decide) ?_
          exact rw_lv [3, 4, 5, 6, 7, 1, 2, 0] rfl (hrec1 0 x10 (x3 + 1))
        · refine rw_iconst (c := 1) C dX9_isHedged_90 ci_1 ?_
          refine rw_goto (tgt := 95) C dX9_isHedged_91 (by decide) ?_
          refine rw_istore (lv' := [(5, .int 1), (6, .int x10), (0, .ref (κ.1 + 196)), (1, .int a1), (2, .int a2), (3, .int a3), (4, .int a4), (7, .int x3), (8, .int x9)]) C dX9_isHedged_95 (by decide) rfl ?_
          refine rw_iinc (c := 1) (lv' := [(7, .int (x3 + 1)), (5, .int 1), (6, .int x10), (0, .ref (κ.1 + 196)), (1, .int a1), (2, .int a2), (3, .int a3), (4, .int a4), (8, .int x9)]) C dX9_isHedged_97 7 rfl (by decide) (by decide) rfl ?_
          refine rw_goto (tgt := 9) C dX9_isHedged_100 (by decide) ?_
          exact rw_lv [3, 4, 5, 6, 7, 1, 2, 0] rfl (hrec1 1 x10 (x3 + 1))
    · refine rw_if_ne (tgt := 74) C dX9_isHedged_66 (by decide) ?_ ?_
      · refine rw_iload C dX9_isHedged_74 7 rfl ?_
        exact rw_lv [1, 2, 3, 4, 5, 6, 8, 0] rfl (hj1 x2)
      · refine rw_iload C dX9_isHedged_69 0 rfl ?_
        refine rw_goto (tgt := 76) C dX9_isHedged_71 (by decide) ?_
        exact rw_lv [1, 2, 3, 4, 5, 6, 8, 0] rfl (hj1 x9)
def f_X9_hedgeOf_L7 (a1 : Int32) (M : pv_M) (rec1 : Int32 → Int32 → Int32 → Option Int32) (x1 : Int32) (x2 : Int32) (x3 : Int32) : Option Int32 := (if 1000 ≤ x3 then some x1 else pv_nm (x3 / 100) (fun x4 => pv_nm ((x3 / 10) - (x3 / 10) / 10 * 10) (fun x5 => pv_nm (x3 - x3 / 10 * 10) (fun x6 => pv_jn (pv_cap (f_X9_isHedged a1 x4 x5 x6 M) (fun x7 => (if x7 = 0 then rec1 x1 x2 (x3 + 1) else pv_nm ((x4 + x5) + x6) (fun x8 => rec1 x3 x8 (x3 + 1))))) (fun j1 => (if x1 = ((-1)) then j1 else (if x2 ≤ ((x4 + x5) + x6) then rec1 x1 x2 (x3 + 1) else j1)))))))
def f_X9_hedgeOf (a1 : Int32) (M : pv_M) : Option Int32 := pv_lp3 (f_X9_hedgeOf_L7 a1 M) pv_FU ((-1)) 0 0
set_option maxHeartbeats 4000000 in
set_option maxRecDepth 100000 in
theorem k_X9_hedgeOf (l : Launch) (κ : pv_K) (a1 : Int32) (M : pv_M) : pv_MtP l yX9_hedgeOf cX9_hedgeOf 8 (some .int) 4 κ [.ref (κ.1 + 196), .int a1] M pv_ji (f_X9_hedgeOf a1 M) := by
  refine pv_enterP (by decide +kernel) (Nat.le_of_ble_eq_true rfl) (fun g hl hR C => ?_)
  have C : pv_Ok g κ 8 cX9_hedgeOf RX9 (some .int) := C
  show pv_R g κ pv_T pv_RF 8 0 0 (pv_QP g κ pv_ji M) 0 [(0, .ref (κ.1 + 196)), (1, .int a1)] [] M (f_X9_hedgeOf a1 M)
  unfold f_X9_hedgeOf
  refine rw_iconst (c := (-1)) C dX9_hedgeOf_0 ci_m1 ?_
  refine rw_istore_n (lv' := [(2, .int (-1)), (0, .ref (κ.1 + 196)), (1, .int a1)]) C dX9_hedgeOf_1 rfl (by decide) rfl ?_
  refine rw_iconst (c := 0) C dX9_hedgeOf_2 ci_0 ?_
  refine rw_istore_n (lv' := [(3, .int 0), (2, .int (-1)), (0, .ref (κ.1 + 196)), (1, .int a1)]) C dX9_hedgeOf_3 rfl (by decide) rfl ?_
  refine rw_iconst (c := 0) C dX9_hedgeOf_4 ci_0 ?_
  refine rw_istore (lv' := [(4, .int 0), (3, .int 0), (2, .int (-1)), (0, .ref (κ.1 + 196)), (1, .int a1)]) C dX9_hedgeOf_5 (by decide) rfl ?_
  refine rw_lv (lv' := [(0, .ref (κ.1 + 196)), (1, .int a1), (2, .int (-1)), (3, .int 0), (4, .int 0)]) [3, 4, 2, 1, 0] rfl ?_
  refine pv_lp3_ind (fun x1 x2 x3 xx => pv_R g κ pv_T pv_RF 8 0 0 (pv_QP g κ pv_ji M) 7 [(0, .ref (κ.1 + 196)), (1, .int a1), (2, .int x1), (3, .int x2), (4, .int x3)] [] M xx) (fun _ _ _ => rw_none) (fun rec1 hrec1 x1 x2 x3 => ?_) _ _ _ _
  unfold f_X9_hedgeOf_L7
  refine rw_iload C dX9_hedgeOf_7 4 rfl ?_
  refine rw_sipush (c := 1000) C dX9_hedgeOf_9 (by decide) ?_
  refine rw_icmp_ge (tgt := 88) C dX9_hedgeOf_12 (by decide) ?_ ?_
  · refine rw_iload_n C dX9_hedgeOf_88 rfl 2 rfl ?_
    exact rw_iretP C dX9_hedgeOf_89
  · refine rw_iload C dX9_hedgeOf_15 4 rfl ?_
    refine rw_bipush (c := 100) C dX9_hedgeOf_17 (by decide) ?_
    refine rw_idiv C dX9_hedgeOf_19 (by decide) ?_
    refine rw_nm (fun x4 => ?_)
    refine rw_istore (lv' := [(5, .int x4), (0, .ref (κ.1 + 196)), (1, .int a1), (2, .int x1), (3, .int x2), (4, .int x3)]) C dX9_hedgeOf_20 (by decide) rfl ?_
    refine rw_iload C dX9_hedgeOf_22 5 rfl ?_
    refine rw_bipush (c := 10) C dX9_hedgeOf_24 (by decide) ?_
    refine rw_idiv C dX9_hedgeOf_26 (by decide) ?_
    refine rw_bipush (c := 10) C dX9_hedgeOf_27 (by decide) ?_
    refine rw_irem C dX9_hedgeOf_29 (by decide) ?_
    refine rw_nm (fun x5 => ?_)
    refine rw_istore (lv' := [(6, .int x5), (5, .int x4), (0, .ref (κ.1 + 196)), (1, .int a1), (2, .int x1), (3, .int x2), (4, .int x3)]) C dX9_hedgeOf_30 (by decide) rfl ?_
    refine rw_iload C dX9_hedgeOf_32 6 rfl ?_
    refine rw_bipush (c := 10) C dX9_hedgeOf_34 (by decide) ?_
    refine rw_irem C dX9_hedgeOf_36 (by decide) ?_
    refine rw_nm (fun x6 => ?_)
    refine rw_istore (lv' := [(7, .int x6), (6, .int x5), (5, .int x4), (0, .ref (κ.1 + 196)), (1, .int a1), (2, .int x1), (3, .int x2), (4, .int x3)]) C dX9_hedgeOf_37 (by decide) rfl ?_
    refine rw_iload_n C dX9_hedgeOf_39 rfl 5 rfl ?_
    refine rw_iconst (c := (-1)) C dX9_hedgeOf_40 ci_m1 ?_
    refine rw_jn (fun j1 => pv_R g κ pv_T pv_RF 8 0 0 (pv_QP g κ pv_ji M) 56 [(0, .ref (κ.1 + 196)), (1, .int a1), (2, .int x1), (3, .int x2), (4, .int x3), (5, .int x4), (6, .int x5), (7, .int x6)] [] M (j1)) (?_) (fun j1 hj1 => ?_)
    · refine rw_aload_n C dX9_hedgeOf_56 rfl 0 rfl ?_
      refine rw_iload_n C dX9_hedgeOf_57 rfl 1 rfl ?_
      refine rw_iload C dX9_hedgeOf_58 5 rfl ?_
      refine rw_iload C dX9_hedgeOf_60 6 rfl ?_
      refine rw_iload C dX9_hedgeOf_62 7 rfl ?_
      refine rw_callVPi (As := [.int a1, .int x4, .int x5, .int x6]) (k0 := 196) C hR dX9_hedgeOf_64 cv_X9_274 (k_X9_isHedged g.2.1 κ a1 x4 x5 x6 M) (by decide) (by decide) (by decide) sh_196 rfl rfl (Nat.le_of_ble_eq_true rfl) rfl (fun x7 => ?_)
      refine rw_if_eq (tgt := 82) C dX9_hedgeOf_67 (by decide) ?_ ?_
      · refine rw_iinc (c := 1) (lv' := [(4, .int (x3 + 1)), (0, .ref (κ.1 + 196)), (1, .int a1), (2, .int x1), (3, .int x2), (5, .int x4), (6, .int x5), (7, .int x6)]) C dX9_hedgeOf_82 4 rfl (by decide) (by decide) rfl ?_
        refine rw_goto (tgt := 7) C dX9_hedgeOf_85 (by decide) ?_
        exact rw_lv [1, 2, 3, 4, 0] rfl (hrec1 x1 x2 (x3 + 1))
      · refine rw_iload C dX9_hedgeOf_70 4 rfl ?_
        refine rw_istore_n (lv' := [(2, .int x3), (0, .ref (κ.1 + 196)), (1, .int a1), (3, .int x2), (4, .int x3), (5, .int x4), (6, .int x5), (7, .int x6)]) C dX9_hedgeOf_72 rfl (by decide) rfl ?_
        refine rw_iload C dX9_hedgeOf_73 5 rfl ?_
        refine rw_iload C dX9_hedgeOf_75 6 rfl ?_
        refine rw_iadd C dX9_hedgeOf_77 ?_
        refine rw_iload C dX9_hedgeOf_78 7 rfl ?_
        refine rw_iadd C dX9_hedgeOf_80 ?_
        refine rw_nm (fun x8 => ?_)
        refine rw_istore_n (lv' := [(3, .int x8), (2, .int x3), (0, .ref (κ.1 + 196)), (1, .int a1), (4, .int x3), (5, .int x4), (6, .int x5), (7, .int x6)]) C dX9_hedgeOf_81 rfl (by decide) rfl ?_
        refine rw_iinc (c := 1) (lv' := [(4, .int (x3 + 1)), (3, .int x8), (2, .int x3), (0, .ref (κ.1 + 196)), (1, .int a1), (5, .int x4), (6, .int x5), (7, .int x6)]) C dX9_hedgeOf_82 4 rfl (by decide) (by decide) rfl ?_
        refine rw_goto (tgt := 7) C dX9_hedgeOf_85 (by decide) ?_
        exact rw_lv [3, 4, 2, 1, 0] rfl (hrec1 x3 x8 (x3 + 1))
    · refine rw_icmp_eq (tgt := 56) C dX9_hedgeOf_41 (by decide) ?_ ?_
      · exact rw_lv [3, 4, 5, 6, 7, 2, 1, 0] rfl (hj1 )
      · refine rw_iload C dX9_hedgeOf_44 2 rfl ?_
        refine rw_iload C dX9_hedgeOf_46 1 rfl ?_
        refine rw_iadd C dX9_hedgeOf_48 ?_
        refine rw_iload C dX9_hedgeOf_49 0 rfl ?_
        refine rw_iadd C dX9_hedgeOf_51 ?_
        refine rw_iload_n C dX9_hedgeOf_52 rfl 6 rfl ?_
        refine rw_icmp_ge (tgt := 82) C dX9_hedgeOf_53 (by decide) ?_ ?_
        · refine rw_iinc (c := 1) (lv' := [(4, .int (x3 + 1)), (7, .int x6), (6, .int x5), (5, .int x4), (0, .ref (κ.1 + 196)), (1, .int a1), (2, .int x1), (3, .int x2)]) C dX9_hedgeOf_82 7 rfl (by decide) (by decide) rfl ?_
          refine rw_goto (tgt := 7) C dX9_hedgeOf_85 (by decide) ?_
          exact rw_lv [4, 5, 6, 7, 0] rfl (hrec1 x1 x2 (x3 + 1))
        · exact rw_lv [3, 4, 5, 6, 7, 2, 1, 0] rfl (hj1 )
def f_X9_hedge (a1 : Int32) (M : pv_M) : Option (Int32 × pv_M) := pv_cal (f_X9_reads M) (fun u1 M1 => pv_cap (f_X9_isVoter a1 M1) (fun x1 => (if x1 = 0 then some ((-2), M1) else pv_cap (f_X9_hedgeOf a1 M1) (fun x2 => some (x2, M1)))))
set_option maxHeartbeats 4000000 in
set_option maxRecDepth 100000 in
theorem k_X9_hedge (l : Launch) (κ : pv_K) (a1 : Int32) (M : pv_M) : pv_Mt l yX9_hedge cX9_hedge 2 (some .int) 5 κ [.ref (κ.1 + 196), .int a1] M pv_ji (f_X9_hedge a1 M) := by
  refine pv_enter (by decide +kernel) (Nat.le_of_ble_eq_true rfl) (fun g hl hR C => ?_)
  have C : pv_Ok g κ 2 cX9_hedge RX9 (some .int) := C
  show pv_R g κ pv_T pv_RF 2 0 0 (pv_QF g κ pv_ji) 0 [(0, .ref (κ.1 + 196)), (1, .int a1)] [] M (f_X9_hedge a1 M)
  unfold f_X9_hedge
  refine rw_aload_n C dX9_hedge_0 rfl 0 rfl ?_
  refine rw_callVu (As := []) (k0 := 196) C hR dX9_hedge_1 cv_X9_151 (k_X9_reads g.2.1 κ M) (by decide) (by decide) (by decide) sh_196 rfl rfl (Nat.le_of_ble_eq_true rfl) rfl (fun u1 M1 => ?_)
  refine rw_aload_n C dX9_hedge_4 rfl 0 rfl ?_
  refine rw_iload_n C dX9_hedge_5 rfl 1 rfl ?_
  refine rw_callVPi (As := [.int a1]) (k0 := 196) C hR dX9_hedge_6 cv_X9_154 (k_X9_isVoter g.2.1 κ a1 M1) (by decide) (by decide) (by decide) sh_196 rfl rfl (Nat.le_of_ble_eq_true rfl) rfl (fun x1 => ?_)
  refine rw_if_eq (tgt := 20) C dX9_hedge_9 (by decide) ?_ ?_
  · refine rw_bipush (c := (-2)) C dX9_hedge_20 (by decide) ?_
    exact rw_iret C dX9_hedge_22
  · refine rw_aload_n C dX9_hedge_12 rfl 0 rfl ?_
    refine rw_iload_n C dX9_hedge_13 rfl 1 rfl ?_
    refine rw_callVPi (As := [.int a1]) (k0 := 196) C hR dX9_hedge_14 cv_X9_277 (k_X9_hedgeOf g.2.1 κ a1 M1) (by decide) (by decide) (by decide) sh_196 rfl rfl (Nat.le_of_ble_eq_true rfl) rfl (fun x2 => ?_)
    refine rw_goto (tgt := 22) C dX9_hedge_17 (by decide) ?_
    exact rw_iret C dX9_hedge_22
def f_X9_joins_L3 (a1 : Int32) (a2 : Int32) (a3 : Int64) (a4 : Int64) (rec1 : Int32 → pv_M → Option (Unit × pv_M)) (x1 : Int32) (M1 : pv_M) : Option (Unit × pv_M) := (if 6 ≤ x1 then some ((), M1) else pv_ldI pv_T 216 x1 M1 (fun x2 => (if x2 = a1 then pv_stI pv_T 216 x1 a2 M1 (fun M2 => pv_ldL pv_T 217 x1 M2 (fun x3 => pv_nm (x3 * a3) (fun x4 => pv_ldL pv_T 218 x1 M2 (fun x5 => pv_nm (x5 * a4) (fun x6 => pv_cap (f_X9_common x4 x6 M2) (fun x7 => pv_ck (decide (¬ x7 = 0)) (pv_stL pv_T 217 x1 (x4 / x7) M2 (fun M3 => pv_ck (decide (¬ x7 = 0)) (pv_stL pv_T 218 x1 (x6 / x7) M3 (fun M4 => rec1 (x1 + 1) M4)))))))))) else rec1 (x1 + 1) M1)))
def f_X9_joins (a1 : Int32) (a2 : Int32) (a3 : Int64) (a4 : Int64) (M : pv_M) : Option (Unit × pv_M) := pv_lp2 (f_X9_joins_L3 a1 a2 a3 a4) pv_FU 0 M
set_option maxHeartbeats 4000000 in
set_option maxRecDepth 100000 in
theorem k_X9_joins (l : Launch) (κ : pv_K) (a1 : Int32) (a2 : Int32) (a3 : Int64) (a4 : Int64) (M : pv_M) : pv_Mt l yX9_joins cX9_joins 14 none 1 κ [.ref (κ.1 + 196), .int a1, .int a2, .long a3, .long a4] M pv_ju (f_X9_joins a1 a2 a3 a4 M) := by
  refine pv_enter (by decide +kernel) (Nat.le_of_ble_eq_true rfl) (fun g hl hR C => ?_)
  have C : pv_Ok g κ 14 cX9_joins RX9 none := C
  show pv_R g κ pv_T pv_RF 14 0 0 (pv_QF g κ pv_ju) 0 [(0, .ref (κ.1 + 196)), (1, .int a1), (2, .int a2), (3, .long a3), (5, .long a4)] [] M (f_X9_joins a1 a2 a3 a4 M)
  unfold f_X9_joins
  refine rw_iconst (c := 0) C dX9_joins_0 ci_0 ?_
  refine rw_istore (lv' := [(7, .int 0), (0, .ref (κ.1 + 196)), (1, .int a1), (2, .int a2), (3, .long a3), (5, .long a4)]) C dX9_joins_1 (by decide) rfl ?_
  refine rw_lv (lv' := [(0, .ref (κ.1 + 196)), (1, .int a1), (2, .int a2), (3, .long a3), (5, .long a4), (7, .int 0)]) [1, 2, 3, 4, 5, 0] rfl ?_
  refine pv_lp2_ind (fun x1 M1 xx => pv_R g κ pv_T pv_RF 14 0 0 (pv_QF g κ pv_ju) 3 [(0, .ref (κ.1 + 196)), (1, .int a1), (2, .int a2), (3, .long a3), (5, .long a4), (7, .int x1)] [] M1 xx) (fun _ _ => rw_none) (fun rec1 hrec1 x1 M1 => ?_) _ _ _
  unfold f_X9_joins_L3
  refine rw_iload C dX9_joins_3 5 rfl ?_
  refine rw_bipush (c := 6) C dX9_joins_5 (by decide) ?_
  refine rw_icmp_ge (tgt := 91) C dX9_joins_7 (by decide) ?_ ?_
  · exact rw_vret C dX9_joins_91
  · refine rw_aload_n C dX9_joins_10 rfl 0 rfl ?_
    refine rw_getR (k0 := 196) (k1 := 216) C dX9_joins_11 fl_X9_67 rfl (by decide) sh_196 (by decide) rfl ?_
    refine rw_iload C dX9_joins_14 5 rfl ?_
    refine rw_ldI C dX9_joins_16 (fun x2 => ?_)
    refine rw_iload_n C dX9_joins_17 rfl 1 rfl ?_
    refine rw_icmp_ne (tgt := 85) C dX9_joins_18 (by decide) ?_ ?_
    · refine rw_iinc (c := 1) (lv' := [(7, .int (x1 + 1)), (0, .ref (κ.1 + 196)), (1, .int a1), (2, .int a2), (3, .long a3), (5, .long a4)]) C dX9_joins_85 5 rfl (by decide) (by decide) rfl ?_
      refine rw_goto (tgt := 3) C dX9_joins_88 (by decide) ?_
      exact rw_lv [1, 2, 3, 4, 5, 0] rfl (hrec1 (x1 + 1) M1)
    · refine rw_aload_n C dX9_joins_21 rfl 0 rfl ?_
      refine rw_getR (k0 := 196) (k1 := 216) C dX9_joins_22 fl_X9_67 rfl (by decide) sh_196 (by decide) rfl ?_
      refine rw_iload C dX9_joins_25 5 rfl ?_
      refine rw_iload_n C dX9_joins_27 rfl 2 rfl ?_
      refine rw_stI C dX9_joins_28 (fun M2 => ?_)
      refine rw_aload_n C dX9_joins_29 rfl 0 rfl ?_
      refine rw_getR (k0 := 196) (k1 := 217) C dX9_joins_30 fl_X9_70 rfl (by decide) sh_196 (by decide) rfl ?_
      refine rw_iload C dX9_joins_33 5 rfl ?_
      refine rw_ldL C dX9_joins_35 (fun x3 => ?_)
      refine rw_lload_n C dX9_joins_36 rfl 3 rfl ?_
      refine rw_lmul C dX9_joins_37 ?_
      refine rw_nmL (fun x4 => ?_)
      refine rw_lstore (lv' := [(8, .long x4), (0, .ref (κ.1 + 196)), (1, .int a1), (2, .int a2), (3, .long a3), (5, .long a4), (7, .int x1)]) C dX9_joins_38 (by decide) rfl ?_
      refine rw_aload_n C dX9_joins_40 rfl 1 rfl ?_
      refine rw_getR (k0 := 196) (k1 := 218) C dX9_joins_41 fl_X9_74 rfl (by decide) sh_196 (by decide) rfl ?_
      refine rw_iload C dX9_joins_44 6 rfl ?_
      refine rw_ldL C dX9_joins_46 (fun x5 => ?_)
      refine rw_lload C dX9_joins_47 5 rfl ?_
      refine rw_lmul C dX9_joins_49 ?_
      refine rw_nmL (fun x6 => ?_)
      refine rw_lstore (lv' := [(10, .long x6), (8, .long x4), (0, .ref (κ.1 + 196)), (1, .int a1), (2, .int a2), (3, .long a3), (5, .long a4), (7, .int x1)]) C dX9_joins_50 (by decide) rfl ?_
      refine rw_lload C dX9_joins_52 1 rfl ?_
      refine rw_lload C dX9_joins_54 0 rfl ?_
      refine rw_callSPl (As := [.long x4, .long x6]) C hR dX9_joins_56 cs_X9_280 (k_X9_common g.2.1 κ x4 x6 M2) (by decide) (by decide) rfl (Nat.le_of_ble_eq_true rfl) rfl (fun x7 => ?_)
      refine rw_lstore (lv' := [(12, .long x7), (10, .long x6), (8, .long x4), (0, .ref (κ.1 + 196)), (1, .int a1), (2, .int a2), (3, .long a3), (5, .long a4), (7, .int x1)]) C dX9_joins_59 (by decide) rfl ?_
      refine rw_aload_n C dX9_joins_61 rfl 3 rfl ?_
      refine rw_getR (k0 := 196) (k1 := 217) C dX9_joins_62 fl_X9_70 rfl (by decide) sh_196 (by decide) rfl ?_
      refine rw_iload C dX9_joins_65 8 rfl ?_
      refine rw_lload C dX9_joins_67 2 rfl ?_
      refine rw_lload C dX9_joins_69 0 rfl ?_
      refine rw_ck (fun hb1 => ?_)
      refine rw_ldiv C dX9_joins_71 (of_decide_eq_true hb1) ?_
      refine rw_stL C dX9_joins_72 (fun M3 => ?_)
      refine rw_aload_n C dX9_joins_73 rfl 3 rfl ?_
      refine rw_getR (k0 := 196) (k1 := 218) C dX9_joins_74 fl_X9_74 rfl (by decide) sh_196 (by decide) rfl ?_
      refine rw_iload C dX9_joins_77 8 rfl ?_
      refine rw_lload C dX9_joins_79 1 rfl ?_
      refine rw_lload C dX9_joins_81 0 rfl ?_
      refine rw_ck (fun hb2 => ?_)
      refine rw_ldiv C dX9_joins_83 (of_decide_eq_true hb2) ?_
      refine rw_stL C dX9_joins_84 (fun M4 => ?_)
      refine rw_iinc (c := 1) (lv' := [(7, .int (x1 + 1)), (12, .long x7), (10, .long x6), (8, .long x4), (0, .ref (κ.1 + 196)), (1, .int a1), (2, .int a2), (3, .long a3), (5, .long a4)]) C dX9_joins_85 8 rfl (by decide) (by decide) rfl ?_
      refine rw_goto (tgt := 3) C dX9_joins_88 (by decide) ?_
      exact rw_lv [4, 5, 6, 7, 8, 0] rfl (hrec1 (x1 + 1) M4)
def f_X9_finds_J185 (a1 : Int32) (x2 : Int32) (M4 : pv_M) (x4 : Int32) (x5 : Int32) (x7 : Int64) (rec1 : Int32 → pv_M → Option (Int32 × pv_M)) : Option (Int32 × pv_M) := pv_cap (f_X9_isIn a1 x2 M4) (fun x9 => (if x9 = 0 then pv_ldI pv_T 216 x4 M4 (fun x10 => pv_ldI pv_T 216 x5 M4 (fun x11 => pv_ldL pv_T 217 x5 M4 (fun x12 => pv_ldL pv_T 218 x4 M4 (fun x13 => pv_ldL pv_T 218 x5 M4 (fun x14 => pv_ldL pv_T 217 x4 M4 (fun x15 => pv_cal (f_X9_joins x10 x11 ((x7 * x12) * x13) (x14 * x15) M4) (fun u1 M5 => rec1 (x2 + 1) M5))))))) else rec1 (x2 + 1) M4))
def f_X9_finds_L42 (j2 : pv_M → Option (Int32 × pv_M)) (a1 : Int32) (rec1 : Int32 → pv_M → Option (Int32 × pv_M)) (x2 : Int32) (M4 : pv_M) : Option (Int32 × pv_M) := pv_ldI pv_T 203 2 M4 (fun x3 => (if x3 ≤ x2 then j2 M4 else pv_ldI pv_T 204 (48 + (3 * x2)) M4 (fun x4 => pv_ldI pv_T 204 (49 + (3 * x2)) M4 (fun x5 => pv_ldI pv_T 204 (50 + (3 * x2)) M4 (fun x6 => pv_nm x6.toInt64 (fun x7 => pv_cap (f_X9_isIn a1 x2 M4) (fun x8 => pv_jn (f_X9_finds_J185 a1 x2 M4 x4 x5 x7 rec1) (fun j3 => (if x8 = 0 then pv_ldI pv_T 216 x4 M4 (fun x16 => pv_ldI pv_T 216 x5 M4 (fun x17 => (if x16 = x17 then pv_ldL pv_T 217 x4 M4 (fun x18 => pv_ldL pv_T 218 x5 M4 (fun x19 => pv_ldL pv_T 217 x5 M4 (fun x20 => pv_ldL pv_T 218 x4 M4 (fun x21 => pv_jn (fun (x22 : Int32) => pv_jn (fun (x23 : Int32) => pv_nm (pv_u M4.1 196 26 x23, M4.2) (fun M6 => rec1 (x2 + 1) M6)) (fun j5 => pv_jn (pv_nm (M4.1 196 26) (fun x24 => j5 x24)) (fun j6 => (if x22 = 0 then pv_nm (M4.1 196 26) (fun x25 => (if x25 = ((-1)) then j5 x2 else j6)) else j6)))) (fun j4 => (if (lg_cmp (x18 * x19) ((x7 * x20) * x21)) = 0 then j4 1 else j4 0)))))) else j3))) else j3)))))))))
def f_X9_finds_L2 (j1 : pv_M → Option (Int32 × pv_M)) (rec2 : Int32 → pv_M → Option (Int32 × pv_M)) (x26 : Int32) (M7 : pv_M) : Option (Int32 × pv_M) := (if 6 ≤ x26 then j1 M7 else pv_stI pv_T 216 x26 x26 M7 (fun M8 => pv_stL pv_T 217 x26 1 M8 (fun M9 => pv_stL pv_T 218 x26 1 M9 (fun M10 => rec2 (x26 + 1) M10))))
def f_X9_finds (a1 : Int32) (M : pv_M) : Option (Int32 × pv_M) := pv_jn (fun (M1 : pv_M) => pv_nm (pv_u M1.1 196 26 ((-1)), M1.2) (fun M2 => pv_jn (fun (M3 : pv_M) => pv_nm (M3.1 196 26) (fun x1 => (if x1 = ((-1)) then some (1, M3) else some (0, M3)))) (fun j2 => pv_lp2 (f_X9_finds_L42 j2 a1) pv_FU 0 M2))) (fun j1 => pv_lp2 (f_X9_finds_L2 j1) pv_FU 0 M)
set_option maxHeartbeats 4000000 in
set_option maxRecDepth 100000 in
theorem k_X9_finds (l : Launch) (κ : pv_K) (a1 : Int32) (M : pv_M) : pv_Mt l yX9_finds cX9_finds 8 (some .boolean) 2 κ [.ref (κ.1 + 196), .int a1] M pv_ji (f_X9_finds a1 M) := by
  refine pv_enter (by decide +kernel) (Nat.le_of_ble_eq_true rfl) (fun g hl hR C => ?_)
  have C : pv_Ok g κ 8 cX9_finds RX9 (some .boolean) := C
  show pv_R g κ pv_T pv_RF 8 0 0 (pv_QF g κ pv_ji) 0 [(0, .ref (κ.1 + 196)), (1, .int a1)] [] M (f_X9_finds a1 M)
  unfold f_X9_finds
  refine rw_iconst (c := 0) C dX9_finds_0 ci_0 ?_
  refine rw_istore_n (lv' := [(2, .int 0), (0, .ref (κ.1 + 196)), (1, .int a1)]) C dX9_finds_1 rfl (by decide) rfl ?_
  refine rw_jn (fun j1 => ∀ (M1 : pv_M), pv_R g κ pv_T pv_RF 8 0 0 (pv_QF g κ pv_ji) 35 [(0, .ref (κ.1 + 196)), (1, .int a1)] [] M1 (j1 M1)) (fun M1 => ?_) (fun j1 hj1 => ?_)
  · refine rw_aload_n C dX9_finds_35 rfl 0 rfl ?_
    refine rw_iconst (c := (-1)) C dX9_finds_36 ci_m1 ?_
    refine rw_put (k0 := 196) C dX9_finds_37 fl_X9_284 ff_X9_26 rfl rfl rfl (by decide) sh_196 (by decide) (fun M2 => ?_)
    refine rw_iconst (c := 0) C dX9_finds_40 ci_0 ?_
    refine rw_istore_n (lv' := [(2, .int 0), (0, .ref (κ.1 + 196)), (1, .int a1)]) C dX9_finds_41 rfl (by decide) rfl ?_
    refine rw_jn (fun j2 => ∀ (M3 : pv_M), pv_R g κ pv_T pv_RF 8 0 0 (pv_QF g κ pv_ji) 247 [(0, .ref (κ.1 + 196))] [] M3 (j2 M3)) (fun M3 => ?_) (fun j2 hj2 => ?_)
    · refine rw_aload_n C dX9_finds_247 rfl 0 rfl ?_
      refine rw_getI (k0 := 196) C dX9_finds_248 fl_X9_284 rfl (by decide) sh_196 (by decide) (fun x1 => ?_)
      refine rw_iconst (c := (-1)) C dX9_finds_251 ci_m1 ?_
      refine rw_icmp_ne (tgt := 259) C dX9_finds_252 (by decide) ?_ ?_
      · refine rw_iconst (c := 0) C dX9_finds_259 ci_0 ?_
        exact rw_zret (Or.inl rfl) C dX9_finds_260
      · refine rw_iconst (c := 1) C dX9_finds_255 ci_1 ?_
        refine rw_goto (tgt := 260) C dX9_finds_256 (by decide) ?_
        exact rw_zret (Or.inr rfl) C dX9_finds_260
    · refine rw_lv (lv' := [(0, .ref (κ.1 + 196)), (1, .int a1), (2, .int 0)]) [1, 2, 0] rfl ?_
      refine pv_lp2_ind (fun x2 M4 xx => pv_R g κ pv_T pv_RF 8 0 0 (pv_QF g κ pv_ji) 42 [(0, .ref (κ.1 + 196)), (1, .int a1), (2, .int x2)] [] M4 xx) (fun _ _ => rw_none) (fun rec1 hrec1 x2 M4 => ?_) _ _ _
      unfold f_X9_finds_L42
      refine rw_iload_n C dX9_finds_42 rfl 2 rfl ?_
      refine rw_aload_n C dX9_finds_43 rfl 0 rfl ?_
      refine rw_getR (k0 := 196) (k1 := 203) C dX9_finds_44 fl_X9_28 rfl (by decide) sh_196 (by decide) rfl ?_
      refine rw_iconst (c := 2) C dX9_finds_47 ci_2 ?_
      refine rw_ldI C dX9_finds_48 (fun x3 => ?_)
      refine rw_icmp_ge (tgt := 247) C dX9_finds_49 (by decide) ?_ ?_
      · exact rw_lv [0] rfl (hj2 M4)
      · refine rw_aload_n C dX9_finds_52 rfl 0 rfl ?_
        refine rw_getR (k0 := 196) (k1 := 204) C dX9_finds_53 fl_X9_31 rfl (by decide) sh_196 (by decide) rfl ?_
        refine rw_bipush (c := 48) C dX9_finds_56 (by decide) ?_
        refine rw_iconst (c := 3) C dX9_finds_58 ci_3 ?_
        refine rw_iload_n C dX9_finds_59 rfl 2 rfl ?_
        refine rw_imul C dX9_finds_60 ?_
        refine rw_iadd C dX9_finds_61 ?_
        refine rw_ldI C dX9_finds_62 (fun x4 => ?_)
        refine rw_istore_n (lv' := [(3, .int x4), (0, .ref (κ.1 + 196)), (1, .int a1), (2, .int x2)]) C dX9_finds_63 rfl (by decide) rfl ?_
        refine rw_aload_n C dX9_finds_64 rfl 1 rfl ?_
        refine rw_getR (k0 := 196) (k1 := 204) C dX9_finds_65 fl_X9_31 rfl (by decide) sh_196 (by decide) rfl ?_
        refine rw_bipush (c := 49) C dX9_finds_68 (by decide) ?_
        refine rw_iconst (c := 3) C dX9_finds_70 ci_3 ?_
        refine rw_iload_n C dX9_finds_71 rfl 3 rfl ?_
        refine rw_imul C dX9_finds_72 ?_
        refine rw_iadd C dX9_finds_73 ?_
        refine rw_ldI C dX9_finds_74 (fun x5 => ?_)
        refine rw_istore (lv' := [(4, .int x5), (3, .int x4), (0, .ref (κ.1 + 196)), (1, .int a1), (2, .int x2)]) C dX9_finds_75 (by decide) rfl ?_
        refine rw_aload_n C dX9_finds_77 rfl 2 rfl ?_
        refine rw_getR (k0 := 196) (k1 := 204) C dX9_finds_78 fl_X9_31 rfl (by decide) sh_196 (by decide) rfl ?_
        refine rw_bipush (c := 50) C dX9_finds_81 (by decide) ?_
        refine rw_iconst (c := 3) C dX9_finds_83 ci_3 ?_
        refine rw_iload_n C dX9_finds_84 rfl 4 rfl ?_
        refine rw_imul C dX9_finds_85 ?_
        refine rw_iadd C dX9_finds_86 ?_
        refine rw_ldI C dX9_finds_87 (fun x6 => ?_)
        refine rw_i2l C dX9_finds_88 ?_
        refine rw_nmL (fun x7 => ?_)
        refine rw_lstore (lv' := [(5, .long x7), (4, .int x5), (3, .int x4), (0, .ref (κ.1 + 196)), (1, .int a1), (2, .int x2)]) C dX9_finds_89 (by decide) rfl ?_
        refine rw_iload_n C dX9_finds_91 rfl 4 rfl ?_
        refine rw_iload_n C dX9_finds_92 rfl 5 rfl ?_
        refine rw_callSPi (As := [.int a1, .int x2]) C hR dX9_finds_93 cs_X9_287 (k_X9_isIn g.2.1 κ a1 x2 M4) (by decide) (by decide) rfl (Nat.le_of_ble_eq_true rfl) rfl (fun x8 => ?_)
        refine rw_jn (fun j3 => pv_R g κ pv_T pv_RF 8 0 0 (pv_QF g κ pv_ji) 185 [(0, .ref (κ.1 + 196)), (1, .int a1), (2, .int x2), (3, .int x4), (4, .int x5), (5, .long x7)] [] M4 (j3)) (?_) (fun j3 hj3 => ?_)
        · unfold f_X9_finds_J185
          refine rw_iload_n C dX9_finds_185 rfl 1 rfl ?_
          refine rw_iload_n C dX9_finds_186 rfl 2 rfl ?_
          refine rw_callSPi (As := [.int a1, .int x2]) C hR dX9_finds_187 cs_X9_287 (k_X9_isIn g.2.1 κ a1 x2 M4) (by decide) (by decide) rfl (Nat.le_of_ble_eq_true rfl) rfl (fun x9 => ?_)
          refine rw_if_ne (tgt := 241) C dX9_finds_190 (by decide) ?_ ?_
          · refine rw_iinc (c := 1) (lv' := [(2, .int (x2 + 1)), (0, .ref (κ.1 + 196)), (1, .int a1), (3, .int x4), (4, .int x5), (5, .long x7)]) C dX9_finds_241 2 rfl (by decide) (by decide) rfl ?_
            refine rw_goto (tgt := 42) C dX9_finds_244 (by decide) ?_
            exact rw_lv [1, 2, 0] rfl (hrec1 (x2 + 1) M4)
          · refine rw_aload_n C dX9_finds_193 rfl 0 rfl ?_
            refine rw_aload_n C dX9_finds_194 rfl 0 rfl ?_
            refine rw_getR (k0 := 196) (k1 := 216) C dX9_finds_195 fl_X9_67 rfl (by decide) sh_196 (by decide) rfl ?_
            refine rw_iload_n C dX9_finds_198 rfl 3 rfl ?_
            refine rw_ldI C dX9_finds_199 (fun x10 => ?_)
            refine rw_aload_n C dX9_finds_200 rfl 0 rfl ?_
            refine rw_getR (k0 := 196) (k1 := 216) C dX9_finds_201 fl_X9_67 rfl (by decide) sh_196 (by decide) rfl ?_
            refine rw_iload C dX9_finds_204 4 rfl ?_
            refine rw_ldI C dX9_finds_206 (fun x11 => ?_)
            refine rw_lload C dX9_finds_207 5 rfl ?_
            refine rw_aload_n C dX9_finds_209 rfl 0 rfl ?_
            refine rw_getR (k0 := 196) (k1 := 217) C dX9_finds_210 fl_X9_70 rfl (by decide) sh_196 (by decide) rfl ?_
            refine rw_iload C dX9_finds_213 4 rfl ?_
            refine rw_ldL C dX9_finds_215 (fun x12 => ?_)
            refine rw_lmul C dX9_finds_216 ?_
            refine rw_aload_n C dX9_finds_217 rfl 0 rfl ?_
            refine rw_getR (k0 := 196) (k1 := 218) C dX9_finds_218 fl_X9_74 rfl (by decide) sh_196 (by decide) rfl ?_
            refine rw_iload_n C dX9_finds_221 rfl 3 rfl ?_
            refine rw_ldL C dX9_finds_222 (fun x13 => ?_)
            refine rw_lmul C dX9_finds_223 ?_
            refine rw_aload_n C dX9_finds_224 rfl 0 rfl ?_
            refine rw_getR (k0 := 196) (k1 := 218) C dX9_finds_225 fl_X9_74 rfl (by decide) sh_196 (by decide) rfl ?_
            refine rw_iload C dX9_finds_228 4 rfl ?_
            refine rw_ldL C dX9_finds_230 (fun x14 => ?_)
            refine rw_aload_n C dX9_finds_231 rfl 0 rfl ?_
            refine rw_getR (k0 := 196) (k1 := 217) C dX9_finds_232 fl_X9_70 rfl (by decide) sh_196 (by decide) rfl ?_
            refine rw_iload_n C dX9_finds_235 rfl 3 rfl ?_
            refine rw_ldL C dX9_finds_236 (fun x15 => ?_)
            refine rw_lmul C dX9_finds_237 ?_
            refine rw_callVu (As := [.int x10, .int x11, .long ((x7 * x12) * x13), .long (x14 * x15)]) (k0 := 196) C hR dX9_finds_238 cv_X9_290 (k_X9_joins g.2.1 κ x10 x11 ((x7 * x12) * x13) (x14 * x15) M4) (by decide) (by decide) (by decide) sh_196 rfl rfl (Nat.le_of_ble_eq_true rfl) rfl (fun u1 M5 => ?_)
            refine rw_iinc (c := 1) (lv' := [(2, .int (x2 + 1)), (0, .ref (κ.1 + 196)), (1, .int a1), (3, .int x4), (4, .int x5), (5, .long x7)]) C dX9_finds_241 2 rfl (by decide) (by decide) rfl ?_
            refine rw_goto (tgt := 42) C dX9_finds_244 (by decide) ?_
            exact rw_lv [1, 2, 0] rfl (hrec1 (x2 + 1) M5)
        · refine rw_if_ne (tgt := 185) C dX9_finds_96 (by decide) ?_ ?_
          · exact rw_lv [3, 4, 5, 2, 1, 0] rfl (hj3 )
          · refine rw_aload_n C dX9_finds_99 rfl 3 rfl ?_
            refine rw_getR (k0 := 196) (k1 := 216) C dX9_finds_100 fl_X9_67 rfl (by decide) sh_196 (by decide) rfl ?_
            refine rw_iload_n C dX9_finds_103 rfl 2 rfl ?_
            refine rw_ldI C dX9_finds_104 (fun x16 => ?_)
            refine rw_aload_n C dX9_finds_105 rfl 3 rfl ?_
            refine rw_getR (k0 := 196) (k1 := 216) C dX9_finds_106 fl_X9_67 rfl (by decide) sh_196 (by decide) rfl ?_
            refine rw_iload C dX9_finds_109 1 rfl ?_
            refine rw_ldI C dX9_finds_111 (fun x17 => ?_)
            refine rw_icmp_ne (tgt := 185) C dX9_finds_112 (by decide) ?_ ?_
            · exact rw_lv [3, 4, 5, 2, 1, 0] rfl (hj3 )
            · refine rw_aload_n C dX9_finds_115 rfl 3 rfl ?_
              refine rw_getR (k0 := 196) (k1 := 217) C dX9_finds_116 fl_X9_70 rfl (by decide) sh_196 (by decide) rfl ?_
              refine rw_iload_n C dX9_finds_119 rfl 2 rfl ?_
              refine rw_ldL C dX9_finds_120 (fun x18 => ?_)
              refine rw_aload_n C dX9_finds_121 rfl 3 rfl ?_
              refine rw_getR (k0 := 196) (k1 := 218) C dX9_finds_122 fl_X9_74 rfl (by decide) sh_196 (by decide) rfl ?_
              refine rw_iload C dX9_finds_125 1 rfl ?_
              refine rw_ldL C dX9_finds_127 (fun x19 => ?_)
              refine rw_lmul C dX9_finds_128 ?_
              refine rw_lload C dX9_finds_129 0 rfl ?_
              refine rw_aload_n C dX9_finds_131 rfl 3 rfl ?_
              refine rw_getR (k0 := 196) (k1 := 217) C dX9_finds_132 fl_X9_70 rfl (by decide) sh_196 (by decide) rfl ?_
              refine rw_iload C dX9_finds_135 1 rfl ?_
              refine rw_ldL C dX9_finds_137 (fun x20 => ?_)
              refine rw_lmul C dX9_finds_138 ?_
              refine rw_aload_n C dX9_finds_139 rfl 3 rfl ?_
              refine rw_getR (k0 := 196) (k1 := 218) C dX9_finds_140 fl_X9_74 rfl (by decide) sh_196 (by decide) rfl ?_
              refine rw_iload_n C dX9_finds_143 rfl 2 rfl ?_
              refine rw_ldL C dX9_finds_144 (fun x21 => ?_)
              refine rw_lmul C dX9_finds_145 ?_
              refine rw_lcmp C dX9_finds_146 ?_
              refine rw_jn (fun j4 => ∀ (x22 : Int32), pv_R g κ pv_T pv_RF 8 0 0 (pv_QF g κ pv_ji) 155 [(0, .ref (κ.1 + 196)), (1, .int a1), (2, .int x2)] [.int x22] M4 (j4 x22)) (fun x22 => ?_) (fun j4 hj4 => ?_)
              · refine rw_istore (lv' := [(7, .int x22), (0, .ref (κ.1 + 196)), (1, .int a1), (2, .int x2)]) C dX9_finds_155 (by decide) rfl ?_
                refine rw_aload_n C dX9_finds_157 rfl 1 rfl ?_
                refine rw_iload C dX9_finds_158 0 rfl ?_
                refine rw_jn (fun j5 => ∀ (x23 : Int32), pv_R g κ pv_T pv_RF 8 0 0 (pv_QF g κ pv_ji) 179 [(0, .ref (κ.1 + 196)), (1, .int a1), (2, .int x2)] [.int x23, .ref (κ.1 + 196)] M4 (j5 x23)) (fun x23 => ?_) (fun j5 hj5 => ?_)
                · refine rw_put (k0 := 196) C dX9_finds_179 fl_X9_284 ff_X9_26 rfl rfl rfl (by decide) sh_196 (by decide) (fun M6 => ?_)
                  refine rw_goto (tgt := 241) C dX9_finds_182 (by decide) ?_
                  refine rw_iinc (c := 1) (lv' := [(2, .int (x2 + 1)), (0, .ref (κ.1 + 196)), (1, .int a1)]) C dX9_finds_241 2 rfl (by decide) (by decide) rfl ?_
                  refine rw_goto (tgt := 42) C dX9_finds_244 (by decide) ?_
                  exact rw_lv [1, 2, 0] rfl (hrec1 (x2 + 1) M6)
                · refine rw_jn (fun j6 => pv_R g κ pv_T pv_RF 8 0 0 (pv_QF g κ pv_ji) 175 [(0, .ref (κ.1 + 196)), (1, .int a1), (2, .int x2)] [.ref (κ.1 + 196)] M4 (j6)) (?_) (fun j6 hj6 => ?_)
                  · refine rw_aload_n C dX9_finds_175 rfl 0 rfl ?_
                    refine rw_getI (k0 := 196) C dX9_finds_176 fl_X9_284 rfl (by decide) sh_196 (by decide) (fun x24 => ?_)
                    exact hj5 x24
                  · refine rw_if_ne (tgt := 175) C dX9_finds_160 (by decide) ?_ ?_
                    · exact rw_lv [1, 2, 3] rfl (hj6 )
                    · refine rw_aload_n C dX9_finds_163 rfl 1 rfl ?_
                      refine rw_getI (k0 := 196) C dX9_finds_164 fl_X9_284 rfl (by decide) sh_196 (by decide) (fun x25 => ?_)
                      refine rw_iconst (c := (-1)) C dX9_finds_167 ci_m1 ?_
                      refine rw_icmp_ne (tgt := 175) C dX9_finds_168 (by decide) ?_ ?_
                      · exact rw_lv [1, 2, 3] rfl (hj6 )
                      · refine rw_iload_n C dX9_finds_171 rfl 3 rfl ?_
                        refine rw_goto (tgt := 179) C dX9_finds_172 (by decide) ?_
                        exact rw_lv [1, 2, 3] rfl (hj5 x2)
              · refine rw_if_ne (tgt := 154) C dX9_finds_147 (by decide) ?_ ?_
                · refine rw_iconst (c := 0) C dX9_finds_154 ci_0 ?_
                  exact rw_lv [3, 4, 5] rfl (hj4 0)
                · refine rw_iconst (c := 1) C dX9_finds_150 ci_1 ?_
                  refine rw_goto (tgt := 155) C dX9_finds_151 (by decide) ?_
                  exact rw_lv [3, 4, 5] rfl (hj4 1)
  · refine rw_lv (lv' := [(0, .ref (κ.1 + 196)), (1, .int a1), (2, .int 0)]) [1, 2, 0] rfl ?_
    refine pv_lp2_ind (fun x26 M7 xx => pv_R g κ pv_T pv_RF 8 0 0 (pv_QF g κ pv_ji) 2 [(0, .ref (κ.1 + 196)), (1, .int a1), (2, .int x26)] [] M7 xx) (fun _ _ => rw_none) (fun rec2 hrec2 x26 M7 => ?_) _ _ _
    unfold f_X9_finds_L2
    refine rw_iload_n C dX9_finds_2 rfl 2 rfl ?_
    refine rw_bipush (c := 6) C dX9_finds_3 (by decide) ?_
    refine rw_icmp_ge (tgt := 35) C dX9_finds_5 (by decide) ?_ ?_
    · exact rw_lv [0, 1] rfl (hj1 M7)
    · refine rw_aload_n C dX9_finds_8 rfl 0 rfl ?_
      refine rw_getR (k0 := 196) (k1 := 216) C dX9_finds_9 fl_X9_67 rfl (by decide) sh_196 (by decide) rfl ?_
      refine rw_iload_n C dX9_finds_12 rfl 2 rfl ?_
      refine rw_iload_n C dX9_finds_13 rfl 2 rfl ?_
      refine rw_stI C dX9_finds_14 (fun M8 => ?_)
      refine rw_aload_n C dX9_finds_15 rfl 0 rfl ?_
      refine rw_getR (k0 := 196) (k1 := 217) C dX9_finds_16 fl_X9_70 rfl (by decide) sh_196 (by decide) rfl ?_
      refine rw_iload_n C dX9_finds_19 rfl 2 rfl ?_
      refine rw_lconst (c := 1) C dX9_finds_20 (by decide) ?_
      refine rw_stL C dX9_finds_21 (fun M9 => ?_)
      refine rw_aload_n C dX9_finds_22 rfl 0 rfl ?_
      refine rw_getR (k0 := 196) (k1 := 218) C dX9_finds_23 fl_X9_74 rfl (by decide) sh_196 (by decide) rfl ?_
      refine rw_iload_n C dX9_finds_26 rfl 2 rfl ?_
      refine rw_lconst (c := 1) C dX9_finds_27 (by decide) ?_
      refine rw_stL C dX9_finds_28 (fun M10 => ?_)
      refine rw_iinc (c := 1) (lv' := [(2, .int (x26 + 1)), (0, .ref (κ.1 + 196)), (1, .int a1)]) C dX9_finds_29 2 rfl (by decide) (by decide) rfl ?_
      refine rw_goto (tgt := 2) C dX9_finds_32 (by decide) ?_
      exact rw_lv [1, 2, 0] rfl (hrec2 (x26 + 1) M10)
def f_X9_worthOf (a1 : Int32) (a2 : Int32) (a3 : Int32) (M : pv_M) : Option (Int64 × pv_M) := pv_cal (f_X9_finds 0 M) (fun x1 M1 => pv_ldI pv_T 216 a1 M1 (fun x2 => pv_ldI pv_T 216 a2 M1 (fun x3 => (if x2 = x3 then pv_ldL pv_T 217 a1 M1 (fun x4 => pv_ldL pv_T 218 a2 M1 (fun x5 => pv_nm (x4 * x5) (fun x6 => pv_ldL pv_T 218 a1 M1 (fun x7 => pv_ldL pv_T 217 a2 M1 (fun x8 => pv_nm (x7 * x8) (fun x9 => pv_jn (fun (x10 : Int64) => pv_cap (f_X9_common x6 x9 M1) (fun x11 => pv_ck (decide (¬ x11 = 0)) (some (x10 / x11, M1)))) (fun j1 => (if a3 = 0 then j1 x6 else j1 x9)))))))) else pv_cap (f_X9_no ((-3)) M1) (fun x12 => some (x12, M1))))))
set_option maxHeartbeats 4000000 in
set_option maxRecDepth 100000 in
theorem k_X9_worthOf (l : Launch) (κ : pv_K) (a1 : Int32) (a2 : Int32) (a3 : Int32) (M : pv_M) : pv_Mt l yX9_worthOf cX9_worthOf 8 (some .long) 3 κ [.ref (κ.1 + 196), .int a1, .int a2, .int a3] M pv_jl (f_X9_worthOf a1 a2 a3 M) := by
  refine pv_enter (by decide +kernel) (Nat.le_of_ble_eq_true rfl) (fun g hl hR C => ?_)
  have C : pv_Ok g κ 8 cX9_worthOf RX9 (some .long) := C
  show pv_R g κ pv_T pv_RF 8 0 0 (pv_QF g κ pv_jl) 0 [(0, .ref (κ.1 + 196)), (1, .int a1), (2, .int a2), (3, .int a3)] [] M (f_X9_worthOf a1 a2 a3 M)
  unfold f_X9_worthOf
  refine rw_aload_n C dX9_worthOf_0 rfl 0 rfl ?_
  refine rw_iconst (c := 0) C dX9_worthOf_1 ci_0 ?_
  refine rw_callVi (As := [.int 0]) (k0 := 196) C hR dX9_worthOf_2 cv_X9_294 (k_X9_finds g.2.1 κ 0 M) (by decide) (by decide) (by decide) sh_196 rfl rfl (Nat.le_of_ble_eq_true rfl) rfl (fun x1 M1 => ?_)
  refine rw_pop C dX9_worthOf_5 rfl ?_
  refine rw_aload_n C dX9_worthOf_6 rfl 0 rfl ?_
  refine rw_getR (k0 := 196) (k1 := 216) C dX9_worthOf_7 fl_X9_67 rfl (by decide) sh_196 (by decide) rfl ?_
  refine rw_iload_n C dX9_worthOf_10 rfl 1 rfl ?_
  refine rw_ldI C dX9_worthOf_11 (fun x2 => ?_)
  refine rw_aload_n C dX9_worthOf_12 rfl 0 rfl ?_
  refine rw_getR (k0 := 196) (k1 := 216) C dX9_worthOf_13 fl_X9_67 rfl (by decide) sh_196 (by decide) rfl ?_
  refine rw_iload_n C dX9_worthOf_16 rfl 2 rfl ?_
  refine rw_ldI C dX9_worthOf_17 (fun x3 => ?_)
  refine rw_icmp_eq (tgt := 27) C dX9_worthOf_18 (by decide) ?_ ?_
  · refine rw_aload_n C dX9_worthOf_27 rfl 0 rfl ?_
    refine rw_getR (k0 := 196) (k1 := 217) C dX9_worthOf_28 fl_X9_70 rfl (by decide) sh_196 (by decide) rfl ?_
    refine rw_iload_n C dX9_worthOf_31 rfl 1 rfl ?_
    refine rw_ldL C dX9_worthOf_32 (fun x4 => ?_)
    refine rw_aload_n C dX9_worthOf_33 rfl 0 rfl ?_
    refine rw_getR (k0 := 196) (k1 := 218) C dX9_worthOf_34 fl_X9_74 rfl (by decide) sh_196 (by decide) rfl ?_
    refine rw_iload_n C dX9_worthOf_37 rfl 2 rfl ?_
    refine rw_ldL C dX9_worthOf_38 (fun x5 => ?_)
    refine rw_lmul C dX9_worthOf_39 ?_
    refine rw_nmL (fun x6 => ?_)
    refine rw_lstore (lv' := [(4, .long x6), (0, .ref (κ.1 + 196)), (1, .int a1), (2, .int a2), (3, .int a3)]) C dX9_worthOf_40 (by decide) rfl ?_
    refine rw_aload_n C dX9_worthOf_42 rfl 1 rfl ?_
    refine rw_getR (k0 := 196) (k1 := 218) C dX9_worthOf_43 fl_X9_74 rfl (by decide) sh_196 (by decide) rfl ?_
    refine rw_iload_n C dX9_worthOf_46 rfl 2 rfl ?_
    refine rw_ldL C dX9_worthOf_47 (fun x7 => ?_)
    refine rw_aload_n C dX9_worthOf_48 rfl 1 rfl ?_
    refine rw_getR (k0 := 196) (k1 := 217) C dX9_worthOf_49 fl_X9_70 rfl (by decide) sh_196 (by decide) rfl ?_
    refine rw_iload_n C dX9_worthOf_52 rfl 3 rfl ?_
    refine rw_ldL C dX9_worthOf_53 (fun x8 => ?_)
    refine rw_lmul C dX9_worthOf_54 ?_
    refine rw_nmL (fun x9 => ?_)
    refine rw_lstore (lv' := [(6, .long x9), (4, .long x6), (0, .ref (κ.1 + 196)), (1, .int a1), (2, .int a2), (3, .int a3)]) C dX9_worthOf_55 (by decide) rfl ?_
    refine rw_iload_n C dX9_worthOf_57 rfl 5 rfl ?_
    refine rw_jn (fun j1 => ∀ (x10 : Int64), pv_R g κ pv_T pv_RF 8 0 0 (pv_QF g κ pv_jl) 68 [(4, .long x6), (6, .long x9)] [.long x10] M1 (j1 x10)) (fun x10 => ?_) (fun j1 hj1 => ?_)
    · refine rw_lload C dX9_worthOf_68 0 rfl ?_
      refine rw_lload C dX9_worthOf_70 1 rfl ?_
      refine rw_callSPl (As := [.long x6, .long x9]) C hR dX9_worthOf_72 cs_X9_280 (k_X9_common g.2.1 κ x6 x9 M1) (by decide) (by decide) rfl (Nat.le_of_ble_eq_true rfl) rfl (fun x11 => ?_)
      refine rw_ck (fun hb1 => ?_)
      refine rw_ldiv C dX9_worthOf_75 (of_decide_eq_true hb1) ?_
      exact rw_lret C dX9_worthOf_76
    · refine rw_if_ne (tgt := 66) C dX9_worthOf_58 (by decide) ?_ ?_
      · refine rw_lload C dX9_worthOf_66 0 rfl ?_
        exact rw_lv [1, 0] rfl (hj1 x9)
      · refine rw_lload C dX9_worthOf_61 1 rfl ?_
        refine rw_goto (tgt := 68) C dX9_worthOf_63 (by decide) ?_
        exact rw_lv [1, 0] rfl (hj1 x6)
  · refine rw_bipush (c := (-3)) C dX9_worthOf_21 (by decide) ?_
    refine rw_callSPl (As := [.int (-3)]) C hR dX9_worthOf_23 cs_X9_297 (k_X9_no g.2.1 κ ((-3)) M1) (by decide) (by decide) rfl (Nat.le_of_ble_eq_true rfl) rfl (fun x12 => ?_)
    exact rw_lret C dX9_worthOf_26
def f_X9_worth (a1 : Int32) (a2 : Int32) (a3 : Int32) (M : pv_M) : Option (Int64 × pv_M) := pv_cal (f_X9_reads M) (fun u1 M1 => pv_cap (f_X9_in a1.toInt64 0 5 M1) (fun x1 => pv_jn (pv_cap (f_X9_no ((-2)) M1) (fun x2 => some (x2, M1))) (fun j1 => (if x1 = 0 then j1 else pv_cap (f_X9_in a2.toInt64 0 5 M1) (fun x3 => (if x3 = 0 then j1 else (if a1 = a2 then j1 else pv_cap (f_X9_isTwo a3 M1) (fun x4 => (if x4 = 0 then j1 else pv_cal (f_X9_worthOf a1 a2 a3 M1) (fun x5 M2 => some (x5, M2)))))))))))
set_option maxHeartbeats 4000000 in
set_option maxRecDepth 100000 in
theorem k_X9_worth (l : Launch) (κ : pv_K) (a1 : Int32) (a2 : Int32) (a3 : Int32) (M : pv_M) : pv_Mt l yX9_worth cX9_worth 4 (some .long) 5 κ [.ref (κ.1 + 196), .int a1, .int a2, .int a3] M pv_jl (f_X9_worth a1 a2 a3 M) := by
  refine pv_enter (by decide +kernel) (Nat.le_of_ble_eq_true rfl) (fun g hl hR C => ?_)
  have C : pv_Ok g κ 4 cX9_worth RX9 (some .long) := C
  show pv_R g κ pv_T pv_RF 4 0 0 (pv_QF g κ pv_jl) 0 [(0, .ref (κ.1 + 196)), (1, .int a1), (2, .int a2), (3, .int a3)] [] M (f_X9_worth a1 a2 a3 M)
  unfold f_X9_worth
  refine rw_aload_n C dX9_worth_0 rfl 0 rfl ?_
  refine rw_callVu (As := []) (k0 := 196) C hR dX9_worth_1 cv_X9_151 (k_X9_reads g.2.1 κ M) (by decide) (by decide) (by decide) sh_196 rfl rfl (Nat.le_of_ble_eq_true rfl) rfl (fun u1 M1 => ?_)
  refine rw_iload_n C dX9_worth_4 rfl 1 rfl ?_
  refine rw_i2l C dX9_worth_5 ?_
  refine rw_lconst (c := 0) C dX9_worth_6 (by decide) ?_
  refine rw_ldc2_w (c := 5) C dX9_worth_7 mw_829 ?_
  refine rw_callSPi (As := [.long (a1.toInt64), .long 0, .long 5]) C hR dX9_worth_10 cs_X9_88 (k_X9_in g.2.1 κ a1.toInt64 0 5 M1) (by decide) (by decide) rfl (Nat.le_of_ble_eq_true rfl) rfl (fun x1 => ?_)
  refine rw_jn (fun j1 => pv_R g κ pv_T pv_RF 4 0 0 (pv_QF g κ pv_jl) 50 [] [] M1 (j1)) (?_) (fun j1 hj1 => ?_)
  · refine rw_bipush (c := (-2)) C dX9_worth_50 (by decide) ?_
    refine rw_callSPl (As := [.int (-2)]) C hR dX9_worth_52 cs_X9_297 (k_X9_no g.2.1 κ ((-2)) M1) (by decide) (by decide) rfl (Nat.le_of_ble_eq_true rfl) rfl (fun x2 => ?_)
    exact rw_lret C dX9_worth_55
  · refine rw_if_eq (tgt := 50) C dX9_worth_13 (by decide) ?_ ?_
    · exact rw_lv [] rfl (hj1 )
    · refine rw_iload_n C dX9_worth_16 rfl 2 rfl ?_
      refine rw_i2l C dX9_worth_17 ?_
      refine rw_lconst (c := 0) C dX9_worth_18 (by decide) ?_
      refine rw_ldc2_w (c := 5) C dX9_worth_19 mw_829 ?_
      refine rw_callSPi (As := [.long (a2.toInt64), .long 0, .long 5]) C hR dX9_worth_22 cs_X9_88 (k_X9_in g.2.1 κ a2.toInt64 0 5 M1) (by decide) (by decide) rfl (Nat.le_of_ble_eq_true rfl) rfl (fun x3 => ?_)
      refine rw_if_eq (tgt := 50) C dX9_worth_25 (by decide) ?_ ?_
      · exact rw_lv [] rfl (hj1 )
      · refine rw_iload_n C dX9_worth_28 rfl 1 rfl ?_
        refine rw_iload_n C dX9_worth_29 rfl 2 rfl ?_
        refine rw_icmp_eq (tgt := 50) C dX9_worth_30 (by decide) ?_ ?_
        · exact rw_lv [] rfl (hj1 )
        · refine rw_iload_n C dX9_worth_33 rfl 3 rfl ?_
          refine rw_callSPi (As := [.int a3]) C hR dX9_worth_34 cs_X9_157 (k_X9_isTwo g.2.1 κ a3 M1) (by decide) (by decide) rfl (Nat.le_of_ble_eq_true rfl) rfl (fun x4 => ?_)
          refine rw_if_eq (tgt := 50) C dX9_worth_37 (by decide) ?_ ?_
          · exact rw_lv [] rfl (hj1 )
          · refine rw_aload_n C dX9_worth_40 rfl 0 rfl ?_
            refine rw_iload_n C dX9_worth_41 rfl 1 rfl ?_
            refine rw_iload_n C dX9_worth_42 rfl 2 rfl ?_
            refine rw_iload_n C dX9_worth_43 rfl 3 rfl ?_
            refine rw_callVl (As := [.int a1, .int a2, .int a3]) (k0 := 196) C hR dX9_worth_44 cv_X9_303 (k_X9_worthOf g.2.1 κ a1 a2 a3 M1) (by decide) (by decide) (by decide) sh_196 rfl rfl (Nat.le_of_ble_eq_true rfl) rfl (fun x5 M2 => ?_)
            refine rw_goto (tgt := 55) C dX9_worth_47 (by decide) ?_
            exact rw_lret C dX9_worth_55
def f_X9_clash (M : pv_M) : Option (Int32 × pv_M) := pv_cal (f_X9_reads M) (fun u1 M1 => pv_cal (f_X9_finds 0 M1) (fun x1 M2 => pv_nm (M2.1 196 26) (fun x2 => some (x2, M2))))
set_option maxHeartbeats 4000000 in
set_option maxRecDepth 100000 in
theorem k_X9_clash (l : Launch) (κ : pv_K) (M : pv_M) : pv_Mt l yX9_clash cX9_clash 1 (some .int) 5 κ [.ref (κ.1 + 196)] M pv_ji (f_X9_clash M) := by
  refine pv_enter (by decide +kernel) (Nat.le_of_ble_eq_true rfl) (fun g hl hR C => ?_)
  have C : pv_Ok g κ 1 cX9_clash RX9 (some .int) := C
  show pv_R g κ pv_T pv_RF 1 0 0 (pv_QF g κ pv_ji) 0 [(0, .ref (κ.1 + 196))] [] M (f_X9_clash M)
  unfold f_X9_clash
  refine rw_aload_n C dX9_clash_0 rfl 0 rfl ?_
  refine rw_callVu (As := []) (k0 := 196) C hR dX9_clash_1 cv_X9_151 (k_X9_reads g.2.1 κ M) (by decide) (by decide) (by decide) sh_196 rfl rfl (Nat.le_of_ble_eq_true rfl) rfl (fun u1 M1 => ?_)
  refine rw_aload_n C dX9_clash_4 rfl 0 rfl ?_
  refine rw_iconst (c := 0) C dX9_clash_5 ci_0 ?_
  refine rw_callVi (As := [.int 0]) (k0 := 196) C hR dX9_clash_6 cv_X9_294 (k_X9_finds g.2.1 κ 0 M1) (by decide) (by decide) (by decide) sh_196 rfl rfl (Nat.le_of_ble_eq_true rfl) rfl (fun x1 M2 => ?_)
  refine rw_pop C dX9_clash_9 rfl ?_
  refine rw_aload_n C dX9_clash_10 rfl 0 rfl ?_
  refine rw_getI (k0 := 196) C dX9_clash_11 fl_X9_284 rfl (by decide) sh_196 (by decide) (fun x2 => ?_)
  exact rw_iret C dX9_clash_14
def f_X9_dropNow_L4 (rec1 : Int32 → Int32 → pv_M → Option (Int32 × pv_M)) (x1 : Int32) (x2 : Int32) (M1 : pv_M) : Option (Int32 × pv_M) := pv_ldI pv_T 203 2 M1 (fun x3 => (if (1 <<< (x3 &&& 31)) ≤ x2 then some (x1, M1) else pv_jn (fun (x4 : Int32) => (if x4 = 0 then rec1 x1 (x2 + 1) M1 else pv_cal (f_X9_finds x2 M1) (fun x5 M2 => (if x5 = 0 then rec1 x1 (x2 + 1) M2 else rec1 x2 (x2 + 1) M2)))) (fun j1 => (if x1 = ((-1)) then j1 1 else pv_cap (f_X9_ones x2 M1) (fun x6 => pv_cap (f_X9_ones x1 M1) (fun x7 => (if x7 ≤ x6 then j1 0 else j1 1)))))))
def f_X9_dropNow (M : pv_M) : Option (Int32 × pv_M) := pv_lp3 f_X9_dropNow_L4 pv_FU ((-1)) 0 M
set_option maxHeartbeats 4000000 in
set_option maxRecDepth 100000 in
theorem k_X9_dropNow (l : Launch) (κ : pv_K) (M : pv_M) : pv_Mt l yX9_dropNow cX9_dropNow 4 (some .int) 3 κ [.ref (κ.1 + 196)] M pv_ji (f_X9_dropNow M) := by
  refine pv_enter (by decide +kernel) (Nat.le_of_ble_eq_true rfl) (fun g hl hR C => ?_)
  have C : pv_Ok g κ 4 cX9_dropNow RX9 (some .int) := C
  show pv_R g κ pv_T pv_RF 4 0 0 (pv_QF g κ pv_ji) 0 [(0, .ref (κ.1 + 196))] [] M (f_X9_dropNow M)
  unfold f_X9_dropNow
  refine rw_iconst (c := (-1)) C dX9_dropNow_0 ci_m1 ?_
  refine rw_istore_n (lv' := [(1, .int (-1)), (0, .ref (κ.1 + 196))]) C dX9_dropNow_1 rfl (by decide) rfl ?_
  refine rw_iconst (c := 0) C dX9_dropNow_2 ci_0 ?_
  refine rw_istore_n (lv' := [(2, .int 0), (1, .int (-1)), (0, .ref (κ.1 + 196))]) C dX9_dropNow_3 rfl (by decide) rfl ?_
  refine rw_lv (lv' := [(0, .ref (κ.1 + 196)), (1, .int (-1)), (2, .int 0)]) [2, 1, 0] rfl ?_
  refine pv_lp3_ind (fun x1 x2 M1 xx => pv_R g κ pv_T pv_RF 4 0 0 (pv_QF g κ pv_ji) 4 [(0, .ref (κ.1 + 196)), (1, .int x1), (2, .int x2)] [] M1 xx) (fun _ _ _ => rw_none) (fun rec1 hrec1 x1 x2 M1 => ?_) _ _ _ _
  unfold f_X9_dropNow_L4
  refine rw_iload_n C dX9_dropNow_4 rfl 2 rfl ?_
  refine rw_iconst (c := 1) C dX9_dropNow_5 ci_1 ?_
  refine rw_aload_n C dX9_dropNow_6 rfl 0 rfl ?_
  refine rw_getR (k0 := 196) (k1 := 203) C dX9_dropNow_7 fl_X9_28 rfl (by decide) sh_196 (by decide) rfl ?_
  refine rw_iconst (c := 2) C dX9_dropNow_10 ci_2 ?_
  refine rw_ldI C dX9_dropNow_11 (fun x3 => ?_)
  refine rw_ishl C dX9_dropNow_12 ?_
  refine rw_icmp_ge (tgt := 62) C dX9_dropNow_13 (by decide) ?_ ?_
  · refine rw_iload_n C dX9_dropNow_62 rfl 1 rfl ?_
    exact rw_iret C dX9_dropNow_63
  · refine rw_iload_n C dX9_dropNow_16 rfl 1 rfl ?_
    refine rw_iconst (c := (-1)) C dX9_dropNow_17 ci_m1 ?_
    refine rw_jn (fun j1 => ∀ (x4 : Int32), pv_R g κ pv_T pv_RF 4 0 0 (pv_QF g κ pv_ji) 37 [(0, .ref (κ.1 + 196)), (1, .int x1), (2, .int x2)] [.int x4] M1 (j1 x4)) (fun x4 => ?_) (fun j1 hj1 => ?_)
    · refine rw_istore_n (lv' := [(3, .int x4), (0, .ref (κ.1 + 196)), (1, .int x1), (2, .int x2)]) C dX9_dropNow_37 rfl (by decide) rfl ?_
      refine rw_iload_n C dX9_dropNow_38 rfl 0 rfl ?_
      refine rw_if_eq (tgt := 54) C dX9_dropNow_39 (by decide) ?_ ?_
      · refine rw_iload_n C dX9_dropNow_54 rfl 2 rfl ?_
        refine rw_istore_n (lv' := [(1, .int x1), (3, .int x4), (0, .ref (κ.1 + 196)), (2, .int x2)]) C dX9_dropNow_55 rfl (by decide) rfl ?_
        refine rw_iinc (c := 1) (lv' := [(2, .int (x2 + 1)), (1, .int x1), (3, .int x4), (0, .ref (κ.1 + 196))]) C dX9_dropNow_56 3 rfl (by decide) (by decide) rfl ?_
        refine rw_goto (tgt := 4) C dX9_dropNow_59 (by decide) ?_
        exact rw_lv [3, 1, 0] rfl (hrec1 x1 (x2 + 1) M1)
      · refine rw_aload_n C dX9_dropNow_42 rfl 1 rfl ?_
        refine rw_iload_n C dX9_dropNow_43 rfl 3 rfl ?_
        refine rw_callVi (As := [.int x2]) (k0 := 196) C hR dX9_dropNow_44 cv_X9_294 (k_X9_finds g.2.1 κ x2 M1) (by decide) (by decide) (by decide) sh_196 rfl rfl (Nat.le_of_ble_eq_true rfl) rfl (fun x5 M2 => ?_)
        refine rw_if_eq (tgt := 54) C dX9_dropNow_47 (by decide) ?_ ?_
        · refine rw_iload_n C dX9_dropNow_54 rfl 2 rfl ?_
          refine rw_istore_n (lv' := [(1, .int x1), (3, .int x4), (0, .ref (κ.1 + 196)), (2, .int x2)]) C dX9_dropNow_55 rfl (by decide) rfl ?_
          refine rw_iinc (c := 1) (lv' := [(2, .int (x2 + 1)), (1, .int x1), (3, .int x4), (0, .ref (κ.1 + 196))]) C dX9_dropNow_56 3 rfl (by decide) (by decide) rfl ?_
          refine rw_goto (tgt := 4) C dX9_dropNow_59 (by decide) ?_
          exact rw_lv [3, 1, 0] rfl (hrec1 x1 (x2 + 1) M2)
        · refine rw_iload_n C dX9_dropNow_50 rfl 3 rfl ?_
          refine rw_goto (tgt := 55) C dX9_dropNow_51 (by decide) ?_
          refine rw_istore_n (lv' := [(1, .int x2), (3, .int x4), (0, .ref (κ.1 + 196)), (2, .int x2)]) C dX9_dropNow_55 rfl (by decide) rfl ?_
          refine rw_iinc (c := 1) (lv' := [(2, .int (x2 + 1)), (1, .int x2), (3, .int x4), (0, .ref (κ.1 + 196))]) C dX9_dropNow_56 3 rfl (by decide) (by decide) rfl ?_
          refine rw_goto (tgt := 4) C dX9_dropNow_59 (by decide) ?_
          exact rw_lv [3, 1, 0] rfl (hrec1 x2 (x2 + 1) M2)
    · refine rw_icmp_eq (tgt := 32) C dX9_dropNow_18 (by decide) ?_ ?_
      · refine rw_iconst (c := 1) C dX9_dropNow_32 ci_1 ?_
        refine rw_goto (tgt := 37) C dX9_dropNow_33 (by decide) ?_
        exact hj1 1
      · refine rw_iload_n C dX9_dropNow_21 rfl 2 rfl ?_
        refine rw_callSPi (As := [.int x2]) C hR dX9_dropNow_22 cs_X9_307 (k_X9_ones g.2.1 κ x2 M1) (by decide) (by decide) rfl (Nat.le_of_ble_eq_true rfl) rfl (fun x6 => ?_)
        refine rw_iload_n C dX9_dropNow_25 rfl 1 rfl ?_
        refine rw_callSPi (As := [.int x1]) C hR dX9_dropNow_26 cs_X9_307 (k_X9_ones g.2.1 κ x1 M1) (by decide) (by decide) rfl (Nat.le_of_ble_eq_true rfl) rfl (fun x7 => ?_)
        refine rw_icmp_ge (tgt := 36) C dX9_dropNow_29 (by decide) ?_ ?_
        · refine rw_iconst (c := 0) C dX9_dropNow_36 ci_0 ?_
          exact hj1 0
        · refine rw_iconst (c := 1) C dX9_dropNow_32 ci_1 ?_
          refine rw_goto (tgt := 37) C dX9_dropNow_33 (by decide) ?_
          exact hj1 1
def f_X9_drop (M : pv_M) : Option (Int32 × pv_M) := pv_cal (f_X9_reads M) (fun u1 M1 => pv_cal (f_X9_dropNow M1) (fun x1 M2 => some (x1, M2)))
set_option maxHeartbeats 4000000 in
set_option maxRecDepth 100000 in
theorem k_X9_drop (l : Launch) (κ : pv_K) (M : pv_M) : pv_Mt l yX9_drop cX9_drop 1 (some .int) 5 κ [.ref (κ.1 + 196)] M pv_ji (f_X9_drop M) := by
  refine pv_enter (by decide +kernel) (Nat.le_of_ble_eq_true rfl) (fun g hl hR C => ?_)
  have C : pv_Ok g κ 1 cX9_drop RX9 (some .int) := C
  show pv_R g κ pv_T pv_RF 1 0 0 (pv_QF g κ pv_ji) 0 [(0, .ref (κ.1 + 196))] [] M (f_X9_drop M)
  unfold f_X9_drop
  refine rw_aload_n C dX9_drop_0 rfl 0 rfl ?_
  refine rw_callVu (As := []) (k0 := 196) C hR dX9_drop_1 cv_X9_151 (k_X9_reads g.2.1 κ M) (by decide) (by decide) (by decide) sh_196 rfl rfl (Nat.le_of_ble_eq_true rfl) rfl (fun u1 M1 => ?_)
  refine rw_aload_n C dX9_drop_4 rfl 0 rfl ?_
  refine rw_callVi (As := []) (k0 := 196) C hR dX9_drop_5 cv_X9_310 (k_X9_dropNow g.2.1 κ M1) (by decide) (by decide) (by decide) sh_196 rfl rfl (Nat.le_of_ble_eq_true rfl) rfl (fun x1 M2 => ?_)
  exact rw_iret C dX9_drop_8
def f_X9_rate (a1 : Int32) (a2 : Int32) (a3 : Int32) (a4 : Int32) (M : pv_M) : Option (Int32 × pv_M) := pv_cap (f_X9_in a1.toInt64 0 3 M) (fun x1 => (if x1 = 0 then some ((-2), M) else pv_cap (f_X9_in a2.toInt64 0 3 M) (fun x2 => (if x2 = 0 then some ((-2), M) else (if a1 = a2 then some ((-2), M) else pv_cap (f_X9_in a3.toInt64 1 9 M) (fun x3 => (if x3 = 0 then some ((-2), M) else pv_cap (f_X9_in a4.toInt64 1 9 M) (fun x4 => (if x4 = 0 then some ((-2), M) else pv_nm (2 * ((4 * a1) + a2)) (fun x5 => pv_ldI pv_T 219 x5 M (fun x6 => pv_ldI pv_T 219 (x5 + 1) M (fun x7 => pv_nm ((10 * x6) + x7) (fun x8 => pv_stI pv_T 219 x5 a3 M (fun M1 => pv_stI pv_T 219 (x5 + 1) a4 M1 (fun M2 => some (x8, M2))))))))))))))))
set_option maxHeartbeats 4000000 in
set_option maxRecDepth 100000 in
theorem k_X9_rate (l : Launch) (κ : pv_K) (a1 : Int32) (a2 : Int32) (a3 : Int32) (a4 : Int32) (M : pv_M) : pv_Mt l yX9_rate cX9_rate 7 (some .int) 1 κ [.ref (κ.1 + 196), .int a1, .int a2, .int a3, .int a4] M pv_ji (f_X9_rate a1 a2 a3 a4 M) := by
  refine pv_enter (by decide +kernel) (Nat.le_of_ble_eq_true rfl) (fun g hl hR C => ?_)
  have C : pv_Ok g κ 7 cX9_rate RX9 (some .int) := C
  show pv_R g κ pv_T pv_RF 7 0 0 (pv_QF g κ pv_ji) 0 [(0, .ref (κ.1 + 196)), (1, .int a1), (2, .int a2), (3, .int a3), (4, .int a4)] [] M (f_X9_rate a1 a2 a3 a4 M)
  unfold f_X9_rate
  refine rw_iload_n C dX9_rate_0 rfl 1 rfl ?_
  refine rw_i2l C dX9_rate_1 ?_
  refine rw_lconst (c := 0) C dX9_rate_2 (by decide) ?_
  refine rw_ldc2_w (c := 3) C dX9_rate_3 mw_446 ?_
  refine rw_callSPi (As := [.long (a1.toInt64), .long 0, .long 3]) C hR dX9_rate_6 cs_X9_88 (k_X9_in g.2.1 κ a1.toInt64 0 3 M) (by decide) (by decide) rfl (Nat.le_of_ble_eq_true rfl) rfl (fun x1 => ?_)
  refine rw_if_eq (tgt := 54) C dX9_rate_9 (by decide) ?_ ?_
  · refine rw_bipush (c := (-2)) C dX9_rate_54 (by decide) ?_
    exact rw_iret C dX9_rate_56
  · refine rw_iload_n C dX9_rate_12 rfl 2 rfl ?_
    refine rw_i2l C dX9_rate_13 ?_
    refine rw_lconst (c := 0) C dX9_rate_14 (by decide) ?_
    refine rw_ldc2_w (c := 3) C dX9_rate_15 mw_446 ?_
    refine rw_callSPi (As := [.long (a2.toInt64), .long 0, .long 3]) C hR dX9_rate_18 cs_X9_88 (k_X9_in g.2.1 κ a2.toInt64 0 3 M) (by decide) (by decide) rfl (Nat.le_of_ble_eq_true rfl) rfl (fun x2 => ?_)
    refine rw_if_eq (tgt := 54) C dX9_rate_21 (by decide) ?_ ?_
    · refine rw_bipush (c := (-2)) C dX9_rate_54 (by decide) ?_
      exact rw_iret C dX9_rate_56
    · refine rw_iload_n C dX9_rate_24 rfl 1 rfl ?_
      refine rw_iload_n C dX9_rate_25 rfl 2 rfl ?_
      refine rw_icmp_eq (tgt := 54) C dX9_rate_26 (by decide) ?_ ?_
      · refine rw_bipush (c := (-2)) C dX9_rate_54 (by decide) ?_
        exact rw_iret C dX9_rate_56
      · refine rw_iload_n C dX9_rate_29 rfl 3 rfl ?_
        refine rw_i2l C dX9_rate_30 ?_
        refine rw_lconst (c := 1) C dX9_rate_31 (by decide) ?_
        refine rw_ldc2_w (c := 9) C dX9_rate_32 mw_362 ?_
        refine rw_callSPi (As := [.long (a3.toInt64), .long 1, .long 9]) C hR dX9_rate_35 cs_X9_88 (k_X9_in g.2.1 κ a3.toInt64 1 9 M) (by decide) (by decide) rfl (Nat.le_of_ble_eq_true rfl) rfl (fun x3 => ?_)
        refine rw_if_eq (tgt := 54) C dX9_rate_38 (by decide) ?_ ?_
        · refine rw_bipush (c := (-2)) C dX9_rate_54 (by decide) ?_
          exact rw_iret C dX9_rate_56
        · refine rw_iload C dX9_rate_41 4 rfl ?_
          refine rw_i2l C dX9_rate_43 ?_
          refine rw_lconst (c := 1) C dX9_rate_44 (by decide) ?_
          refine rw_ldc2_w (c := 9) C dX9_rate_45 mw_362 ?_
          refine rw_callSPi (As := [.long (a4.toInt64), .long 1, .long 9]) C hR dX9_rate_48 cs_X9_88 (k_X9_in g.2.1 κ a4.toInt64 1 9 M) (by decide) (by decide) rfl (Nat.le_of_ble_eq_true rfl) rfl (fun x4 => ?_)
          refine rw_if_ne (tgt := 57) C dX9_rate_51 (by decide) ?_ ?_
          · refine rw_iconst (c := 2) C dX9_rate_57 ci_2 ?_
            refine rw_iconst (c := 4) C dX9_rate_58 ci_4 ?_
            refine rw_iload_n C dX9_rate_59 rfl 1 rfl ?_
            refine rw_imul C dX9_rate_60 ?_
            refine rw_iload_n C dX9_rate_61 rfl 2 rfl ?_
            refine rw_iadd C dX9_rate_62 ?_
            refine rw_imul C dX9_rate_63 ?_
            refine rw_nm (fun x5 => ?_)
            refine rw_istore (lv' := [(5, .int x5), (0, .ref (κ.1 + 196)), (1, .int a1), (2, .int a2), (3, .int a3), (4, .int a4)]) C dX9_rate_64 (by decide) rfl ?_
            refine rw_bipush (c := 10) C dX9_rate_66 (by decide) ?_
            refine rw_aload_n C dX9_rate_68 rfl 1 rfl ?_
            refine rw_getR (k0 := 196) (k1 := 219) C dX9_rate_69 fl_X9_77 rfl (by decide) sh_196 (by decide) rfl ?_
            refine rw_iload C dX9_rate_72 0 rfl ?_
            refine rw_ldI C dX9_rate_74 (fun x6 => ?_)
            refine rw_imul C dX9_rate_75 ?_
            refine rw_aload_n C dX9_rate_76 rfl 1 rfl ?_
            refine rw_getR (k0 := 196) (k1 := 219) C dX9_rate_77 fl_X9_77 rfl (by decide) sh_196 (by decide) rfl ?_
            refine rw_iload C dX9_rate_80 0 rfl ?_
            refine rw_iconst (c := 1) C dX9_rate_82 ci_1 ?_
            refine rw_iadd C dX9_rate_83 ?_
            refine rw_ldI C dX9_rate_84 (fun x7 => ?_)
            refine rw_iadd C dX9_rate_85 ?_
            refine rw_nm (fun x8 => ?_)
            refine rw_istore (lv' := [(6, .int x8), (5, .int x5), (0, .ref (κ.1 + 196)), (1, .int a1), (2, .int a2), (3, .int a3), (4, .int a4)]) C dX9_rate_86 (by decide) rfl ?_
            refine rw_aload_n C dX9_rate_88 rfl 2 rfl ?_
            refine rw_getR (k0 := 196) (k1 := 219) C dX9_rate_89 fl_X9_77 rfl (by decide) sh_196 (by decide) rfl ?_
            refine rw_iload C dX9_rate_92 1 rfl ?_
            refine rw_iload_n C dX9_rate_94 rfl 5 rfl ?_
            refine rw_stI C dX9_rate_95 (fun M1 => ?_)
            refine rw_aload_n C dX9_rate_96 rfl 2 rfl ?_
            refine rw_getR (k0 := 196) (k1 := 219) C dX9_rate_97 fl_X9_77 rfl (by decide) sh_196 (by decide) rfl ?_
            refine rw_iload C dX9_rate_100 1 rfl ?_
            refine rw_iconst (c := 1) C dX9_rate_102 ci_1 ?_
            refine rw_iadd C dX9_rate_103 ?_
            refine rw_iload C dX9_rate_104 6 rfl ?_
            refine rw_stI C dX9_rate_106 (fun M2 => ?_)
            refine rw_iload C dX9_rate_107 0 rfl ?_
            exact rw_iret C dX9_rate_109
          · refine rw_bipush (c := (-2)) C dX9_rate_54 (by decide) ?_
            exact rw_iret C dX9_rate_56
def f_X9_digit (a1 : Int32) (a2 : Int32) (a3 : Int32) (M : pv_M) : Option Int32 := some ((a1 >>> ((2 * ((a2 - 1) - a3)) &&& 31)) &&& 3)
set_option maxHeartbeats 4000000 in
set_option maxRecDepth 100000 in
theorem k_X9_digit (l : Launch) (κ : pv_K) (a1 : Int32) (a2 : Int32) (a3 : Int32) (M : pv_M) : pv_MtP l yX9_digit cX9_digit 3 (some .int) 0 κ [.int a1, .int a2, .int a3] M pv_ji (f_X9_digit a1 a2 a3 M) := by
  refine pv_enterP (by decide +kernel) (Nat.le_of_ble_eq_true rfl) (fun g hl hR C => ?_)
  have C : pv_Ok g κ 3 cX9_digit RX9 (some .int) := C
  show pv_R g κ pv_T pv_RF 3 0 0 (pv_QP g κ pv_ji M) 0 [(0, .int a1), (1, .int a2), (2, .int a3)] [] M (f_X9_digit a1 a2 a3 M)
  unfold f_X9_digit
  refine rw_iload_n C dX9_digit_0 rfl 0 rfl ?_
  refine rw_iconst (c := 2) C dX9_digit_1 ci_2 ?_
  refine rw_iload_n C dX9_digit_2 rfl 1 rfl ?_
  refine rw_iconst (c := 1) C dX9_digit_3 ci_1 ?_
  refine rw_isub C dX9_digit_4 ?_
  refine rw_iload_n C dX9_digit_5 rfl 2 rfl ?_
  refine rw_isub C dX9_digit_6 ?_
  refine rw_imul C dX9_digit_7 ?_
  refine rw_ishr C dX9_digit_8 ?_
  refine rw_iconst (c := 3) C dX9_digit_9 ci_3 ?_
  refine rw_iand C dX9_digit_10 ?_
  exact rw_iretP C dX9_digit_11
def f_X9_isTour_L7 (a2 : Int32) (a1 : Int32) (M : pv_M) (rec1 : Int32 → Int32 → Int32 → Option Int32) (x1 : Int32) (x2 : Int32) (x3 : Int32) : Option Int32 := (if a2 ≤ x3 then (if x2 = 0 ∨ x2 = 1 then some x2 else none) else pv_cap (f_X9_digit a1 a2 x3 M) (fun x4 => pv_jn (fun (x5 : Int32) => pv_nm (x1 ||| (1 <<< (x4 &&& 31))) (fun x6 => rec1 x6 x5 (x3 + 1))) (fun j1 => (if x2 = 0 then j1 0 else pv_cap (f_X9_isIn x1 x4 M) (fun x7 => (if x7 = 0 then pv_cap (f_X9_digit a1 a2 0 M) (fun x8 => (if x4 < x8 then j1 0 else j1 1)) else j1 0))))))
def f_X9_isTour (a1 : Int32) (a2 : Int32) (M : pv_M) : Option Int32 := pv_lp3 (f_X9_isTour_L7 a2 a1 M) pv_FU 0 1 0
set_option maxHeartbeats 4000000 in
set_option maxRecDepth 100000 in
theorem k_X9_isTour (l : Launch) (κ : pv_K) (a1 : Int32) (a2 : Int32) (M : pv_M) : pv_MtP l yX9_isTour cX9_isTour 6 (some .boolean) 1 κ [.int a1, .int a2] M pv_ji (f_X9_isTour a1 a2 M) := by
  refine pv_enterP (by decide +kernel) (Nat.le_of_ble_eq_true rfl) (fun g hl hR C => ?_)
  have C : pv_Ok g κ 6 cX9_isTour RX9 (some .boolean) := C
  show pv_R g κ pv_T pv_RF 6 0 0 (pv_QP g κ pv_ji M) 0 [(0, .int a1), (1, .int a2)] [] M (f_X9_isTour a1 a2 M)
  unfold f_X9_isTour
  refine rw_iconst (c := 0) C dX9_isTour_0 ci_0 ?_
  refine rw_istore_n (lv' := [(2, .int 0), (0, .int a1), (1, .int a2)]) C dX9_isTour_1 rfl (by decide) rfl ?_
  refine rw_iconst (c := 1) C dX9_isTour_2 ci_1 ?_
  refine rw_istore_n (lv' := [(3, .int 1), (2, .int 0), (0, .int a1), (1, .int a2)]) C dX9_isTour_3 rfl (by decide) rfl ?_
  refine rw_iconst (c := 0) C dX9_isTour_4 ci_0 ?_
  refine rw_istore (lv' := [(4, .int 0), (3, .int 1), (2, .int 0), (0, .int a1), (1, .int a2)]) C dX9_isTour_5 (by decide) rfl ?_
  refine rw_lv (lv' := [(0, .int a1), (1, .int a2), (2, .int 0), (3, .int 1), (4, .int 0)]) [3, 4, 2, 1, 0] rfl ?_
  refine pv_lp3_ind (fun x1 x2 x3 xx => pv_R g κ pv_T pv_RF 6 0 0 (pv_QP g κ pv_ji M) 7 [(0, .int a1), (1, .int a2), (2, .int x1), (3, .int x2), (4, .int x3)] [] M xx) (fun _ _ _ => rw_none) (fun rec1 hrec1 x1 x2 x3 => ?_) _ _ _ _
  unfold f_X9_isTour_L7
  refine rw_iload C dX9_isTour_7 4 rfl ?_
  refine rw_iload_n C dX9_isTour_9 rfl 1 rfl ?_
  refine rw_icmp_ge (tgt := 65) C dX9_isTour_10 (by decide) ?_ ?_
  · refine rw_iload_n C dX9_isTour_65 rfl 3 rfl ?_
    exact rw_zret_ckP C dX9_isTour_66
  · refine rw_iload_n C dX9_isTour_13 rfl 0 rfl ?_
    refine rw_iload_n C dX9_isTour_14 rfl 1 rfl ?_
    refine rw_iload C dX9_isTour_15 4 rfl ?_
    refine rw_callSPi (As := [.int a1, .int a2, .int x3]) C hR dX9_isTour_17 cs_X9_313 (k_X9_digit g.2.1 κ a1 a2 x3 M) (by decide) (by decide) rfl (Nat.le_of_ble_eq_true rfl) rfl (fun x4 => ?_)
    refine rw_istore (lv' := [(5, .int x4), (0, .int a1), (1, .int a2), (2, .int x1), (3, .int x2), (4, .int x3)]) C dX9_isTour_20 (by decide) rfl ?_
    refine rw_iload_n C dX9_isTour_22 rfl 4 rfl ?_
    refine rw_jn (fun j1 => ∀ (x5 : Int32), pv_R g κ pv_T pv_RF 6 0 0 (pv_QP g κ pv_ji M) 51 [(0, .int a1), (1, .int a2), (2, .int x1), (4, .int x3), (5, .int x4)] [.int x5] M (j1 x5)) (fun x5 => ?_) (fun j1 hj1 => ?_)
    · refine rw_istore_n (lv' := [(3, .int x5), (0, .int a1), (1, .int a2), (2, .int x1), (4, .int x3), (5, .int x4)]) C dX9_isTour_51 rfl (by decide) rfl ?_
      refine rw_iload_n C dX9_isTour_52 rfl 3 rfl ?_
      refine rw_iconst (c := 1) C dX9_isTour_53 ci_1 ?_
      refine rw_iload C dX9_isTour_54 5 rfl ?_
      refine rw_ishl C dX9_isTour_56 ?_
      refine rw_ior C dX9_isTour_57 ?_
      refine rw_nm (fun x6 => ?_)
      refine rw_istore_n (lv' := [(2, .int x6), (3, .int x5), (0, .int a1), (1, .int a2), (4, .int x3), (5, .int x4)]) C dX9_isTour_58 rfl (by decide) rfl ?_
      refine rw_iinc (c := 1) (lv' := [(4, .int (x3 + 1)), (2, .int x6), (3, .int x5), (0, .int a1), (1, .int a2), (5, .int x4)]) C dX9_isTour_59 4 rfl (by decide) (by decide) rfl ?_
      refine rw_goto (tgt := 7) C dX9_isTour_62 (by decide) ?_
      exact rw_lv [3, 4, 1, 2, 0] rfl (hrec1 x6 x5 (x3 + 1))
    · refine rw_if_eq (tgt := 50) C dX9_isTour_23 (by decide) ?_ ?_
      · refine rw_iconst (c := 0) C dX9_isTour_50 ci_0 ?_
        exact rw_lv [1, 2, 3, 5, 0] rfl (hj1 0)
      · refine rw_iload_n C dX9_isTour_26 rfl 3 rfl ?_
        refine rw_iload C dX9_isTour_27 0 rfl ?_
        refine rw_callSPi (As := [.int x1, .int x4]) C hR dX9_isTour_29 cs_X9_287 (k_X9_isIn g.2.1 κ x1 x4 M) (by decide) (by decide) rfl (Nat.le_of_ble_eq_true rfl) rfl (fun x7 => ?_)
        refine rw_if_ne (tgt := 50) C dX9_isTour_32 (by decide) ?_ ?_
        · refine rw_iconst (c := 0) C dX9_isTour_50 ci_0 ?_
          exact rw_lv [1, 2, 3, 5, 0] rfl (hj1 0)
        · refine rw_iload C dX9_isTour_35 0 rfl ?_
          refine rw_iload_n C dX9_isTour_37 rfl 1 rfl ?_
          refine rw_iload_n C dX9_isTour_38 rfl 2 rfl ?_
          refine rw_iconst (c := 0) C dX9_isTour_39 ci_0 ?_
          refine rw_callSPi (As := [.int a1, .int a2, .int 0]) C hR dX9_isTour_40 cs_X9_313 (k_X9_digit g.2.1 κ a1 a2 0 M) (by decide) (by decide) rfl (Nat.le_of_ble_eq_true rfl) rfl (fun x8 => ?_)
          refine rw_icmp_lt (tgt := 50) C dX9_isTour_43 (by decide) ?_ ?_
          · refine rw_iconst (c := 0) C dX9_isTour_50 ci_0 ?_
            exact rw_lv [1, 2, 3, 5, 0] rfl (hj1 0)
          · refine rw_iconst (c := 1) C dX9_isTour_46 ci_1 ?_
            refine rw_goto (tgt := 51) C dX9_isTour_47 (by decide) ?_
            exact rw_lv [1, 2, 3, 5, 0] rfl (hj1 1)
def f_X9_findRound_L145 (x1 : Int32) (rec2 : Int32 → pv_M → Option (Unit × pv_M)) (x2 : Int32) (rec3 : Int32 → pv_M → Option (Unit × pv_M)) (x8 : Int32) (M9 : pv_M) : Option (Unit × pv_M) := (if x1 ≤ x8 then rec2 (x2 + 1) M9 else pv_cap (f_X9_digit x2 x1 x8 M9) (fun x9 => pv_stI pv_T 220 x8 x9 M9 (fun M10 => rec3 (x8 + 1) M10)))
def f_X9_findRound_L41 (x1 : Int32) (j1 : Int32 → Int32 → Option (Unit × pv_M)) (x2 : Int32) (M5 : pv_M) (rec4 : Int32 → Int32 → Int32 → Option (Unit × pv_M)) (x10 : Int32) (x11 : Int32) (x12 : Int32) : Option (Unit × pv_M) := (if x1 ≤ x12 then j1 x10 x11 else pv_cap (f_X9_digit x2 x1 x12 M5) (fun x13 => pv_ck (decide (¬ x1 = 0)) (pv_cap (f_X9_digit x2 x1 ((x12 + 1) - (x12 + 1) / x1 * x1) M5) (fun x14 => pv_nm (2 * ((4 * x13) + x14)) (fun x15 => pv_ldI pv_T 219 x15 M5 (fun x16 => pv_nm (x10 * x16) (fun x17 => pv_ldI pv_T 219 (x15 + 1) M5 (fun x18 => pv_nm (x11 * x18) (fun x19 => rec4 x17 x19 (x12 + 1))))))))))
def f_X9_findRound_J102 (x2 : Int32) (x1 : Int32) (M5 : pv_M) (rec2 : Int32 → pv_M → Option (Unit × pv_M)) (x3 : Int32) (x4 : Int32) : Option (Unit × pv_M) := pv_cap (f_X9_isTour x2 x1 M5) (fun x5 => (if x5 = 0 then rec2 (x2 + 1) M5 else pv_nm (M5.1 196 31) (fun x6 => pv_nm (M5.1 196 30) (fun x7 => (if (x3 * x6) ≤ (x7 * x4) then rec2 (x2 + 1) M5 else pv_nm (pv_u M5.1 196 29 x1, M5.2) (fun M6 => pv_nm (pv_u M6.1 196 30 x3, M6.2) (fun M7 => pv_nm (pv_u M7.1 196 31 x4, M7.2) (fun M8 => pv_lp2 (f_X9_findRound_L145 x1 rec2 x2) pv_FU 0 M8))))))))
def f_X9_findRound_L24 (x1 : Int32) (rec1 : Int32 → pv_M → Option (Unit × pv_M)) (rec2 : Int32 → pv_M → Option (Unit × pv_M)) (x2 : Int32) (M5 : pv_M) : Option (Unit × pv_M) := (if (1 <<< ((2 * x1) &&& 31)) ≤ x2 then rec1 (x1 + 1) M5 else pv_jn (f_X9_findRound_J102 x2 x1 M5 rec2) (fun j1 => pv_lp3 (f_X9_findRound_L41 x1 j1 x2 M5) pv_FU 1 1 0))
def f_X9_findRound_L17 (rec1 : Int32 → pv_M → Option (Unit × pv_M)) (x1 : Int32) (M4 : pv_M) : Option (Unit × pv_M) := (if 5 ≤ x1 then some ((), M4) else pv_lp2 (f_X9_findRound_L24 x1 rec1) pv_FU 0 M4)
def f_X9_findRound (M : pv_M) : Option (Unit × pv_M) := pv_nm (pv_u M.1 196 29 0, M.2) (fun M1 => pv_nm (pv_u M1.1 196 30 1, M1.2) (fun M2 => pv_nm (pv_u M2.1 196 31 1, M2.2) (fun M3 => pv_lp2 f_X9_findRound_L17 pv_FU 2 M3)))
set_option maxHeartbeats 4000000 in
set_option maxRecDepth 100000 in
theorem k_X9_findRound (l : Launch) (κ : pv_K) (M : pv_M) : pv_Mt l yX9_findRound cX9_findRound 7 none 2 κ [.ref (κ.1 + 196)] M pv_ju (f_X9_findRound M) := by
  refine pv_enter (by decide +kernel) (Nat.le_of_ble_eq_true rfl) (fun g hl hR C => ?_)
  have C : pv_Ok g κ 7 cX9_findRound RX9 none := C
  show pv_R g κ pv_T pv_RF 7 0 0 (pv_QF g κ pv_ju) 0 [(0, .ref (κ.1 + 196))] [] M (f_X9_findRound M)
  unfold f_X9_findRound
  refine rw_aload_n C dX9_findRound_0 rfl 0 rfl ?_
  refine rw_iconst (c := 0) C dX9_findRound_1 ci_0 ?_
  refine rw_put (k0 := 196) C dX9_findRound_2 fl_X9_316 ff_X9_29 rfl rfl rfl (by decide) sh_196 (by decide) (fun M1 => ?_)
  refine rw_aload_n C dX9_findRound_5 rfl 0 rfl ?_
  refine rw_iconst (c := 1) C dX9_findRound_6 ci_1 ?_
  refine rw_put (k0 := 196) C dX9_findRound_7 fl_X9_319 ff_X9_30 rfl rfl rfl (by decide) sh_196 (by decide) (fun M2 => ?_)
  refine rw_aload_n C dX9_findRound_10 rfl 0 rfl ?_
  refine rw_iconst (c := 1) C dX9_findRound_11 ci_1 ?_
  refine rw_put (k0 := 196) C dX9_findRound_12 fl_X9_322 ff_X9_31 rfl rfl rfl (by decide) sh_196 (by decide) (fun M3 => ?_)
  refine rw_iconst (c := 2) C dX9_findRound_15 ci_2 ?_
  refine rw_istore_n (lv' := [(1, .int 2), (0, .ref (κ.1 + 196))]) C dX9_findRound_16 rfl (by decide) rfl ?_
  refine rw_lv (lv' := [(0, .ref (κ.1 + 196)), (1, .int 2)]) [1, 0] rfl ?_
  refine pv_lp2_ind (fun x1 M4 xx => pv_R g κ pv_T pv_RF 7 0 0 (pv_QF g κ pv_ju) 17 [(0, .ref (κ.1 + 196)), (1, .int x1)] [] M4 xx) (fun _ _ => rw_none) (fun rec1 hrec1 x1 M4 => ?_) _ _ _
  unfold f_X9_findRound_L17
  refine rw_iload_n C dX9_findRound_17 rfl 1 rfl ?_
  refine rw_iconst (c := 5) C dX9_findRound_18 ci_5 ?_
  refine rw_icmp_ge (tgt := 183) C dX9_findRound_19 (by decide) ?_ ?_
  · exact rw_vret C dX9_findRound_183
  · refine rw_iconst (c := 0) C dX9_findRound_22 ci_0 ?_
    refine rw_istore_n (lv' := [(2, .int 0), (0, .ref (κ.1 + 196)), (1, .int x1)]) C dX9_findRound_23 rfl (by decide) rfl ?_
    refine rw_lv (lv' := [(0, .ref (κ.1 + 196)), (1, .int x1), (2, .int 0)]) [1, 2, 0] rfl ?_
    refine pv_lp2_ind (fun x2 M5 xx => pv_R g κ pv_T pv_RF 7 0 0 (pv_QF g κ pv_ju) 24 [(0, .ref (κ.1 + 196)), (1, .int x1), (2, .int x2)] [] M5 xx) (fun _ _ => rw_none) (fun rec2 hrec2 x2 M5 => ?_) _ _ _
    unfold f_X9_findRound_L24
    refine rw_iload_n C dX9_findRound_24 rfl 2 rfl ?_
    refine rw_iconst (c := 1) C dX9_findRound_25 ci_1 ?_
    refine rw_iconst (c := 2) C dX9_findRound_26 ci_2 ?_
    refine rw_iload_n C dX9_findRound_27 rfl 1 rfl ?_
    refine rw_imul C dX9_findRound_28 ?_
    refine rw_ishl C dX9_findRound_29 ?_
    refine rw_icmp_ge (tgt := 177) C dX9_findRound_30 (by decide) ?_ ?_
    · refine rw_iinc (c := 1) (lv' := [(1, .int (x1 + 1)), (0, .ref (κ.1 + 196)), (2, .int x2)]) C dX9_findRound_177 1 rfl (by decide) (by decide) rfl ?_
      refine rw_goto (tgt := 17) C dX9_findRound_180 (by decide) ?_
      exact rw_lv [1, 0] rfl (hrec1 (x1 + 1) M5)
    · refine rw_iconst (c := 1) C dX9_findRound_33 ci_1 ?_
      refine rw_istore_n (lv' := [(3, .int 1), (0, .ref (κ.1 + 196)), (1, .int x1), (2, .int x2)]) C dX9_findRound_34 rfl (by decide) rfl ?_
      refine rw_iconst (c := 1) C dX9_findRound_35 ci_1 ?_
      refine rw_istore (lv' := [(4, .int 1), (3, .int 1), (0, .ref (κ.1 + 196)), (1, .int x1), (2, .int x2)]) C dX9_findRound_36 (by decide) rfl ?_
      refine rw_iconst (c := 0) C dX9_findRound_38 ci_0 ?_
      refine rw_istore (lv' := [(5, .int 0), (4, .int 1), (3, .int 1), (0, .ref (κ.1 + 196)), (1, .int x1), (2, .int x2)]) C dX9_findRound_39 (by decide) rfl ?_
      refine rw_jn (fun j1 => ∀ (x3 : Int32) (x4 : Int32), pv_R g κ pv_T pv_RF 7 0 0 (pv_QF g κ pv_ju) 102 [(0, .ref (κ.1 + 196)), (1, .int x1), (2, .int x2), (3, .int x3), (4, .int x4)] [] M5 (j1 x3 x4)) (fun x3 x4 => ?_) (fun j1 hj1 => ?_)
      · unfold f_X9_findRound_J102
        refine rw_iload_n C dX9_findRound_102 rfl 2 rfl ?_
        refine rw_iload_n C dX9_findRound_103 rfl 1 rfl ?_
        refine rw_callSPi (As := [.int x2, .int x1]) C hR dX9_findRound_104 cs_X9_325 (k_X9_isTour g.2.1 κ x2 x1 M5) (by decide) (by decide) rfl (Nat.le_of_ble_eq_true rfl) rfl (fun x5 => ?_)
        refine rw_if_eq (tgt := 171) C dX9_findRound_107 (by decide) ?_ ?_
        · refine rw_iinc (c := 1) (lv' := [(2, .int (x2 + 1)), (0, .ref (κ.1 + 196)), (1, .int x1), (3, .int x3), (4, .int x4)]) C dX9_findRound_171 2 rfl (by decide) (by decide) rfl ?_
          refine rw_goto (tgt := 24) C dX9_findRound_174 (by decide) ?_
          exact rw_lv [1, 2, 0] rfl (hrec2 (x2 + 1) M5)
        · refine rw_iload_n C dX9_findRound_110 rfl 3 rfl ?_
          refine rw_aload_n C dX9_findRound_111 rfl 0 rfl ?_
          refine rw_getI (k0 := 196) C dX9_findRound_112 fl_X9_322 rfl (by decide) sh_196 (by decide) (fun x6 => ?_)
          refine rw_imul C dX9_findRound_115 ?_
          refine rw_aload_n C dX9_findRound_116 rfl 0 rfl ?_
          refine rw_getI (k0 := 196) C dX9_findRound_117 fl_X9_319 rfl (by decide) sh_196 (by decide) (fun x7 => ?_)
          refine rw_iload C dX9_findRound_120 4 rfl ?_
          refine rw_imul C dX9_findRound_122 ?_
          refine rw_icmp_le (tgt := 171) C dX9_findRound_123 (by decide) ?_ ?_
          · refine rw_iinc (c := 1) (lv' := [(2, .int (x2 + 1)), (0, .ref (κ.1 + 196)), (1, .int x1), (3, .int x3), (4, .int x4)]) C dX9_findRound_171 2 rfl (by decide) (by decide) rfl ?_
            refine rw_goto (tgt := 24) C dX9_findRound_174 (by decide) ?_
            exact rw_lv [1, 2, 0] rfl (hrec2 (x2 + 1) M5)
          · refine rw_aload_n C dX9_findRound_126 rfl 0 rfl ?_
            refine rw_iload_n C dX9_findRound_127 rfl 1 rfl ?_
            refine rw_put (k0 := 196) C dX9_findRound_128 fl_X9_316 ff_X9_29 rfl rfl rfl (by decide) sh_196 (by decide) (fun M6 => ?_)
            refine rw_aload_n C dX9_findRound_131 rfl 0 rfl ?_
            refine rw_iload_n C dX9_findRound_132 rfl 3 rfl ?_
            refine rw_put (k0 := 196) C dX9_findRound_133 fl_X9_319 ff_X9_30 rfl rfl rfl (by decide) sh_196 (by decide) (fun M7 => ?_)
            refine rw_aload_n C dX9_findRound_136 rfl 0 rfl ?_
            refine rw_iload C dX9_findRound_137 4 rfl ?_
            refine rw_put (k0 := 196) C dX9_findRound_139 fl_X9_322 ff_X9_31 rfl rfl rfl (by decide) sh_196 (by decide) (fun M8 => ?_)
            refine rw_iconst (c := 0) C dX9_findRound_142 ci_0 ?_
            refine rw_istore (lv' := [(5, .int 0), (0, .ref (κ.1 + 196)), (1, .int x1), (2, .int x2), (3, .int x3), (4, .int x4)]) C dX9_findRound_143 (by decide) rfl ?_
            refine rw_lv (lv' := [(0, .ref (κ.1 + 196)), (1, .int x1), (2, .int x2), (5, .int 0)]) [1, 2, 3, 0] rfl ?_
            refine pv_lp2_ind (fun x8 M9 xx => pv_R g κ pv_T pv_RF 7 0 0 (pv_QF g κ pv_ju) 145 [(0, .ref (κ.1 + 196)), (1, .int x1), (2, .int x2), (5, .int x8)] [] M9 xx) (fun _ _ => rw_none) (fun rec3 hrec3 x8 M9 => ?_) _ _ _
            unfold f_X9_findRound_L145
            refine rw_iload C dX9_findRound_145 3 rfl ?_
            refine rw_iload_n C dX9_findRound_147 rfl 1 rfl ?_
            refine rw_icmp_ge (tgt := 171) C dX9_findRound_148 (by decide) ?_ ?_
            · refine rw_iinc (c := 1) (lv' := [(2, .int (x2 + 1)), (0, .ref (κ.1 + 196)), (1, .int x1), (5, .int x8)]) C dX9_findRound_171 2 rfl (by decide) (by decide) rfl ?_
              refine rw_goto (tgt := 24) C dX9_findRound_174 (by decide) ?_
              exact rw_lv [1, 2, 0] rfl (hrec2 (x2 + 1) M9)
            · refine rw_aload_n C dX9_findRound_151 rfl 0 rfl ?_
              refine rw_getR (k0 := 196) (k1 := 220) C dX9_findRound_152 fl_X9_80 rfl (by decide) sh_196 (by decide) rfl ?_
              refine rw_iload C dX9_findRound_155 3 rfl ?_
              refine rw_iload_n C dX9_findRound_157 rfl 2 rfl ?_
              refine rw_iload_n C dX9_findRound_158 rfl 1 rfl ?_
              refine rw_iload C dX9_findRound_159 3 rfl ?_
              refine rw_callSPi (As := [.int x2, .int x1, .int x8]) C hR dX9_findRound_161 cs_X9_313 (k_X9_digit g.2.1 κ x2 x1 x8 M9) (by decide) (by decide) rfl (Nat.le_of_ble_eq_true rfl) rfl (fun x9 => ?_)
              refine rw_stI C dX9_findRound_164 (fun M10 => ?_)
              refine rw_iinc (c := 1) (lv' := [(5, .int (x8 + 1)), (0, .ref (κ.1 + 196)), (1, .int x1), (2, .int x2)]) C dX9_findRound_165 3 rfl (by decide) (by decide) rfl ?_
              refine rw_goto (tgt := 145) C dX9_findRound_168 (by decide) ?_
              exact rw_lv [1, 2, 3, 0] rfl (hrec3 (x8 + 1) M10)
      · refine rw_lv (lv' := [(0, .ref (κ.1 + 196)), (1, .int x1), (2, .int x2), (3, .int 1), (4, .int 1), (5, .int 0)]) [3, 4, 5, 2, 1, 0] rfl ?_
        refine pv_lp3_ind (fun x10 x11 x12 xx => pv_R g κ pv_T pv_RF 7 0 0 (pv_QF g κ pv_ju) 41 [(0, .ref (κ.1 + 196)), (1, .int x1), (2, .int x2), (3, .int x10), (4, .int x11), (5, .int x12)] [] M5 xx) (fun _ _ _ => rw_none) (fun rec4 hrec4 x10 x11 x12 => ?_) _ _ _ _
        unfold f_X9_findRound_L41
        refine rw_iload C dX9_findRound_41 5 rfl ?_
        refine rw_iload_n C dX9_findRound_43 rfl 1 rfl ?_
        refine rw_icmp_ge (tgt := 102) C dX9_findRound_44 (by decide) ?_ ?_
        · exact rw_lv [0, 1, 2, 3, 4] rfl (hj1 x10 x11)
        · refine rw_iconst (c := 2) C dX9_findRound_47 ci_2 ?_
          refine rw_iconst (c := 4) C dX9_findRound_48 ci_4 ?_
          refine rw_iload_n C dX9_findRound_49 rfl 2 rfl ?_
          refine rw_iload_n C dX9_findRound_50 rfl 1 rfl ?_
          refine rw_iload C dX9_findRound_51 5 rfl ?_
          refine rw_callSPi (As := [.int x2, .int x1, .int x12]) C hR dX9_findRound_53 cs_X9_313 (k_X9_digit g.2.1 κ x2 x1 x12 M5) (by decide) (by decide) rfl (Nat.le_of_ble_eq_true rfl) rfl (fun x13 => ?_)
          refine rw_imul C dX9_findRound_56 ?_
          refine rw_iload_n C dX9_findRound_57 rfl 2 rfl ?_
          refine rw_iload_n C dX9_findRound_58 rfl 1 rfl ?_
          refine rw_iload C dX9_findRound_59 5 rfl ?_
          refine rw_iconst (c := 1) C dX9_findRound_61 ci_1 ?_
          refine rw_iadd C dX9_findRound_62 ?_
          refine rw_iload_n C dX9_findRound_63 rfl 1 rfl ?_
          refine rw_ck (fun hb1 => ?_)
          refine rw_irem C dX9_findRound_64 (of_decide_eq_true hb1) ?_
          refine rw_callSPi (As := [.int x2, .int x1, .int ((x12 + 1) - (x12 + 1) / x1 * x1)]) C hR dX9_findRound_65 cs_X9_313 (k_X9_digit g.2.1 κ x2 x1 ((x12 + 1) - (x12 + 1) / x1 * x1) M5) (by decide) (by decide) rfl (Nat.le_of_ble_eq_true rfl) rfl (fun x14 => ?_)
          refine rw_iadd C dX9_findRound_68 ?_
          refine rw_imul C dX9_findRound_69 ?_
          refine rw_nm (fun x15 => ?_)
          refine rw_istore (lv' := [(6, .int x15), (0, .ref (κ.1 + 196)), (1, .int x1), (2, .int x2), (3, .int x10), (4, .int x11), (5, .int x12)]) C dX9_findRound_70 (by decide) rfl ?_
          refine rw_iload_n C dX9_findRound_72 rfl 4 rfl ?_
          refine rw_aload_n C dX9_findRound_73 rfl 1 rfl ?_
          refine rw_getR (k0 := 196) (k1 := 219) C dX9_findRound_74 fl_X9_77 rfl (by decide) sh_196 (by decide) rfl ?_
          refine rw_iload C dX9_findRound_77 0 rfl ?_
          refine rw_ldI C dX9_findRound_79 (fun x16 => ?_)
          refine rw_imul C dX9_findRound_80 ?_
          refine rw_nm (fun x17 => ?_)
          refine rw_istore_n (lv' := [(3, .int x17), (6, .int x15), (0, .ref (κ.1 + 196)), (1, .int x1), (2, .int x2), (4, .int x11), (5, .int x12)]) C dX9_findRound_81 rfl (by decide) rfl ?_
          refine rw_iload C dX9_findRound_82 5 rfl ?_
          refine rw_aload_n C dX9_findRound_84 rfl 2 rfl ?_
          refine rw_getR (k0 := 196) (k1 := 219) C dX9_findRound_85 fl_X9_77 rfl (by decide) sh_196 (by decide) rfl ?_
          refine rw_iload C dX9_findRound_88 1 rfl ?_
          refine rw_iconst (c := 1) C dX9_findRound_90 ci_1 ?_
          refine rw_iadd C dX9_findRound_91 ?_
          refine rw_ldI C dX9_findRound_92 (fun x18 => ?_)
          refine rw_imul C dX9_findRound_93 ?_
          refine rw_nm (fun x19 => ?_)
          refine rw_istore (lv' := [(4, .int x19), (3, .int x17), (6, .int x15), (0, .ref (κ.1 + 196)), (1, .int x1), (2, .int x2), (5, .int x12)]) C dX9_findRound_94 (by decide) rfl ?_
          refine rw_iinc (c := 1) (lv' := [(5, .int (x12 + 1)), (4, .int x19), (3, .int x17), (6, .int x15), (0, .ref (κ.1 + 196)), (1, .int x1), (2, .int x2)]) C dX9_findRound_96 6 rfl (by decide) (by decide) rfl ?_
          refine rw_goto (tgt := 41) C dX9_findRound_99 (by decide) ?_
          exact rw_lv [4, 5, 6, 2, 1, 0] rfl (hrec4 x17 x19 (x12 + 1))
def f_X9_tellsRound (a1 : Int32) (M : pv_M) : Option Int32 := pv_nm (M.1 196 30) (fun x1 => pv_nm (M.1 196 31) (fun x2 => pv_cap (f_X9_common x1.toInt64 x2.toInt64 M) (fun x3 => pv_nm x3.toInt32 (fun x4 => (if a1 = ((-2)) then pv_nm (M.1 196 30) (fun x8 => pv_ck (decide (¬ x4 = 0)) (some (x8 / x4))) else (if a1 = ((-1)) then pv_nm (M.1 196 31) (fun x7 => pv_ck (decide (¬ x4 = 0)) (some (x7 / x4))) else pv_nm (M.1 196 29) (fun x5 => (if x5 ≤ a1 then some ((-1)) else pv_ldI pv_T 220 a1 M (fun x6 => some x6)))))))))
set_option maxHeartbeats 4000000 in
set_option maxRecDepth 100000 in
theorem k_X9_tellsRound (l : Launch) (κ : pv_K) (a1 : Int32) (M : pv_M) : pv_MtP l yX9_tellsRound cX9_tellsRound 3 (some .int) 1 κ [.ref (κ.1 + 196), .int a1] M pv_ji (f_X9_tellsRound a1 M) := by
  refine pv_enterP (by decide +kernel) (Nat.le_of_ble_eq_true rfl) (fun g hl hR C => ?_)
  have C : pv_Ok g κ 3 cX9_tellsRound RX9 (some .int) := C
  show pv_R g κ pv_T pv_RF 3 0 0 (pv_QP g κ pv_ji M) 0 [(0, .ref (κ.1 + 196)), (1, .int a1)] [] M (f_X9_tellsRound a1 M)
  unfold f_X9_tellsRound
  refine rw_aload_n C dX9_tellsRound_0 rfl 0 rfl ?_
  refine rw_getI (k0 := 196) C dX9_tellsRound_1 fl_X9_319 rfl (by decide) sh_196 (by decide) (fun x1 => ?_)
  refine rw_i2l C dX9_tellsRound_4 ?_
  refine rw_aload_n C dX9_tellsRound_5 rfl 0 rfl ?_
  refine rw_getI (k0 := 196) C dX9_tellsRound_6 fl_X9_322 rfl (by decide) sh_196 (by decide) (fun x2 => ?_)
  refine rw_i2l C dX9_tellsRound_9 ?_
  refine rw_callSPl (As := [.long (x1.toInt64), .long (x2.toInt64)]) C hR dX9_tellsRound_10 cs_X9_280 (k_X9_common g.2.1 κ x1.toInt64 x2.toInt64 M) (by decide) (by decide) rfl (Nat.le_of_ble_eq_true rfl) rfl (fun x3 => ?_)
  refine rw_l2i C dX9_tellsRound_13 ?_
  refine rw_nm (fun x4 => ?_)
  refine rw_istore_n (lv' := [(2, .int x4), (0, .ref (κ.1 + 196)), (1, .int a1)]) C dX9_tellsRound_14 rfl (by decide) rfl ?_
  refine rw_iload_n C dX9_tellsRound_15 rfl 2 rfl ?_
  refine rw_bipush (c := (-2)) C dX9_tellsRound_16 (by decide) ?_
  refine rw_icmp_ne (tgt := 30) C dX9_tellsRound_18 (by decide) ?_ ?_
  · refine rw_iload_n C dX9_tellsRound_30 rfl 2 rfl ?_
    refine rw_iconst (c := (-1)) C dX9_tellsRound_31 ci_m1 ?_
    refine rw_icmp_ne (tgt := 44) C dX9_tellsRound_32 (by decide) ?_ ?_
    · refine rw_iload_n C dX9_tellsRound_44 rfl 2 rfl ?_
      refine rw_aload_n C dX9_tellsRound_45 rfl 1 rfl ?_
      refine rw_getI (k0 := 196) C dX9_tellsRound_46 fl_X9_316 rfl (by decide) sh_196 (by decide) (fun x5 => ?_)
      refine rw_icmp_ge (tgt := 61) C dX9_tellsRound_49 (by decide) ?_ ?_
      · refine rw_iconst (c := (-1)) C dX9_tellsRound_61 ci_m1 ?_
        exact rw_iretP C dX9_tellsRound_62
      · refine rw_aload_n C dX9_tellsRound_52 rfl 1 rfl ?_
        refine rw_getR (k0 := 196) (k1 := 220) C dX9_tellsRound_53 fl_X9_80 rfl (by decide) sh_196 (by decide) rfl ?_
        refine rw_iload_n C dX9_tellsRound_56 rfl 2 rfl ?_
        refine rw_ldI C dX9_tellsRound_57 (fun x6 => ?_)
        refine rw_goto (tgt := 62) C dX9_tellsRound_58 (by decide) ?_
        exact rw_iretP C dX9_tellsRound_62
    · refine rw_aload_n C dX9_tellsRound_35 rfl 1 rfl ?_
      refine rw_getI (k0 := 196) C dX9_tellsRound_36 fl_X9_322 rfl (by decide) sh_196 (by decide) (fun x7 => ?_)
      refine rw_iload_n C dX9_tellsRound_39 rfl 0 rfl ?_
      refine rw_ck (fun hb1 => ?_)
      refine rw_idiv C dX9_tellsRound_40 (of_decide_eq_true hb1) ?_
      refine rw_goto (tgt := 62) C dX9_tellsRound_41 (by decide) ?_
      exact rw_iretP C dX9_tellsRound_62
  · refine rw_aload_n C dX9_tellsRound_21 rfl 1 rfl ?_
    refine rw_getI (k0 := 196) C dX9_tellsRound_22 fl_X9_319 rfl (by decide) sh_196 (by decide) (fun x8 => ?_)
    refine rw_iload_n C dX9_tellsRound_25 rfl 0 rfl ?_
    refine rw_ck (fun hb2 => ?_)
    refine rw_idiv C dX9_tellsRound_26 (of_decide_eq_true hb2) ?_
    refine rw_goto (tgt := 62) C dX9_tellsRound_27 (by decide) ?_
    exact rw_iretP C dX9_tellsRound_62
def f_X9_round (a1 : Int32) (M : pv_M) : Option (Int32 × pv_M) := pv_cap (f_X9_in a1.toInt64 ((-2)) 3 M) (fun x1 => (if x1 = 0 then some ((-2), M) else pv_cal (f_X9_findRound M) (fun u1 M1 => pv_cap (f_X9_tellsRound a1 M1) (fun x2 => some (x2, M1)))))
set_option maxHeartbeats 4000000 in
set_option maxRecDepth 100000 in
theorem k_X9_round (l : Launch) (κ : pv_K) (a1 : Int32) (M : pv_M) : pv_Mt l yX9_round cX9_round 2 (some .int) 3 κ [.ref (κ.1 + 196), .int a1] M pv_ji (f_X9_round a1 M) := by
  refine pv_enter (by decide +kernel) (Nat.le_of_ble_eq_true rfl) (fun g hl hR C => ?_)
  have C : pv_Ok g κ 2 cX9_round RX9 (some .int) := C
  show pv_R g κ pv_T pv_RF 2 0 0 (pv_QF g κ pv_ji) 0 [(0, .ref (κ.1 + 196)), (1, .int a1)] [] M (f_X9_round a1 M)
  unfold f_X9_round
  refine rw_iload_n C dX9_round_0 rfl 1 rfl ?_
  refine rw_i2l C dX9_round_1 ?_
  refine rw_ldc2_w (c := (-2)) C dX9_round_2 mw_938 ?_
  refine rw_ldc2_w (c := 3) C dX9_round_5 mw_446 ?_
  refine rw_callSPi (As := [.long (a1.toInt64), .long (-2), .long 3]) C hR dX9_round_8 cs_X9_88 (k_X9_in g.2.1 κ a1.toInt64 ((-2)) 3 M) (by decide) (by decide) rfl (Nat.le_of_ble_eq_true rfl) rfl (fun x1 => ?_)
  refine rw_if_ne (tgt := 17) C dX9_round_11 (by decide) ?_ ?_
  · refine rw_aload_n C dX9_round_17 rfl 0 rfl ?_
    refine rw_callVu (As := []) (k0 := 196) C hR dX9_round_18 cv_X9_330 (k_X9_findRound g.2.1 κ M) (by decide) (by decide) (by decide) sh_196 rfl rfl (Nat.le_of_ble_eq_true rfl) rfl (fun u1 M1 => ?_)
    refine rw_aload_n C dX9_round_21 rfl 0 rfl ?_
    refine rw_iload_n C dX9_round_22 rfl 1 rfl ?_
    refine rw_callVPi (As := [.int a1]) (k0 := 196) C hR dX9_round_23 cv_X9_333 (k_X9_tellsRound g.2.1 κ a1 M1) (by decide) (by decide) (by decide) sh_196 rfl rfl (Nat.le_of_ble_eq_true rfl) rfl (fun x2 => ?_)
    exact rw_iret C dX9_round_26
  · refine rw_bipush (c := (-2)) C dX9_round_14 (by decide) ?_
    exact rw_iret C dX9_round_16
