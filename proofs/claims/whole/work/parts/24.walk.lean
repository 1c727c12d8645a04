def f_X8_worth (a1 : Int32) (a2 : Int32) (a3 : Int32) (M : pv_M) : Option (Int64 × pv_M) := pv_cap (f_X7_isKind a1 M) (fun x1 => (if x1 = 0 then some ((-9223372036854775806), M) else pv_cap (f_X7_isKind a2 M) (fun x2 => (if x2 = 0 then some ((-9223372036854775806), M) else (if a1 = a2 then some ((-9223372036854775806), M) else pv_cap (f_X8_isWithin a3 0 1 M) (fun x3 => (if x3 = 0 then some ((-9223372036854775806), M) else pv_cal (f_X7_firstClash 5 M) (fun x4 M1 => pv_cap (f_X7_isTold a1 a2 M1) (fun x5 => (if x5 = 0 then some ((-9223372036854775805), M1) else (if a3 = 0 then pv_cap (f_X7_aboveOf a1 a2 M1) (fun x7 => some (x7, M1)) else pv_cap (f_X7_aboveOf a2 a1 M1) (fun x6 => some (x6, M1)))))))))))))
set_option maxHeartbeats 4000000 in
set_option maxRecDepth 100000 in
theorem k_X8_worth (l : Launch) (κ : pv_K) (a1 : Int32) (a2 : Int32) (a3 : Int32) (M : pv_M) : pv_Mt l yX8_worth cX8_worth 4 (some .long) 4 κ [.ref (κ.1 + 0), .int a1, .int a2, .int a3] M pv_jl (f_X8_worth a1 a2 a3 M) := by
  refine pv_enter (by decide +kernel) (Nat.le_of_ble_eq_true rfl) (fun g hl hR C => ?_)
  have C : pv_Ok g κ 4 cX8_worth RX8 (some .long) := C
  show pv_R g κ pv_T pv_RF 4 0 0 (pv_QF g κ pv_jl) 0 [(0, .ref (κ.1 + 0)), (1, .int a1), (2, .int a2), (3, .int a3)] [] M (f_X8_worth a1 a2 a3 M)
  unfold f_X8_worth
  refine rw_iload_n C dX8_worth_0 rfl 1 rfl ?_
  refine rw_callSPi (As := [.int a1]) C hR dX8_worth_1 cs_X8_236 (k_X7_isKind g.2.1 κ a1 M) (by decide) (by decide) rfl (Nat.le_of_ble_eq_true rfl) rfl (fun x1 => ?_)
  refine rw_if_eq (tgt := 19) C dX8_worth_4 (by decide) ?_ ?_
  · refine rw_ldc2_w (c := (-9223372036854775806)) C dX8_worth_19 mw_791 ?_
    exact rw_lret C dX8_worth_22
  · refine rw_iload_n C dX8_worth_7 rfl 2 rfl ?_
    refine rw_callSPi (As := [.int a2]) C hR dX8_worth_8 cs_X8_236 (k_X7_isKind g.2.1 κ a2 M) (by decide) (by decide) rfl (Nat.le_of_ble_eq_true rfl) rfl (fun x2 => ?_)
    refine rw_if_eq (tgt := 19) C dX8_worth_11 (by decide) ?_ ?_
    · refine rw_ldc2_w (c := (-9223372036854775806)) C dX8_worth_19 mw_791 ?_
      exact rw_lret C dX8_worth_22
    · refine rw_iload_n C dX8_worth_14 rfl 1 rfl ?_
      refine rw_iload_n C dX8_worth_15 rfl 2 rfl ?_
      refine rw_icmp_ne (tgt := 23) C dX8_worth_16 (by decide) ?_ ?_
      · refine rw_iload_n C dX8_worth_23 rfl 3 rfl ?_
        refine rw_iconst (c := 0) C dX8_worth_24 ci_0 ?_
        refine rw_iconst (c := 1) C dX8_worth_25 ci_1 ?_
        refine rw_callSPi (As := [.int a3, .int 0, .int 1]) C hR dX8_worth_26 cs_X8_120 (k_X8_isWithin g.2.1 κ a3 0 1 M) (by decide) (by decide) rfl (Nat.le_of_ble_eq_true rfl) rfl (fun x3 => ?_)
        refine rw_if_ne (tgt := 36) C dX8_worth_29 (by decide) ?_ ?_
        · refine rw_aload_n C dX8_worth_36 rfl 0 rfl ?_
          refine rw_getR (k0 := 0) (k1 := 179) C dX8_worth_37 fl_X8_78 rfl (by decide) sh_0 (by decide) rfl ?_
          refine rw_aload_n C dX8_worth_40 rfl 0 rfl ?_
          refine rw_getR (k0 := 0) (k1 := 5) C dX8_worth_41 fl_X8_23 rfl (by decide) sh_0 (by decide) rfl ?_
          refine rw_callVi (As := [.ref (κ.1 + 5)]) (k0 := 179) C hR dX8_worth_44 cv_X8_241 (k_X7_firstClash g.2.1 κ 5 M) (by decide) (by decide) (by decide) sh_179 rfl rfl (Nat.le_of_ble_eq_true rfl) rfl (fun x4 M1 => ?_)
          refine rw_pop C dX8_worth_47 rfl ?_
          refine rw_aload_n C dX8_worth_48 rfl 0 rfl ?_
          refine rw_getR (k0 := 0) (k1 := 179) C dX8_worth_49 fl_X8_78 rfl (by decide) sh_0 (by decide) rfl ?_
          refine rw_iload_n C dX8_worth_52 rfl 1 rfl ?_
          refine rw_iload_n C dX8_worth_53 rfl 2 rfl ?_
          refine rw_callVPi (As := [.int a1, .int a2]) (k0 := 179) C hR dX8_worth_54 cv_X8_245 (k_X7_isTold g.2.1 κ a1 a2 M1) (by decide) (by decide) (by decide) sh_179 rfl rfl (Nat.le_of_ble_eq_true rfl) rfl (fun x5 => ?_)
          refine rw_if_ne (tgt := 64) C dX8_worth_57 (by decide) ?_ ?_
          · refine rw_iload_n C dX8_worth_64 rfl 3 rfl ?_
            refine rw_if_ne (tgt := 80) C dX8_worth_65 (by decide) ?_ ?_
            · refine rw_aload_n C dX8_worth_80 rfl 0 rfl ?_
              refine rw_getR (k0 := 0) (k1 := 179) C dX8_worth_81 fl_X8_78 rfl (by decide) sh_0 (by decide) rfl ?_
              refine rw_iload_n C dX8_worth_84 rfl 2 rfl ?_
              refine rw_iload_n C dX8_worth_85 rfl 1 rfl ?_
              refine rw_callVPl (As := [.int a2, .int a1]) (k0 := 179) C hR dX8_worth_86 cv_X8_250 (k_X7_aboveOf g.2.1 κ a2 a1 M1) (by decide) (by decide) (by decide) sh_179 rfl rfl (Nat.le_of_ble_eq_true rfl) rfl (fun x6 => ?_)
              exact rw_lret C dX8_worth_89
            · refine rw_aload_n C dX8_worth_68 rfl 0 rfl ?_
              refine rw_getR (k0 := 0) (k1 := 179) C dX8_worth_69 fl_X8_78 rfl (by decide) sh_0 (by decide) rfl ?_
              refine rw_iload_n C dX8_worth_72 rfl 1 rfl ?_
              refine rw_iload_n C dX8_worth_73 rfl 2 rfl ?_
              refine rw_callVPl (As := [.int a1, .int a2]) (k0 := 179) C hR dX8_worth_74 cv_X8_250 (k_X7_aboveOf g.2.1 κ a1 a2 M1) (by decide) (by decide) (by decide) sh_179 rfl rfl (Nat.le_of_ble_eq_true rfl) rfl (fun x7 => ?_)
              refine rw_goto (tgt := 89) C dX8_worth_77 (by decide) ?_
              exact rw_lret C dX8_worth_89
          · refine rw_ldc2_w (c := (-9223372036854775805)) C dX8_worth_60 mw_792 ?_
            exact rw_lret C dX8_worth_63
        · refine rw_ldc2_w (c := (-9223372036854775806)) C dX8_worth_32 mw_791 ?_
          exact rw_lret C dX8_worth_35
      · refine rw_ldc2_w (c := (-9223372036854775806)) C dX8_worth_19 mw_791 ?_
        exact rw_lret C dX8_worth_22
def f_X8_clash (M : pv_M) : Option (Int32 × pv_M) := pv_cal (f_X7_firstClash 5 M) (fun x1 M1 => some (x1, M1))
set_option maxHeartbeats 4000000 in
set_option maxRecDepth 100000 in
theorem k_X8_clash (l : Launch) (κ : pv_K) (M : pv_M) : pv_Mt l yX8_clash cX8_clash 1 (some .int) 4 κ [.ref (κ.1 + 0)] M pv_ji (f_X8_clash M) := by
  refine pv_enter (by decide +kernel) (Nat.le_of_ble_eq_true rfl) (fun g hl hR C => ?_)
  have C : pv_Ok g κ 1 cX8_clash RX8 (some .int) := C
  show pv_R g κ pv_T pv_RF 1 0 0 (pv_QF g κ pv_ji) 0 [(0, .ref (κ.1 + 0))] [] M (f_X8_clash M)
  unfold f_X8_clash
  refine rw_aload_n C dX8_clash_0 rfl 0 rfl ?_
  refine rw_getR (k0 := 0) (k1 := 179) C dX8_clash_1 fl_X8_78 rfl (by decide) sh_0 (by decide) rfl ?_
  refine rw_aload_n C dX8_clash_4 rfl 0 rfl ?_
  refine rw_getR (k0 := 0) (k1 := 5) C dX8_clash_5 fl_X8_23 rfl (by decide) sh_0 (by decide) rfl ?_
  refine rw_callVi (As := [.ref (κ.1 + 5)]) (k0 := 179) C hR dX8_clash_8 cv_X8_241 (k_X7_firstClash g.2.1 κ 5 M) (by decide) (by decide) (by decide) sh_179 rfl rfl (Nat.le_of_ble_eq_true rfl) rfl (fun x1 M1 => ?_)
  exact rw_iret C dX8_clash_11
def f_X8_drop (M : pv_M) : Option (Int32 × pv_M) := pv_cal (f_X7_fewestDropped 5 M) (fun x1 M1 => some (x1, M1))
set_option maxHeartbeats 4000000 in
set_option maxRecDepth 100000 in
theorem k_X8_drop (l : Launch) (κ : pv_K) (M : pv_M) : pv_Mt l yX8_drop cX8_drop 1 (some .int) 5 κ [.ref (κ.1 + 0)] M pv_ji (f_X8_drop M) := by
  refine pv_enter (by decide +kernel) (Nat.le_of_ble_eq_true rfl) (fun g hl hR C => ?_)
  have C : pv_Ok g κ 1 cX8_drop RX8 (some .int) := C
  show pv_R g κ pv_T pv_RF 1 0 0 (pv_QF g κ pv_ji) 0 [(0, .ref (κ.1 + 0))] [] M (f_X8_drop M)
  unfold f_X8_drop
  refine rw_aload_n C dX8_drop_0 rfl 0 rfl ?_
  refine rw_getR (k0 := 0) (k1 := 179) C dX8_drop_1 fl_X8_78 rfl (by decide) sh_0 (by decide) rfl ?_
  refine rw_aload_n C dX8_drop_4 rfl 0 rfl ?_
  refine rw_getR (k0 := 0) (k1 := 5) C dX8_drop_5 fl_X8_23 rfl (by decide) sh_0 (by decide) rfl ?_
  refine rw_callVi (As := [.ref (κ.1 + 5)]) (k0 := 179) C hR dX8_drop_8 cv_X8_254 (k_X7_fewestDropped g.2.1 κ 5 M) (by decide) (by decide) (by decide) sh_179 rfl rfl (Nat.le_of_ble_eq_true rfl) rfl (fun x1 M1 => ?_)
  exact rw_iret C dX8_drop_11
def f_X8_rate (a1 : Int32) (a2 : Int32) (a3 : Int32) (a4 : Int32) (M : pv_M) : Option (Int32 × pv_M) := pv_cap (f_X6_isTown a1 M) (fun x1 => (if x1 = 0 then some ((-2), M) else pv_cap (f_X6_isTown a2 M) (fun x2 => (if x2 = 0 then some ((-2), M) else (if a1 = a2 then some ((-2), M) else pv_cap (f_X8_isWithin a3 1 9 M) (fun x3 => (if x3 = 0 then some ((-2), M) else pv_cap (f_X8_isWithin a4 1 9 M) (fun x4 => (if x4 = 0 then some ((-2), M) else pv_cal (f_X6_replaceRate a1 a2 a3 a4 M) (fun x5 M1 => some (x5, M1)))))))))))
set_option maxHeartbeats 4000000 in
set_option maxRecDepth 100000 in
theorem k_X8_rate (l : Launch) (κ : pv_K) (a1 : Int32) (a2 : Int32) (a3 : Int32) (a4 : Int32) (M : pv_M) : pv_Mt l yX8_rate cX8_rate 5 (some .int) 2 κ [.ref (κ.1 + 0), .int a1, .int a2, .int a3, .int a4] M pv_ji (f_X8_rate a1 a2 a3 a4 M) := by
  refine pv_enter (by decide +kernel) (Nat.le_of_ble_eq_true rfl) (fun g hl hR C => ?_)
  have C : pv_Ok g κ 5 cX8_rate RX8 (some .int) := C
  show pv_R g κ pv_T pv_RF 5 0 0 (pv_QF g κ pv_ji) 0 [(0, .ref (κ.1 + 0)), (1, .int a1), (2, .int a2), (3, .int a3), (4, .int a4)] [] M (f_X8_rate a1 a2 a3 a4 M)
  unfold f_X8_rate
  refine rw_iload_n C dX8_rate_0 rfl 1 rfl ?_
  refine rw_callSPi (As := [.int a1]) C hR dX8_rate_1 cs_X8_257 (k_X6_isTown g.2.1 κ a1 M) (by decide) (by decide) rfl (Nat.le_of_ble_eq_true rfl) rfl (fun x1 => ?_)
  refine rw_if_eq (tgt := 19) C dX8_rate_4 (by decide) ?_ ?_
  · refine rw_bipush (c := (-2)) C dX8_rate_19 (by decide) ?_
    exact rw_iret C dX8_rate_21
  · refine rw_iload_n C dX8_rate_7 rfl 2 rfl ?_
    refine rw_callSPi (As := [.int a2]) C hR dX8_rate_8 cs_X8_257 (k_X6_isTown g.2.1 κ a2 M) (by decide) (by decide) rfl (Nat.le_of_ble_eq_true rfl) rfl (fun x2 => ?_)
    refine rw_if_eq (tgt := 19) C dX8_rate_11 (by decide) ?_ ?_
    · refine rw_bipush (c := (-2)) C dX8_rate_19 (by decide) ?_
      exact rw_iret C dX8_rate_21
    · refine rw_iload_n C dX8_rate_14 rfl 1 rfl ?_
      refine rw_iload_n C dX8_rate_15 rfl 2 rfl ?_
      refine rw_icmp_ne (tgt := 22) C dX8_rate_16 (by decide) ?_ ?_
      · refine rw_iload_n C dX8_rate_22 rfl 3 rfl ?_
        refine rw_iconst (c := 1) C dX8_rate_23 ci_1 ?_
        refine rw_bipush (c := 9) C dX8_rate_24 (by decide) ?_
        refine rw_callSPi (As := [.int a3, .int 1, .int 9]) C hR dX8_rate_26 cs_X8_120 (k_X8_isWithin g.2.1 κ a3 1 9 M) (by decide) (by decide) rfl (Nat.le_of_ble_eq_true rfl) rfl (fun x3 => ?_)
        refine rw_if_eq (tgt := 43) C dX8_rate_29 (by decide) ?_ ?_
        · refine rw_bipush (c := (-2)) C dX8_rate_43 (by decide) ?_
          exact rw_iret C dX8_rate_45
        · refine rw_iload C dX8_rate_32 4 rfl ?_
          refine rw_iconst (c := 1) C dX8_rate_34 ci_1 ?_
          refine rw_bipush (c := 9) C dX8_rate_35 (by decide) ?_
          refine rw_callSPi (As := [.int a4, .int 1, .int 9]) C hR dX8_rate_37 cs_X8_120 (k_X8_isWithin g.2.1 κ a4 1 9 M) (by decide) (by decide) rfl (Nat.le_of_ble_eq_true rfl) rfl (fun x4 => ?_)
          refine rw_if_ne (tgt := 46) C dX8_rate_40 (by decide) ?_ ?_
          · refine rw_aload_n C dX8_rate_46 rfl 0 rfl ?_
            refine rw_getR (k0 := 0) (k1 := 183) C dX8_rate_47 fl_X8_85 rfl (by decide) sh_0 (by decide) rfl ?_
            refine rw_iload_n C dX8_rate_50 rfl 1 rfl ?_
            refine rw_iload_n C dX8_rate_51 rfl 2 rfl ?_
            refine rw_iload_n C dX8_rate_52 rfl 3 rfl ?_
            refine rw_iload C dX8_rate_53 4 rfl ?_
            refine rw_callVi (As := [.int a1, .int a2, .int a3, .int a4]) (k0 := 183) C hR dX8_rate_55 cv_X8_260 (k_X6_replaceRate g.2.1 κ a1 a2 a3 a4 M) (by decide) (by decide) (by decide) sh_183 rfl rfl (Nat.le_of_ble_eq_true rfl) rfl (fun x5 M1 => ?_)
            exact rw_iret C dX8_rate_58
          · refine rw_bipush (c := (-2)) C dX8_rate_43 (by decide) ?_
            exact rw_iret C dX8_rate_45
      · refine rw_bipush (c := (-2)) C dX8_rate_19 (by decide) ?_
        exact rw_iret C dX8_rate_21
def f_X8_round (a1 : Int32) (M : pv_M) : Option (Int32 × pv_M) := pv_cap (f_X8_isWithin a1 ((-2)) 3 M) (fun x1 => (if x1 = 0 then some ((-2), M) else pv_cal (f_X6_findRound M) (fun u1 M1 => (if a1 = ((-2)) then pv_nm (M1.1 183 0) (fun x4 => some (x4, M1)) else (if a1 = ((-1)) then pv_nm (M1.1 183 1) (fun x3 => some (x3, M1)) else pv_cap (f_X6_bestTown a1 M1) (fun x2 => some (x2, M1)))))))
set_option maxHeartbeats 4000000 in
set_option maxRecDepth 100000 in
theorem k_X8_round (l : Launch) (κ : pv_K) (a1 : Int32) (M : pv_M) : pv_Mt l yX8_round cX8_round 2 (some .int) 14 κ [.ref (κ.1 + 0), .int a1] M pv_ji (f_X8_round a1 M) := by
  refine pv_enter (by decide +kernel) (Nat.le_of_ble_eq_true rfl) (fun g hl hR C => ?_)
  have C : pv_Ok g κ 2 cX8_round RX8 (some .int) := C
  show pv_R g κ pv_T pv_RF 2 0 0 (pv_QF g κ pv_ji) 0 [(0, .ref (κ.1 + 0)), (1, .int a1)] [] M (f_X8_round a1 M)
  unfold f_X8_round
  refine rw_iload_n C dX8_round_0 rfl 1 rfl ?_
  refine rw_bipush (c := (-2)) C dX8_round_1 (by decide) ?_
  refine rw_iconst (c := 3) C dX8_round_3 ci_3 ?_
  refine rw_callSPi (As := [.int a1, .int (-2), .int 3]) C hR dX8_round_4 cs_X8_120 (k_X8_isWithin g.2.1 κ a1 ((-2)) 3 M) (by decide) (by decide) rfl (Nat.le_of_ble_eq_true rfl) rfl (fun x1 => ?_)
  refine rw_if_ne (tgt := 13) C dX8_round_7 (by decide) ?_ ?_
  · refine rw_aload_n C dX8_round_13 rfl 0 rfl ?_
    refine rw_getR (k0 := 0) (k1 := 183) C dX8_round_14 fl_X8_85 rfl (by decide) sh_0 (by decide) rfl ?_
    refine rw_callVu (As := []) (k0 := 183) C hR dX8_round_17 cv_X8_264 (k_X6_findRound g.2.1 κ M) (by decide) (by decide) (by decide) sh_183 rfl rfl (Nat.le_of_ble_eq_true rfl) rfl (fun u1 M1 => ?_)
    refine rw_iload_n C dX8_round_20 rfl 1 rfl ?_
    refine rw_bipush (c := (-2)) C dX8_round_21 (by decide) ?_
    refine rw_icmp_ne (tgt := 34) C dX8_round_23 (by decide) ?_ ?_
    · refine rw_iload_n C dX8_round_34 rfl 1 rfl ?_
      refine rw_iconst (c := (-1)) C dX8_round_35 ci_m1 ?_
      refine rw_icmp_ne (tgt := 47) C dX8_round_36 (by decide) ?_ ?_
      · refine rw_aload_n C dX8_round_47 rfl 0 rfl ?_
        refine rw_getR (k0 := 0) (k1 := 183) C dX8_round_48 fl_X8_85 rfl (by decide) sh_0 (by decide) rfl ?_
        refine rw_iload_n C dX8_round_51 rfl 1 rfl ?_
        refine rw_callVPi (As := [.int a1]) (k0 := 183) C hR dX8_round_52 cv_X8_273 (k_X6_bestTown g.2.1 κ a1 M1) (by decide) (by decide) (by decide) sh_183 rfl rfl (Nat.le_of_ble_eq_true rfl) rfl (fun x2 => ?_)
        exact rw_iret C dX8_round_55
      · refine rw_aload_n C dX8_round_39 rfl 0 rfl ?_
        refine rw_getR (k0 := 0) (k1 := 183) C dX8_round_40 fl_X8_85 rfl (by decide) sh_0 (by decide) rfl ?_
        refine rw_getI (k0 := 183) C dX8_round_43 fl_X8_270 rfl (by decide) sh_183 (by decide) (fun x3 => ?_)
        exact rw_iret C dX8_round_46
    · refine rw_aload_n C dX8_round_26 rfl 0 rfl ?_
      refine rw_getR (k0 := 0) (k1 := 183) C dX8_round_27 fl_X8_85 rfl (by decide) sh_0 (by decide) rfl ?_
      refine rw_getI (k0 := 183) C dX8_round_30 fl_X8_267 rfl (by decide) sh_183 (by decide) (fun x4 => ?_)
      exact rw_iret C dX8_round_33
  · refine rw_bipush (c := (-2)) C dX8_round_10 (by decide) ?_
    exact rw_iret C dX8_round_12
def f_X8_bill (a1 : Int32) (a2 : Int32) (a3 : Int32) (M : pv_M) : Option (Int32 × pv_M) := pv_cap (f_X8_isWithin a1 1 9 M) (fun x1 => (if x1 = 0 then some ((-2), M) else pv_cap (f_X8_isUnit a2 M) (fun x2 => (if x2 = 0 then some ((-2), M) else pv_cap (f_X8_isWithin a3 1 99 M) (fun x3 => (if x3 = 0 then some ((-2), M) else pv_cap (f_X3_isFull 29 M) (fun x4 => (if x4 = 0 then pv_cal (f_X3_next 29 M) (fun k1 M1 => pv_stI pv_T k1 0 a1 M1 (fun M2 => pv_stI pv_T k1 1 a2 M2 (fun M3 => pv_stI pv_T k1 2 a3 M3 (fun M4 => pv_nm (M4.1 29 1) (fun x5 => some (x5, M4)))))) else some ((-4), M)))))))))
set_option maxHeartbeats 4000000 in
set_option maxRecDepth 100000 in
theorem k_X8_bill (l : Launch) (κ : pv_K) (a1 : Int32) (a2 : Int32) (a3 : Int32) (M : pv_M) : pv_Mt l yX8_bill cX8_bill 5 (some .int) 2 κ [.ref (κ.1 + 0), .int a1, .int a2, .int a3] M pv_ji (f_X8_bill a1 a2 a3 M) := by
  refine pv_enter (by decide +kernel) (Nat.le_of_ble_eq_true rfl) (fun g hl hR C => ?_)
  have C : pv_Ok g κ 5 cX8_bill RX8 (some .int) := C
  show pv_R g κ pv_T pv_RF 5 0 0 (pv_QF g κ pv_ji) 0 [(0, .ref (κ.1 + 0)), (1, .int a1), (2, .int a2), (3, .int a3)] [] M (f_X8_bill a1 a2 a3 M)
  unfold f_X8_bill
  refine rw_iload_n C dX8_bill_0 rfl 1 rfl ?_
  refine rw_iconst (c := 1) C dX8_bill_1 ci_1 ?_
  refine rw_bipush (c := 9) C dX8_bill_2 (by decide) ?_
  refine rw_callSPi (As := [.int a1, .int 1, .int 9]) C hR dX8_bill_4 cs_X8_120 (k_X8_isWithin g.2.1 κ a1 1 9 M) (by decide) (by decide) rfl (Nat.le_of_ble_eq_true rfl) rfl (fun x1 => ?_)
  refine rw_if_eq (tgt := 27) C dX8_bill_7 (by decide) ?_ ?_
  · refine rw_bipush (c := (-2)) C dX8_bill_27 (by decide) ?_
    exact rw_iret C dX8_bill_29
  · refine rw_iload_n C dX8_bill_10 rfl 2 rfl ?_
    refine rw_callSPi (As := [.int a2]) C hR dX8_bill_11 cs_X8_152 (k_X8_isUnit g.2.1 κ a2 M) (by decide) (by decide) rfl (Nat.le_of_ble_eq_true rfl) rfl (fun x2 => ?_)
    refine rw_if_eq (tgt := 27) C dX8_bill_14 (by decide) ?_ ?_
    · refine rw_bipush (c := (-2)) C dX8_bill_27 (by decide) ?_
      exact rw_iret C dX8_bill_29
    · refine rw_iload_n C dX8_bill_17 rfl 3 rfl ?_
      refine rw_iconst (c := 1) C dX8_bill_18 ci_1 ?_
      refine rw_bipush (c := 99) C dX8_bill_19 (by decide) ?_
      refine rw_callSPi (As := [.int a3, .int 1, .int 99]) C hR dX8_bill_21 cs_X8_120 (k_X8_isWithin g.2.1 κ a3 1 99 M) (by decide) (by decide) rfl (Nat.le_of_ble_eq_true rfl) rfl (fun x3 => ?_)
      refine rw_if_ne (tgt := 30) C dX8_bill_24 (by decide) ?_ ?_
      · refine rw_aload_n C dX8_bill_30 rfl 0 rfl ?_
        refine rw_getR (k0 := 0) (k1 := 29) C dX8_bill_31 fl_X8_36 rfl (by decide) sh_0 (by decide) rfl ?_
        refine rw_callVPi (As := []) (k0 := 29) C hR dX8_bill_34 cv_X8_177 (k_X3_isFull g.2.1 κ 29 M) (by decide) (by decide) (by decide) sh_29 rfl rfl (Nat.le_of_ble_eq_true rfl) rfl (fun x4 => ?_)
        refine rw_if_eq (tgt := 43) C dX8_bill_37 (by decide) ?_ ?_
        · refine rw_aload_n C dX8_bill_43 rfl 0 rfl ?_
          refine rw_getR (k0 := 0) (k1 := 29) C dX8_bill_44 fl_X8_36 rfl (by decide) sh_0 (by decide) rfl ?_
          refine rw_callVr (As := []) (k0 := 29) C hR dX8_bill_47 cv_X8_178 (k_X3_next g.2.1 κ 29 M) (by decide) (by decide) (by decide) sh_29 rfl rfl (Nat.le_of_ble_eq_true rfl) rfl (fun k1 M1 => ?_)
          refine rw_astore (lv' := [(4, .ref (κ.1 + k1)), (0, .ref (κ.1 + 0)), (1, .int a1), (2, .int a2), (3, .int a3)]) C dX8_bill_50 (by decide) rfl ?_
          refine rw_aload C dX8_bill_52 0 rfl ?_
          refine rw_iconst (c := 0) C dX8_bill_54 ci_0 ?_
          refine rw_iload_n C dX8_bill_55 rfl 2 rfl ?_
          refine rw_stI C dX8_bill_56 (fun M2 => ?_)
          refine rw_aload C dX8_bill_57 0 rfl ?_
          refine rw_iconst (c := 1) C dX8_bill_59 ci_1 ?_
          refine rw_iload_n C dX8_bill_60 rfl 3 rfl ?_
          refine rw_stI C dX8_bill_61 (fun M3 => ?_)
          refine rw_aload C dX8_bill_62 0 rfl ?_
          refine rw_iconst (c := 2) C dX8_bill_64 ci_2 ?_
          refine rw_iload_n C dX8_bill_65 rfl 4 rfl ?_
          refine rw_stI C dX8_bill_66 (fun M4 => ?_)
          refine rw_aload_n C dX8_bill_67 rfl 1 rfl ?_
          refine rw_getR (k0 := 0) (k1 := 29) C dX8_bill_68 fl_X8_36 rfl (by decide) sh_0 (by decide) rfl ?_
          refine rw_getI (k0 := 29) C dX8_bill_71 fl_X8_182 rfl (by decide) sh_29 (by decide) (fun x5 => ?_)
          exact rw_iret C dX8_bill_74
        · refine rw_bipush (c := (-4)) C dX8_bill_40 (by decide) ?_
          exact rw_iret C dX8_bill_42
      · refine rw_bipush (c := (-2)) C dX8_bill_27 (by decide) ?_
        exact rw_iret C dX8_bill_29
def f_X8_years_L44 (rec1 : Int32 → Int32 → Option (Int32 × pv_M)) (x3 : Int32) (k2 : Nat) (M1 : pv_M) (k1 : Nat) (rec2 : Int32 → Int32 → Option (Int32 × pv_M)) (x5 : Int32) (x6 : Int32) : Option (Int32 × pv_M) := (if 10 ≤ x6 then rec1 x5 (x3 + 1) else pv_ldI pv_T k2 0 M1 (fun x7 => pv_ldI pv_T k2 1 M1 (fun x8 => pv_cap (f_X1_greatness k1 x6 x8 M1) (fun x9 => pv_nm (x7 * x9) (fun x10 => pv_ldI pv_T k2 2 M1 (fun x11 => (if x10 = x11 then rec2 x5 (x6 + 1) else pv_nm (x5 &&& ((1 <<< (x6 &&& 31)) ^^^ ((-1)))) (fun x12 => rec2 x12 (x6 + 1)))))))))
def f_X8_years_L19 (M1 : pv_M) (k1 : Nat) (rec1 : Int32 → Int32 → Option (Int32 × pv_M)) (x2 : Int32) (x3 : Int32) : Option (Int32 × pv_M) := pv_nm (M1.1 29 1) (fun x4 => (if x4 ≤ x3 then some (x2, M1) else pv_ldR pv_T 30 x3 (fun k2 => pv_lp2 (f_X8_years_L44 rec1 x3 k2 M1 k1) pv_FU x2 0)))
def f_X8_years (M : pv_M) : Option (Int32 × pv_M) := pv_cal (f_X8_settle M) (fun u1 M1 => pv_nm (M1.1 0 16) (fun x1 => pv_cap (f_X8_pollBy x1 M1) (fun k1 => pv_ck (pv_isP k1) (pv_lp2 (f_X8_years_L19 M1 k1) pv_FU 1023 0))))
set_option maxHeartbeats 4000000 in
set_option maxRecDepth 100000 in
theorem k_X8_years (l : Launch) (κ : pv_K) (M : pv_M) : pv_Mt l yX8_years cX8_years 7 (some .int) 5 κ [.ref (κ.1 + 0)] M pv_ji (f_X8_years M) := by
  refine pv_enter (by decide +kernel) (Nat.le_of_ble_eq_true rfl) (fun g hl hR C => ?_)
  have C : pv_Ok g κ 7 cX8_years RX8 (some .int) := C
  show pv_R g κ pv_T pv_RF 7 0 0 (pv_QF g κ pv_ji) 0 [(0, .ref (κ.1 + 0))] [] M (f_X8_years M)
  unfold f_X8_years
  refine rw_aload_n C dX8_years_0 rfl 0 rfl ?_
  refine rw_callVu (As := []) (k0 := 0) C hR dX8_years_1 cv_X8_143 (k_X8_settle g.2.1 κ M) (by decide) (by decide) (by decide) sh_0 rfl rfl (Nat.le_of_ble_eq_true rfl) rfl (fun u1 M1 => ?_)
  refine rw_aload_n C dX8_years_4 rfl 0 rfl ?_
  refine rw_aload_n C dX8_years_5 rfl 0 rfl ?_
  refine rw_getI (k0 := 0) C dX8_years_6 fl_X8_96 rfl (by decide) sh_0 (by decide) (fun x1 => ?_)
  refine rw_callVPr (As := [.int x1]) (k0 := 0) C hR dX8_years_9 cv_X8_183 (k_X8_pollBy g.2.1 κ x1 M1) (by decide) (by decide) (by decide) sh_0 rfl rfl (Nat.le_of_ble_eq_true rfl) rfl (fun k1 => ?_)
  refine rw_ck (fun hc1 => ?_)
  refine rw_astore_n (lv' := [(1, .ref (κ.1 + k1)), (0, .ref (κ.1 + 0))]) C dX8_years_12 rfl (by decide) rfl ?_
  refine rw_sipush (c := 1023) C dX8_years_13 (by decide) ?_
  refine rw_istore_n (lv' := [(2, .int 1023), (1, .ref (κ.1 + k1)), (0, .ref (κ.1 + 0))]) C dX8_years_16 rfl (by decide) rfl ?_
  refine rw_iconst (c := 0) C dX8_years_17 ci_0 ?_
  refine rw_istore_n (lv' := [(3, .int 0), (2, .int 1023), (1, .ref (κ.1 + k1)), (0, .ref (κ.1 + 0))]) C dX8_years_18 rfl (by decide) rfl ?_
  refine rw_lv (lv' := [(0, .ref (κ.1 + 0)), (1, .ref (κ.1 + k1)), (2, .int 1023), (3, .int 0)]) [3, 2, 1, 0] rfl ?_
  refine pv_lp2_ind (fun x2 x3 xx => pv_R g κ pv_T pv_RF 7 0 0 (pv_QF g κ pv_ji) 19 [(0, .ref (κ.1 + 0)), (1, .ref (κ.1 + k1)), (2, .int x2), (3, .int x3)] [] M1 xx) (fun _ _ => rw_none) (fun rec1 hrec1 x2 x3 => ?_) _ _ _
  unfold f_X8_years_L19
  refine rw_iload_n C dX8_years_19 rfl 3 rfl ?_
  refine rw_aload_n C dX8_years_20 rfl 0 rfl ?_
  refine rw_getR (k0 := 0) (k1 := 29) C dX8_years_21 fl_X8_36 rfl (by decide) sh_0 (by decide) rfl ?_
  refine rw_getI (k0 := 29) C dX8_years_24 fl_X8_182 rfl (by decide) sh_29 (by decide) (fun x4 => ?_)
  refine rw_icmp_ge (tgt := 98) C dX8_years_27 (by decide) ?_ ?_
  · refine rw_iload_n C dX8_years_98 rfl 2 rfl ?_
    exact rw_iret C dX8_years_99
  · refine rw_aload_n C dX8_years_30 rfl 0 rfl ?_
    refine rw_getR (k0 := 0) (k1 := 29) C dX8_years_31 fl_X8_36 rfl (by decide) sh_0 (by decide) rfl ?_
    refine rw_getR (k0 := 29) (k1 := 30) C dX8_years_34 fl_X8_207 rfl (by decide) sh_29 (by decide) rfl ?_
    refine rw_iload_n C dX8_years_37 rfl 3 rfl ?_
    refine rw_ldR C dX8_years_38 (fun k2 => ?_)
    refine rw_astore (lv' := [(4, .ref (κ.1 + k2)), (0, .ref (κ.1 + 0)), (1, .ref (κ.1 + k1)), (2, .int x2), (3, .int x3)]) C dX8_years_39 (by decide) rfl ?_
    refine rw_iconst (c := 0) C dX8_years_41 ci_0 ?_
    refine rw_istore (lv' := [(5, .int 0), (4, .ref (κ.1 + k2)), (0, .ref (κ.1 + 0)), (1, .ref (κ.1 + k1)), (2, .int x2), (3, .int x3)]) C dX8_years_42 (by decide) rfl ?_
    refine rw_lv (lv' := [(0, .ref (κ.1 + 0)), (1, .ref (κ.1 + k1)), (2, .int x2), (3, .int x3), (4, .ref (κ.1 + k2)), (5, .int 0)]) [2, 3, 4, 5, 1, 0] rfl ?_
    refine pv_lp2_ind (fun x5 x6 xx => pv_R g κ pv_T pv_RF 7 0 0 (pv_QF g κ pv_ji) 44 [(0, .ref (κ.1 + 0)), (1, .ref (κ.1 + k1)), (2, .int x5), (3, .int x3), (4, .ref (κ.1 + k2)), (5, .int x6)] [] M1 xx) (fun _ _ => rw_none) (fun rec2 hrec2 x5 x6 => ?_) _ _ _
    unfold f_X8_years_L44
    refine rw_iload C dX8_years_44 5 rfl ?_
    refine rw_bipush (c := 10) C dX8_years_46 (by decide) ?_
    refine rw_icmp_ge (tgt := 92) C dX8_years_48 (by decide) ?_ ?_
    · refine rw_iinc (c := 1) (lv' := [(3, .int (x3 + 1)), (0, .ref (κ.1 + 0)), (1, .ref (κ.1 + k1)), (2, .int x5), (4, .ref (κ.1 + k2)), (5, .int x6)]) C dX8_years_92 3 rfl (by decide) (by decide) rfl ?_
      refine rw_goto (tgt := 19) C dX8_years_95 (by decide) ?_
      exact rw_lv [1, 2, 3, 0] rfl (hrec1 x5 (x3 + 1))
    · refine rw_aload C dX8_years_51 4 rfl ?_
      refine rw_iconst (c := 0) C dX8_years_53 ci_0 ?_
      refine rw_ldI C dX8_years_54 (fun x7 => ?_)
      refine rw_aload_n C dX8_years_55 rfl 1 rfl ?_
      refine rw_iload C dX8_years_56 5 rfl ?_
      refine rw_aload C dX8_years_58 4 rfl ?_
      refine rw_iconst (c := 1) C dX8_years_60 ci_1 ?_
      refine rw_ldI C dX8_years_61 (fun x8 => ?_)
      refine rw_callVPi (As := [.int x6, .int x8]) (k0 := k1) C hR dX8_years_62 cv_X8_191 (k_X1_greatness g.2.1 κ k1 x6 x8 M1) (by decide) (by decide) (pv_isP_lt hc1) (pv_isP_sh hc1) rfl rfl (Nat.le_of_ble_eq_true rfl) rfl (fun x9 => ?_)
      refine rw_imul C dX8_years_65 ?_
      refine rw_nm (fun x10 => ?_)
      refine rw_istore (lv' := [(6, .int x10), (0, .ref (κ.1 + 0)), (1, .ref (κ.1 + k1)), (2, .int x5), (3, .int x3), (4, .ref (κ.1 + k2)), (5, .int x6)]) C dX8_years_66 (by decide) rfl ?_
      refine rw_iload C dX8_years_68 0 rfl ?_
      refine rw_aload C dX8_years_70 5 rfl ?_
      refine rw_iconst (c := 2) C dX8_years_72 ci_2 ?_
      refine rw_ldI C dX8_years_73 (fun x11 => ?_)
      refine rw_icmp_eq (tgt := 86) C dX8_years_74 (by decide) ?_ ?_
      · refine rw_iinc (c := 1) (lv' := [(5, .int (x6 + 1)), (6, .int x10), (0, .ref (κ.1 + 0)), (1, .ref (κ.1 + k1)), (2, .int x5), (3, .int x3), (4, .ref (κ.1 + k2))]) C dX8_years_86 6 rfl (by decide) (by decide) rfl ?_
        refine rw_goto (tgt := 44) C dX8_years_89 (by decide) ?_
        exact rw_lv [2, 3, 4, 5, 6, 0] rfl (hrec2 x5 (x6 + 1))
      · refine rw_iload_n C dX8_years_77 rfl 3 rfl ?_
        refine rw_iconst (c := 1) C dX8_years_78 ci_1 ?_
        refine rw_iload C dX8_years_79 6 rfl ?_
        refine rw_ishl C dX8_years_81 ?_
        refine rw_iconst (c := (-1)) C dX8_years_82 ci_m1 ?_
        refine rw_ixor C dX8_years_83 ?_
        refine rw_iand C dX8_years_84 ?_
        refine rw_nm (fun x12 => ?_)
        refine rw_istore_n (lv' := [(2, .int x12), (6, .int x10), (0, .ref (κ.1 + 0)), (1, .ref (κ.1 + k1)), (3, .int x3), (4, .ref (κ.1 + k2)), (5, .int x6)]) C dX8_years_85 rfl (by decide) rfl ?_
        refine rw_iinc (c := 1) (lv' := [(5, .int (x6 + 1)), (2, .int x12), (6, .int x10), (0, .ref (κ.1 + 0)), (1, .ref (κ.1 + k1)), (3, .int x3), (4, .ref (κ.1 + k2))]) C dX8_years_86 6 rfl (by decide) (by decide) rfl ?_
        refine rw_goto (tgt := 44) C dX8_years_89 (by decide) ?_
        exact rw_lv [3, 4, 1, 5, 6, 0] rfl (hrec2 x12 (x6 + 1))
def f_X8_find (a1 : Int32) (M : pv_M) : Option (Int32 × pv_M) := pv_nm (pv_u M.1 0 18 a1, M.2) (fun M1 => some (((-10)) - a1, M1))
set_option maxHeartbeats 4000000 in
set_option maxRecDepth 100000 in
theorem k_X8_find (l : Launch) (κ : pv_K) (a1 : Int32) (M : pv_M) : pv_Mt l yX8_find cX8_find 2 (some .int) 0 κ [.ref (κ.1 + 0), .int a1] M pv_ji (f_X8_find a1 M) := by
  refine pv_enter (by decide +kernel) (Nat.le_of_ble_eq_true rfl) (fun g hl hR C => ?_)
  have C : pv_Ok g κ 2 cX8_find RX8 (some .int) := C
  show pv_R g κ pv_T pv_RF 2 0 0 (pv_QF g κ pv_ji) 0 [(0, .ref (κ.1 + 0)), (1, .int a1)] [] M (f_X8_find a1 M)
  unfold f_X8_find
  refine rw_aload_n C dX8_find_0 rfl 0 rfl ?_
  refine rw_iload_n C dX8_find_1 rfl 1 rfl ?_
  refine rw_put (k0 := 0) C dX8_find_2 fl_X8_103 ff_X8_18 rfl rfl rfl (by decide) sh_0 (by decide) (fun M1 => ?_)
  refine rw_bipush (c := (-10)) C dX8_find_5 (by decide) ?_
  refine rw_iload_n C dX8_find_7 rfl 1 rfl ?_
  refine rw_isub C dX8_find_8 ?_
  exact rw_iret C dX8_find_9
def f_X8_sheet (a1 : Int32) (a2 : Int32) (a3 : Int32) (M : pv_M) : Option (Int32 × pv_M) := pv_cap (f_X4_isSheet a1 M) (fun x1 => (if x1 = 0 then some ((-2), M) else pv_cap (f_X4_isForm a2 M) (fun x2 => (if x2 = 0 then some ((-2), M) else (if a3 ≤ 60 then (if 0 ≤ a3 then pv_cal (f_X4_begin a1 a2 a3 M) (fun u1 M1 => some (a3, M1)) else pv_cal (f_X8_find 5 M) (fun x3 M2 => some (x3, M2))) else some ((-2), M))))))
set_option maxHeartbeats 4000000 in
set_option maxRecDepth 100000 in
theorem k_X8_sheet (l : Launch) (κ : pv_K) (a1 : Int32) (a2 : Int32) (a3 : Int32) (M : pv_M) : pv_Mt l yX8_sheet cX8_sheet 4 (some .int) 2 κ [.ref (κ.1 + 0), .int a1, .int a2, .int a3] M pv_ji (f_X8_sheet a1 a2 a3 M) := by
  refine pv_enter (by decide +kernel) (Nat.le_of_ble_eq_true rfl) (fun g hl hR C => ?_)
  have C : pv_Ok g κ 4 cX8_sheet RX8 (some .int) := C
  show pv_R g κ pv_T pv_RF 4 0 0 (pv_QF g κ pv_ji) 0 [(0, .ref (κ.1 + 0)), (1, .int a1), (2, .int a2), (3, .int a3)] [] M (f_X8_sheet a1 a2 a3 M)
  unfold f_X8_sheet
  refine rw_iload_n C dX8_sheet_0 rfl 1 rfl ?_
  refine rw_callSPi (As := [.int a1]) C hR dX8_sheet_1 cs_X8_276 (k_X4_isSheet g.2.1 κ a1 M) (by decide) (by decide) rfl (Nat.le_of_ble_eq_true rfl) rfl (fun x1 => ?_)
  refine rw_if_eq (tgt := 20) C dX8_sheet_4 (by decide) ?_ ?_
  · refine rw_bipush (c := (-2)) C dX8_sheet_20 (by decide) ?_
    exact rw_iret C dX8_sheet_22
  · refine rw_iload_n C dX8_sheet_7 rfl 2 rfl ?_
    refine rw_callSPi (As := [.int a2]) C hR dX8_sheet_8 cs_X8_279 (k_X4_isForm g.2.1 κ a2 M) (by decide) (by decide) rfl (Nat.le_of_ble_eq_true rfl) rfl (fun x2 => ?_)
    refine rw_if_eq (tgt := 20) C dX8_sheet_11 (by decide) ?_ ?_
    · refine rw_bipush (c := (-2)) C dX8_sheet_20 (by decide) ?_
      exact rw_iret C dX8_sheet_22
    · refine rw_iload_n C dX8_sheet_14 rfl 3 rfl ?_
      refine rw_bipush (c := 60) C dX8_sheet_15 (by decide) ?_
      refine rw_icmp_le (tgt := 23) C dX8_sheet_17 (by decide) ?_ ?_
      · refine rw_iload_n C dX8_sheet_23 rfl 3 rfl ?_
        refine rw_if_ge (tgt := 33) C dX8_sheet_24 (by decide) ?_ ?_
        · refine rw_aload_n C dX8_sheet_33 rfl 0 rfl ?_
          refine rw_getR (k0 := 0) (k1 := 188) C dX8_sheet_34 fl_X8_92 rfl (by decide) sh_0 (by decide) rfl ?_
          refine rw_iload_n C dX8_sheet_37 rfl 1 rfl ?_
          refine rw_iload_n C dX8_sheet_38 rfl 2 rfl ?_
          refine rw_iload_n C dX8_sheet_39 rfl 3 rfl ?_
          refine rw_callVu (As := [.int a1, .int a2, .int a3]) (k0 := 188) C hR dX8_sheet_40 cv_X8_285 (k_X4_begin g.2.1 κ a1 a2 a3 M) (by decide) (by decide) (by decide) sh_188 rfl rfl (Nat.le_of_ble_eq_true rfl) rfl (fun u1 M1 => ?_)
          refine rw_iload_n C dX8_sheet_43 rfl 3 rfl ?_
          exact rw_iret C dX8_sheet_44
        · refine rw_aload_n C dX8_sheet_27 rfl 0 rfl ?_
          refine rw_iconst (c := 5) C dX8_sheet_28 ci_5 ?_
          refine rw_callVi (As := [.int 5]) (k0 := 0) C hR dX8_sheet_29 cv_X8_282 (k_X8_find g.2.1 κ 5 M) (by decide) (by decide) (by decide) sh_0 rfl rfl (Nat.le_of_ble_eq_true rfl) rfl (fun x3 M2 => ?_)
          exact rw_iret C dX8_sheet_32
      · refine rw_bipush (c := (-2)) C dX8_sheet_20 (by decide) ?_
        exact rw_iret C dX8_sheet_22
def f_X8_lose (a1 : Int32) (M : pv_M) : Option (Int32 × pv_M) := pv_cap (f_X4_isSheet a1 M) (fun x1 => (if x1 = 0 then some ((-2), M) else pv_cap (f_X4_isLost a1 M) (fun x2 => (if x2 = 0 then pv_ldI pv_T 190 a1 M (fun x3 => pv_cal (f_X4_forget a1 M) (fun u1 M1 => some (x3, M1))) else pv_cal (f_X8_find 1 M) (fun x4 M2 => some (x4, M2))))))
set_option maxHeartbeats 4000000 in
set_option maxRecDepth 100000 in
theorem k_X8_lose (l : Launch) (κ : pv_K) (a1 : Int32) (M : pv_M) : pv_Mt l yX8_lose cX8_lose 3 (some .int) 2 κ [.ref (κ.1 + 0), .int a1] M pv_ji (f_X8_lose a1 M) := by
  refine pv_enter (by decide +kernel) (Nat.le_of_ble_eq_true rfl) (fun g hl hR C => ?_)
  have C : pv_Ok g κ 3 cX8_lose RX8 (some .int) := C
  show pv_R g κ pv_T pv_RF 3 0 0 (pv_QF g κ pv_ji) 0 [(0, .ref (κ.1 + 0)), (1, .int a1)] [] M (f_X8_lose a1 M)
  unfold f_X8_lose
  refine rw_iload_n C dX8_lose_0 rfl 1 rfl ?_
  refine rw_callSPi (As := [.int a1]) C hR dX8_lose_1 cs_X8_276 (k_X4_isSheet g.2.1 κ a1 M) (by decide) (by decide) rfl (Nat.le_of_ble_eq_true rfl) rfl (fun x1 => ?_)
  refine rw_if_ne (tgt := 10) C dX8_lose_4 (by decide) ?_ ?_
  · refine rw_aload_n C dX8_lose_10 rfl 0 rfl ?_
    refine rw_getR (k0 := 0) (k1 := 188) C dX8_lose_11 fl_X8_92 rfl (by decide) sh_0 (by decide) rfl ?_
    refine rw_iload_n C dX8_lose_14 rfl 1 rfl ?_
    refine rw_callVPi (As := [.int a1]) (k0 := 188) C hR dX8_lose_15 cv_X8_289 (k_X4_isLost g.2.1 κ a1 M) (by decide) (by decide) (by decide) sh_188 rfl rfl (Nat.le_of_ble_eq_true rfl) rfl (fun x2 => ?_)
    refine rw_if_eq (tgt := 27) C dX8_lose_18 (by decide) ?_ ?_
    · refine rw_aload_n C dX8_lose_27 rfl 0 rfl ?_
      refine rw_getR (k0 := 0) (k1 := 188) C dX8_lose_28 fl_X8_92 rfl (by decide) sh_0 (by decide) rfl ?_
      refine rw_getR (k0 := 188) (k1 := 190) C dX8_lose_31 fl_X8_292 rfl (by decide) sh_188 (by decide) rfl ?_
      refine rw_iload_n C dX8_lose_34 rfl 1 rfl ?_
      refine rw_ldI C dX8_lose_35 (fun x3 => ?_)
      refine rw_istore_n (lv' := [(2, .int x3), (0, .ref (κ.1 + 0)), (1, .int a1)]) C dX8_lose_36 rfl (by decide) rfl ?_
      refine rw_aload_n C dX8_lose_37 rfl 1 rfl ?_
      refine rw_getR (k0 := 0) (k1 := 188) C dX8_lose_38 fl_X8_92 rfl (by decide) sh_0 (by decide) rfl ?_
      refine rw_iload_n C dX8_lose_41 rfl 2 rfl ?_
      refine rw_callVu (As := [.int a1]) (k0 := 188) C hR dX8_lose_42 cv_X8_295 (k_X4_forget g.2.1 κ a1 M) (by decide) (by decide) (by decide) sh_188 rfl rfl (Nat.le_of_ble_eq_true rfl) rfl (fun u1 M1 => ?_)
      refine rw_iload_n C dX8_lose_45 rfl 0 rfl ?_
      exact rw_iret C dX8_lose_46
    · refine rw_aload_n C dX8_lose_21 rfl 0 rfl ?_
      refine rw_iconst (c := 1) C dX8_lose_22 ci_1 ?_
      refine rw_callVi (As := [.int 1]) (k0 := 0) C hR dX8_lose_23 cv_X8_282 (k_X8_find g.2.1 κ 1 M) (by decide) (by decide) (by decide) sh_0 rfl rfl (Nat.le_of_ble_eq_true rfl) rfl (fun x4 M2 => ?_)
      exact rw_iret C dX8_lose_26
  · refine rw_bipush (c := (-2)) C dX8_lose_7 (by decide) ?_
    exact rw_iret C dX8_lose_9
def f_X8_lay (a1 : Int32) (a2 : Int32) (a3 : Int32) (a4 : Int32) (M : pv_M) : Option (Int32 × pv_M) := pv_cap (f_X4_isSheet a1 M) (fun x1 => (if x1 = 0 then some ((-2), M) else pv_cap (f_X4_isForm a2 M) (fun x2 => (if x2 = 0 then some ((-2), M) else pv_cap (f_X4_accessFinding a1 a2 a3 M) (fun x3 => (if x3 = 0 then pv_cal (f_X4_store a1 a3 a4 M) (fun u1 M1 => some (1, M1)) else pv_cal (f_X8_find x3 M) (fun x4 M2 => some (x4, M2))))))))
set_option maxHeartbeats 4000000 in
set_option maxRecDepth 100000 in
theorem k_X8_lay (l : Launch) (κ : pv_K) (a1 : Int32) (a2 : Int32) (a3 : Int32) (a4 : Int32) (M : pv_M) : pv_Mt l yX8_lay cX8_lay 6 (some .int) 2 κ [.ref (κ.1 + 0), .int a1, .int a2, .int a3, .int a4] M pv_ji (f_X8_lay a1 a2 a3 a4 M) := by
  refine pv_enter (by decide +kernel) (Nat.le_of_ble_eq_true rfl) (fun g hl hR C => ?_)
  have C : pv_Ok g κ 6 cX8_lay RX8 (some .int) := C
  show pv_R g κ pv_T pv_RF 6 0 0 (pv_QF g κ pv_ji) 0 [(0, .ref (κ.1 + 0)), (1, .int a1), (2, .int a2), (3, .int a3), (4, .int a4)] [] M (f_X8_lay a1 a2 a3 a4 M)
  unfold f_X8_lay
  refine rw_iload_n C dX8_lay_0 rfl 1 rfl ?_
  refine rw_callSPi (As := [.int a1]) C hR dX8_lay_1 cs_X8_276 (k_X4_isSheet g.2.1 κ a1 M) (by decide) (by decide) rfl (Nat.le_of_ble_eq_true rfl) rfl (fun x1 => ?_)
  refine rw_if_eq (tgt := 14) C dX8_lay_4 (by decide) ?_ ?_
  · refine rw_bipush (c := (-2)) C dX8_lay_14 (by decide) ?_
    exact rw_iret C dX8_lay_16
  · refine rw_iload_n C dX8_lay_7 rfl 2 rfl ?_
    refine rw_callSPi (As := [.int a2]) C hR dX8_lay_8 cs_X8_279 (k_X4_isForm g.2.1 κ a2 M) (by decide) (by decide) rfl (Nat.le_of_ble_eq_true rfl) rfl (fun x2 => ?_)
    refine rw_if_ne (tgt := 17) C dX8_lay_11 (by decide) ?_ ?_
    · refine rw_aload_n C dX8_lay_17 rfl 0 rfl ?_
      refine rw_getR (k0 := 0) (k1 := 188) C dX8_lay_18 fl_X8_92 rfl (by decide) sh_0 (by decide) rfl ?_
      refine rw_iload_n C dX8_lay_21 rfl 1 rfl ?_
      refine rw_iload_n C dX8_lay_22 rfl 2 rfl ?_
      refine rw_iload_n C dX8_lay_23 rfl 3 rfl ?_
      refine rw_callVPi (As := [.int a1, .int a2, .int a3]) (k0 := 188) C hR dX8_lay_24 cv_X8_298 (k_X4_accessFinding g.2.1 κ a1 a2 a3 M) (by decide) (by decide) (by decide) sh_188 rfl rfl (Nat.le_of_ble_eq_true rfl) rfl (fun x3 => ?_)
      refine rw_istore (lv' := [(5, .int x3), (0, .ref (κ.1 + 0)), (1, .int a1), (2, .int a2), (3, .int a3), (4, .int a4)]) C dX8_lay_27 (by decide) rfl ?_
      refine rw_iload C dX8_lay_29 0 rfl ?_
      refine rw_if_eq (tgt := 41) C dX8_lay_31 (by decide) ?_ ?_
      · refine rw_aload_n C dX8_lay_41 rfl 1 rfl ?_
        refine rw_getR (k0 := 0) (k1 := 188) C dX8_lay_42 fl_X8_92 rfl (by decide) sh_0 (by decide) rfl ?_
        refine rw_iload_n C dX8_lay_45 rfl 2 rfl ?_
        refine rw_iload_n C dX8_lay_46 rfl 4 rfl ?_
        refine rw_iload C dX8_lay_47 5 rfl ?_
        refine rw_callVu (As := [.int a1, .int a3, .int a4]) (k0 := 188) C hR dX8_lay_49 cv_X8_301 (k_X4_store g.2.1 κ a1 a3 a4 M) (by decide) (by decide) (by decide) sh_188 rfl rfl (Nat.le_of_ble_eq_true rfl) rfl (fun u1 M1 => ?_)
        refine rw_iconst (c := 1) C dX8_lay_52 ci_1 ?_
        exact rw_iret C dX8_lay_53
      · refine rw_aload_n C dX8_lay_34 rfl 1 rfl ?_
        refine rw_iload C dX8_lay_35 0 rfl ?_
        refine rw_callVi (As := [.int x3]) (k0 := 0) C hR dX8_lay_37 cv_X8_282 (k_X8_find g.2.1 κ x3 M) (by decide) (by decide) (by decide) sh_0 rfl rfl (Nat.le_of_ble_eq_true rfl) rfl (fun x4 M2 => ?_)
        exact rw_iret C dX8_lay_40
    · refine rw_bipush (c := (-2)) C dX8_lay_14 (by decide) ?_
      exact rw_iret C dX8_lay_16
def f_X8_get (a1 : Int32) (a2 : Int32) (a3 : Int32) (M : pv_M) : Option (Int32 × pv_M) := pv_cap (f_X4_isSheet a1 M) (fun x1 => (if x1 = 0 then some ((-2147483648), M) else pv_cap (f_X4_isForm a2 M) (fun x2 => (if x2 = 0 then some ((-2147483648), M) else pv_cap (f_X4_accessFinding a1 a2 a3 M) (fun x3 => (if x3 = 0 then pv_ldR pv_T 191 a1 (fun k1 => pv_ldI pv_T k1 a3 M (fun x5 => some (x5, M))) else pv_cal (f_X8_find x3 M) (fun x4 M1 => some ((-2147483648), M1))))))))
set_option maxHeartbeats 4000000 in
set_option maxRecDepth 100000 in
theorem k_X8_get (l : Launch) (κ : pv_K) (a1 : Int32) (a2 : Int32) (a3 : Int32) (M : pv_M) : pv_Mt l yX8_get cX8_get 5 (some .int) 2 κ [.ref (κ.1 + 0), .int a1, .int a2, .int a3] M pv_ji (f_X8_get a1 a2 a3 M) := by
  refine pv_enter (by decide +kernel) (Nat.le_of_ble_eq_true rfl) (fun g hl hR C => ?_)
  have C : pv_Ok g κ 5 cX8_get RX8 (some .int) := C
  show pv_R g κ pv_T pv_RF 5 0 0 (pv_QF g κ pv_ji) 0 [(0, .ref (κ.1 + 0)), (1, .int a1), (2, .int a2), (3, .int a3)] [] M (f_X8_get a1 a2 a3 M)
  unfold f_X8_get
  refine rw_iload_n C dX8_get_0 rfl 1 rfl ?_
  refine rw_callSPi (As := [.int a1]) C hR dX8_get_1 cs_X8_276 (k_X4_isSheet g.2.1 κ a1 M) (by decide) (by decide) rfl (Nat.le_of_ble_eq_true rfl) rfl (fun x1 => ?_)
  refine rw_if_eq (tgt := 14) C dX8_get_4 (by decide) ?_ ?_
  · refine rw_ldc_w (c := (-2147483648)) C dX8_get_14 mw_1051 ?_
    exact rw_iret C dX8_get_17
  · refine rw_iload_n C dX8_get_7 rfl 2 rfl ?_
    refine rw_callSPi (As := [.int a2]) C hR dX8_get_8 cs_X8_279 (k_X4_isForm g.2.1 κ a2 M) (by decide) (by decide) rfl (Nat.le_of_ble_eq_true rfl) rfl (fun x2 => ?_)
    refine rw_if_ne (tgt := 18) C dX8_get_11 (by decide) ?_ ?_
    · refine rw_aload_n C dX8_get_18 rfl 0 rfl ?_
      refine rw_getR (k0 := 0) (k1 := 188) C dX8_get_19 fl_X8_92 rfl (by decide) sh_0 (by decide) rfl ?_
      refine rw_iload_n C dX8_get_22 rfl 1 rfl ?_
      refine rw_iload_n C dX8_get_23 rfl 2 rfl ?_
      refine rw_iload_n C dX8_get_24 rfl 3 rfl ?_
      refine rw_callVPi (As := [.int a1, .int a2, .int a3]) (k0 := 188) C hR dX8_get_25 cv_X8_298 (k_X4_accessFinding g.2.1 κ a1 a2 a3 M) (by decide) (by decide) (by decide) sh_188 rfl rfl (Nat.le_of_ble_eq_true rfl) rfl (fun x3 => ?_)
      refine rw_istore (lv' := [(4, .int x3), (0, .ref (κ.1 + 0)), (1, .int a1), (2, .int a2), (3, .int a3)]) C dX8_get_28 (by decide) rfl ?_
      refine rw_iload C dX8_get_30 0 rfl ?_
      refine rw_if_ne (tgt := 47) C dX8_get_32 (by decide) ?_ ?_
      · refine rw_aload_n C dX8_get_47 rfl 1 rfl ?_
        refine rw_iload C dX8_get_48 0 rfl ?_
        refine rw_callVi (As := [.int x3]) (k0 := 0) C hR dX8_get_50 cv_X8_282 (k_X8_find g.2.1 κ x3 M) (by decide) (by decide) (by decide) sh_0 rfl rfl (Nat.le_of_ble_eq_true rfl) rfl (fun x4 M1 => ?_)
        refine rw_pop C dX8_get_53 rfl ?_
        refine rw_ldc_w (c := (-2147483648)) C dX8_get_54 mw_1051 ?_
        exact rw_iret C dX8_get_57
      · refine rw_aload_n C dX8_get_35 rfl 1 rfl ?_
        refine rw_getR (k0 := 0) (k1 := 188) C dX8_get_36 fl_X8_92 rfl (by decide) sh_0 (by decide) rfl ?_
        refine rw_getR (k0 := 188) (k1 := 191) C dX8_get_39 fl_X8_305 rfl (by decide) sh_188 (by decide) rfl ?_
        refine rw_iload_n C dX8_get_42 rfl 2 rfl ?_
        refine rw_ldR C dX8_get_43 (fun k1 => ?_)
        refine rw_iload_n C dX8_get_44 rfl 4 rfl ?_
        refine rw_ldI C dX8_get_45 (fun x5 => ?_)
        exact rw_iret C dX8_get_46
    · refine rw_ldc_w (c := (-2147483648)) C dX8_get_14 mw_1051 ?_
      exact rw_iret C dX8_get_17
def f_X8_copy (a1 : Int32) (a2 : Int32) (a3 : Int32) (a4 : Int32) (a5 : Int32) (M : pv_M) : Option (Int32 × pv_M) := pv_cap (f_X4_isSheet a1 M) (fun x1 => (if x1 = 0 then some ((-2), M) else pv_cap (f_X4_isSheet a3 M) (fun x2 => (if x2 = 0 then some ((-2), M) else pv_cap (f_X4_isLost a1 M) (fun x3 => pv_jn (pv_cal (f_X8_find 1 M) (fun x4 M1 => some (x4, M1))) (fun j1 => (if x3 = 0 then pv_cap (f_X4_isLost a3 M) (fun x5 => (if x5 = 0 then pv_ldI pv_T 189 a1 M (fun x6 => pv_ldI pv_T 189 a3 M (fun x7 => (if x6 = x7 then pv_cap (f_X4_hasItems a1 a2 a5 M) (fun x8 => pv_jn (pv_cal (f_X8_find 2 M) (fun x9 M2 => some (x9, M2))) (fun j2 => (if x8 = 0 then j2 else pv_cap (f_X4_hasItems a3 a4 a5 M) (fun x10 => (if x10 = 0 then j2 else pv_ldR pv_T 191 a1 (fun k1 => pv_ldR pv_T 191 a3 (fun k2 => pv_ck (pv_cpyb pv_T k1 a2 k2 a4 a5) (pv_nm (pv_cpy M k1 a2 k2 a4 a5) (fun M3 => some (1, M3)))))))))) else pv_cal (f_X8_find 4 M) (fun x11 M4 => some (x11, M4))))) else j1)) else j1)))))))
set_option maxHeartbeats 4000000 in
set_option maxRecDepth 100000 in
theorem k_X8_copy (l : Launch) (κ : pv_K) (a1 : Int32) (a2 : Int32) (a3 : Int32) (a4 : Int32) (a5 : Int32) (M : pv_M) : pv_Mt l yX8_copy cX8_copy 6 (some .int) 2 κ [.ref (κ.1 + 0), .int a1, .int a2, .int a3, .int a4, .int a5] M pv_ji (f_X8_copy a1 a2 a3 a4 a5 M) := by
  refine pv_enter (by decide +kernel) (Nat.le_of_ble_eq_true rfl) (fun g hl hR C => ?_)
  have C : pv_Ok g κ 6 cX8_copy RX8 (some .int) := C
  show pv_R g κ pv_T pv_RF 6 0 0 (pv_QF g κ pv_ji) 0 [(0, .ref (κ.1 + 0)), (1, .int a1), (2, .int a2), (3, .int a3), (4, .int a4), (5, .int a5)] [] M (f_X8_copy a1 a2 a3 a4 a5 M)
  unfold f_X8_copy
  refine rw_iload_n C dX8_copy_0 rfl 1 rfl ?_
  refine rw_callSPi (As := [.int a1]) C hR dX8_copy_1 cs_X8_276 (k_X4_isSheet g.2.1 κ a1 M) (by decide) (by decide) rfl (Nat.le_of_ble_eq_true rfl) rfl (fun x1 => ?_)
  refine rw_if_eq (tgt := 14) C dX8_copy_4 (by decide) ?_ ?_
  · refine rw_bipush (c := (-2)) C dX8_copy_14 (by decide) ?_
    exact rw_iret C dX8_copy_16
  · refine rw_iload_n C dX8_copy_7 rfl 3 rfl ?_
    refine rw_callSPi (As := [.int a3]) C hR dX8_copy_8 cs_X8_276 (k_X4_isSheet g.2.1 κ a3 M) (by decide) (by decide) rfl (Nat.le_of_ble_eq_true rfl) rfl (fun x2 => ?_)
    refine rw_if_ne (tgt := 17) C dX8_copy_11 (by decide) ?_ ?_
    · refine rw_aload_n C dX8_copy_17 rfl 0 rfl ?_
      refine rw_getR (k0 := 0) (k1 := 188) C dX8_copy_18 fl_X8_92 rfl (by decide) sh_0 (by decide) rfl ?_
      refine rw_iload_n C dX8_copy_21 rfl 1 rfl ?_
      refine rw_callVPi (As := [.int a1]) (k0 := 188) C hR dX8_copy_22 cv_X8_289 (k_X4_isLost g.2.1 κ a1 M) (by decide) (by decide) (by decide) sh_188 rfl rfl (Nat.le_of_ble_eq_true rfl) rfl (fun x3 => ?_)
      refine rw_jn (fun j1 => pv_R g κ pv_T pv_RF 6 0 0 (pv_QF g κ pv_ji) 39 [(0, .ref (κ.1 + 0))] [] M (j1)) (?_) (fun j1 hj1 => ?_)
      · refine rw_aload_n C dX8_copy_39 rfl 0 rfl ?_
        refine rw_iconst (c := 1) C dX8_copy_40 ci_1 ?_
        refine rw_callVi (As := [.int 1]) (k0 := 0) C hR dX8_copy_41 cv_X8_282 (k_X8_find g.2.1 κ 1 M) (by decide) (by decide) (by decide) sh_0 rfl rfl (Nat.le_of_ble_eq_true rfl) rfl (fun x4 M1 => ?_)
        exact rw_iret C dX8_copy_44
      · refine rw_if_ne (tgt := 39) C dX8_copy_25 (by decide) ?_ ?_
        · exact rw_lv [0] rfl (hj1 )
        · refine rw_aload_n C dX8_copy_28 rfl 0 rfl ?_
          refine rw_getR (k0 := 0) (k1 := 188) C dX8_copy_29 fl_X8_92 rfl (by decide) sh_0 (by decide) rfl ?_
          refine rw_iload_n C dX8_copy_32 rfl 3 rfl ?_
          refine rw_callVPi (As := [.int a3]) (k0 := 188) C hR dX8_copy_33 cv_X8_289 (k_X4_isLost g.2.1 κ a3 M) (by decide) (by decide) (by decide) sh_188 rfl rfl (Nat.le_of_ble_eq_true rfl) rfl (fun x5 => ?_)
          refine rw_if_eq (tgt := 45) C dX8_copy_36 (by decide) ?_ ?_
          · refine rw_aload_n C dX8_copy_45 rfl 0 rfl ?_
            refine rw_getR (k0 := 0) (k1 := 188) C dX8_copy_46 fl_X8_92 rfl (by decide) sh_0 (by decide) rfl ?_
            refine rw_getR (k0 := 188) (k1 := 189) C dX8_copy_49 fl_X8_308 rfl (by decide) sh_188 (by decide) rfl ?_
            refine rw_iload_n C dX8_copy_52 rfl 1 rfl ?_
            refine rw_ldI C dX8_copy_53 (fun x6 => ?_)
            refine rw_aload_n C dX8_copy_54 rfl 0 rfl ?_
            refine rw_getR (k0 := 0) (k1 := 188) C dX8_copy_55 fl_X8_92 rfl (by decide) sh_0 (by decide) rfl ?_
            refine rw_getR (k0 := 188) (k1 := 189) C dX8_copy_58 fl_X8_308 rfl (by decide) sh_188 (by decide) rfl ?_
            refine rw_iload_n C dX8_copy_61 rfl 3 rfl ?_
            refine rw_ldI C dX8_copy_62 (fun x7 => ?_)
            refine rw_icmp_eq (tgt := 72) C dX8_copy_63 (by decide) ?_ ?_
            · refine rw_aload_n C dX8_copy_72 rfl 0 rfl ?_
              refine rw_getR (k0 := 0) (k1 := 188) C dX8_copy_73 fl_X8_92 rfl (by decide) sh_0 (by decide) rfl ?_
              refine rw_iload_n C dX8_copy_76 rfl 1 rfl ?_
              refine rw_iload_n C dX8_copy_77 rfl 2 rfl ?_
              refine rw_iload C dX8_copy_78 5 rfl ?_
              refine rw_callVPi (As := [.int a1, .int a2, .int a5]) (k0 := 188) C hR dX8_copy_80 cv_X8_311 (k_X4_hasItems g.2.1 κ a1 a2 a5 M) (by decide) (by decide) (by decide) sh_188 rfl rfl (Nat.le_of_ble_eq_true rfl) rfl (fun x8 => ?_)
              refine rw_jn (fun j2 => pv_R g κ pv_T pv_RF 6 0 0 (pv_QF g κ pv_ji) 101 [(0, .ref (κ.1 + 0))] [] M (j2)) (?_) (fun j2 hj2 => ?_)
              · refine rw_aload_n C dX8_copy_101 rfl 0 rfl ?_
                refine rw_iconst (c := 2) C dX8_copy_102 ci_2 ?_
                refine rw_callVi (As := [.int 2]) (k0 := 0) C hR dX8_copy_103 cv_X8_282 (k_X8_find g.2.1 κ 2 M) (by decide) (by decide) (by decide) sh_0 rfl rfl (Nat.le_of_ble_eq_true rfl) rfl (fun x9 M2 => ?_)
                exact rw_iret C dX8_copy_106
              · refine rw_if_eq (tgt := 101) C dX8_copy_83 (by decide) ?_ ?_
                · exact rw_lv [0] rfl (hj2 )
                · refine rw_aload_n C dX8_copy_86 rfl 0 rfl ?_
                  refine rw_getR (k0 := 0) (k1 := 188) C dX8_copy_87 fl_X8_92 rfl (by decide) sh_0 (by decide) rfl ?_
                  refine rw_iload_n C dX8_copy_90 rfl 3 rfl ?_
                  refine rw_iload C dX8_copy_91 4 rfl ?_
                  refine rw_iload C dX8_copy_93 5 rfl ?_
                  refine rw_callVPi (As := [.int a3, .int a4, .int a5]) (k0 := 188) C hR dX8_copy_95 cv_X8_311 (k_X4_hasItems g.2.1 κ a3 a4 a5 M) (by decide) (by decide) (by decide) sh_188 rfl rfl (Nat.le_of_ble_eq_true rfl) rfl (fun x10 => ?_)
                  refine rw_if_ne (tgt := 107) C dX8_copy_98 (by decide) ?_ ?_
                  · refine rw_aload_n C dX8_copy_107 rfl 0 rfl ?_
                    refine rw_getR (k0 := 0) (k1 := 188) C dX8_copy_108 fl_X8_92 rfl (by decide) sh_0 (by decide) rfl ?_
                    refine rw_getR (k0 := 188) (k1 := 191) C dX8_copy_111 fl_X8_305 rfl (by decide) sh_188 (by decide) rfl ?_
                    refine rw_iload_n C dX8_copy_114 rfl 1 rfl ?_
                    refine rw_ldR C dX8_copy_115 (fun k1 => ?_)
                    refine rw_iload_n C dX8_copy_116 rfl 2 rfl ?_
                    refine rw_aload_n C dX8_copy_117 rfl 0 rfl ?_
                    refine rw_getR (k0 := 0) (k1 := 188) C dX8_copy_118 fl_X8_92 rfl (by decide) sh_0 (by decide) rfl ?_
                    refine rw_getR (k0 := 188) (k1 := 191) C dX8_copy_121 fl_X8_305 rfl (by decide) sh_188 (by decide) rfl ?_
                    refine rw_iload_n C dX8_copy_124 rfl 3 rfl ?_
                    refine rw_ldR C dX8_copy_125 (fun k2 => ?_)
                    refine rw_iload C dX8_copy_126 4 rfl ?_
                    refine rw_iload C dX8_copy_128 5 rfl ?_
                    refine rw_copy C hR dX8_copy_130 ⟨mw_596, mw_336, mw_337, mw_338⟩ (by decide) (Nat.le_of_ble_eq_true rfl) (fun M3 => ?_)
                    refine rw_iconst (c := 1) C dX8_copy_133 ci_1 ?_
                    exact rw_iret C dX8_copy_134
                  · exact rw_lv [0] rfl (hj2 )
            · refine rw_aload_n C dX8_copy_66 rfl 0 rfl ?_
              refine rw_iconst (c := 4) C dX8_copy_67 ci_4 ?_
              refine rw_callVi (As := [.int 4]) (k0 := 0) C hR dX8_copy_68 cv_X8_282 (k_X8_find g.2.1 κ 4 M) (by decide) (by decide) (by decide) sh_0 rfl rfl (Nat.le_of_ble_eq_true rfl) rfl (fun x11 M4 => ?_)
              exact rw_iret C dX8_copy_71
          · exact rw_lv [0] rfl (hj1 )
    · refine rw_bipush (c := (-2)) C dX8_copy_14 (by decide) ?_
      exact rw_iret C dX8_copy_16
def f_X8_read_L44 (x4 : Int32) (a1 : Int32) (rec1 : Int32 → pv_M → Option (Int32 × pv_M)) (x5 : Int32) (M1 : pv_M) : Option (Int32 × pv_M) := (if x4 ≤ x5 then some (x4, M1) else pv_ldR pv_T 191 a1 (fun k1 => pv_ldI pv_T k1 x5 M1 (fun x6 => pv_cap (f_X8_isWithin x6 0 999 M1) (fun x7 => (if x7 = 0 then some (x5, M1) else pv_stI pv_T 37 x5 x6 M1 (fun M2 => rec1 (x5 + 1) M2))))))
def f_X8_read (a1 : Int32) (M : pv_M) : Option (Int32 × pv_M) := pv_cap (f_X4_isSheet a1 M) (fun x1 => (if x1 = 0 then some ((-2), M) else pv_cap (f_X4_isLost a1 M) (fun x2 => (if x2 = 0 then pv_ldI pv_T 190 a1 M (fun x3 => pv_nm (if 8 < x3 then 8 else x3) (fun x4 => pv_lp2 (f_X8_read_L44 x4 a1) pv_FU 0 M)) else pv_cal (f_X8_find 1 M) (fun x8 M3 => some (x8, M3))))))
set_option maxHeartbeats 4000000 in
set_option maxRecDepth 100000 in
theorem k_X8_read (l : Launch) (κ : pv_K) (a1 : Int32) (M : pv_M) : pv_Mt l yX8_read cX8_read 5 (some .int) 2 κ [.ref (κ.1 + 0), .int a1] M pv_ji (f_X8_read a1 M) := by
  refine pv_enter (by decide +kernel) (Nat.le_of_ble_eq_true rfl) (fun g hl hR C => ?_)
  have C : pv_Ok g κ 5 cX8_read RX8 (some .int) := C
  show pv_R g κ pv_T pv_RF 5 0 0 (pv_QF g κ pv_ji) 0 [(0, .ref (κ.1 + 0)), (1, .int a1)] [] M (f_X8_read a1 M)
  unfold f_X8_read
  refine rw_iload_n C dX8_read_0 rfl 1 rfl ?_
  refine rw_callSPi (As := [.int a1]) C hR dX8_read_1 cs_X8_276 (k_X4_isSheet g.2.1 κ a1 M) (by decide) (by decide) rfl (Nat.le_of_ble_eq_true rfl) rfl (fun x1 => ?_)
  refine rw_if_ne (tgt := 10) C dX8_read_4 (by decide) ?_ ?_
  · refine rw_aload_n C dX8_read_10 rfl 0 rfl ?_
    refine rw_getR (k0 := 0) (k1 := 188) C dX8_read_11 fl_X8_92 rfl (by decide) sh_0 (by decide) rfl ?_
    refine rw_iload_n C dX8_read_14 rfl 1 rfl ?_
    refine rw_callVPi (As := [.int a1]) (k0 := 188) C hR dX8_read_15 cv_X8_289 (k_X4_isLost g.2.1 κ a1 M) (by decide) (by decide) (by decide) sh_188 rfl rfl (Nat.le_of_ble_eq_true rfl) rfl (fun x2 => ?_)
    refine rw_if_eq (tgt := 27) C dX8_read_18 (by decide) ?_ ?_
    · refine rw_aload_n C dX8_read_27 rfl 0 rfl ?_
      refine rw_getR (k0 := 0) (k1 := 188) C dX8_read_28 fl_X8_92 rfl (by decide) sh_0 (by decide) rfl ?_
      refine rw_getR (k0 := 188) (k1 := 190) C dX8_read_31 fl_X8_292 rfl (by decide) sh_188 (by decide) rfl ?_
      refine rw_iload_n C dX8_read_34 rfl 1 rfl ?_
      refine rw_ldI C dX8_read_35 (fun x3 => ?_)
      refine rw_bipush (c := 8) C dX8_read_36 (by decide) ?_
      refine rw_min C hR dX8_read_38 ⟨mw_1075, mw_1076, mw_381, mw_1077⟩ (by decide) (Nat.le_of_ble_eq_true rfl) ⟨rfl, rfl⟩ ?_
      refine rw_nm (fun x4 => ?_)
      refine rw_istore_n (lv' := [(2, .int x4), (0, .ref (κ.1 + 0)), (1, .int a1)]) C dX8_read_41 rfl (by decide) rfl ?_
      refine rw_iconst (c := 0) C dX8_read_42 ci_0 ?_
      refine rw_istore_n (lv' := [(3, .int 0), (2, .int x4), (0, .ref (κ.1 + 0)), (1, .int a1)]) C dX8_read_43 rfl (by decide) rfl ?_
      refine rw_lv (lv' := [(0, .ref (κ.1 + 0)), (1, .int a1), (2, .int x4), (3, .int 0)]) [2, 3, 1, 0] rfl ?_
      refine pv_lp2_ind (fun x5 M1 xx => pv_R g κ pv_T pv_RF 5 0 0 (pv_QF g κ pv_ji) 44 [(0, .ref (κ.1 + 0)), (1, .int a1), (2, .int x4), (3, .int x5)] [] M1 xx) (fun _ _ => rw_none) (fun rec1 hrec1 x5 M1 => ?_) _ _ _
      unfold f_X8_read_L44
      refine rw_iload_n C dX8_read_44 rfl 3 rfl ?_
      refine rw_iload_n C dX8_read_45 rfl 2 rfl ?_
      refine rw_icmp_ge (tgt := 90) C dX8_read_46 (by decide) ?_ ?_
      · refine rw_iload_n C dX8_read_90 rfl 2 rfl ?_
        exact rw_iret C dX8_read_91
      · refine rw_aload_n C dX8_read_49 rfl 0 rfl ?_
        refine rw_getR (k0 := 0) (k1 := 188) C dX8_read_50 fl_X8_92 rfl (by decide) sh_0 (by decide) rfl ?_
        refine rw_getR (k0 := 188) (k1 := 191) C dX8_read_53 fl_X8_305 rfl (by decide) sh_188 (by decide) rfl ?_
        refine rw_iload_n C dX8_read_56 rfl 1 rfl ?_
        refine rw_ldR C dX8_read_57 (fun k1 => ?_)
        refine rw_iload_n C dX8_read_58 rfl 3 rfl ?_
        refine rw_ldI C dX8_read_59 (fun x6 => ?_)
        refine rw_istore (lv' := [(4, .int x6), (0, .ref (κ.1 + 0)), (1, .int a1), (2, .int x4), (3, .int x5)]) C dX8_read_60 (by decide) rfl ?_
        refine rw_iload C dX8_read_62 0 rfl ?_
        refine rw_iconst (c := 0) C dX8_read_64 ci_0 ?_
        refine rw_sipush (c := 999) C dX8_read_65 (by decide) ?_
        refine rw_callSPi (As := [.int x6, .int 0, .int 999]) C hR dX8_read_68 cs_X8_120 (k_X8_isWithin g.2.1 κ x6 0 999 M1) (by decide) (by decide) rfl (Nat.le_of_ble_eq_true rfl) rfl (fun x7 => ?_)
        refine rw_if_ne (tgt := 76) C dX8_read_71 (by decide) ?_ ?_
        · refine rw_aload_n C dX8_read_76 rfl 1 rfl ?_
          refine rw_getR (k0 := 0) (k1 := 37) C dX8_read_77 fl_X8_39 rfl (by decide) sh_0 (by decide) rfl ?_
          refine rw_iload_n C dX8_read_80 rfl 4 rfl ?_
          refine rw_iload C dX8_read_81 0 rfl ?_
          refine rw_stI C dX8_read_83 (fun M2 => ?_)
          refine rw_iinc (c := 1) (lv' := [(3, .int (x5 + 1)), (4, .int x6), (0, .ref (κ.1 + 0)), (1, .int a1), (2, .int x4)]) C dX8_read_84 4 rfl (by decide) (by decide) rfl ?_
          refine rw_goto (tgt := 44) C dX8_read_87 (by decide) ?_
          exact rw_lv [2, 3, 4, 0] rfl (hrec1 (x5 + 1) M2)
        · refine rw_iload_n C dX8_read_74 rfl 4 rfl ?_
          exact rw_iret C dX8_read_75
    · refine rw_aload_n C dX8_read_21 rfl 0 rfl ?_
      refine rw_iconst (c := 1) C dX8_read_22 ci_1 ?_
      refine rw_callVi (As := [.int 1]) (k0 := 0) C hR dX8_read_23 cv_X8_282 (k_X8_find g.2.1 κ 1 M) (by decide) (by decide) (by decide) sh_0 rfl rfl (Nat.le_of_ble_eq_true rfl) rfl (fun x8 M3 => ?_)
      exact rw_iret C dX8_read_26
  · refine rw_bipush (c := (-2)) C dX8_read_7 (by decide) ?_
    exact rw_iret C dX8_read_9
def f_X8_write_L56 (x5 : Int32) (a1 : Int32) (a2 : Int32) (rec1 : Int32 → pv_M → Option (Int32 × pv_M)) (x6 : Int32) (M2 : pv_M) : Option (Int32 × pv_M) := (if x5 ≤ x6 then some (x5, M2) else pv_cap (f_X8_moneyBehind x6 a1 M2) (fun x7 => pv_cal (f_X4_store a2 x6 x7 M2) (fun u2 M3 => rec1 (x6 + 1) M3)))
def f_X8_write (a1 : Int32) (a2 : Int32) (M : pv_M) : Option (Int32 × pv_M) := pv_cap (f_X8_isYear a1 M) (fun x1 => (if x1 = 0 then some ((-2), M) else pv_cap (f_X4_isSheet a2 M) (fun x2 => (if x2 = 0 then some ((-2), M) else pv_cap (f_X4_isLost a2 M) (fun x3 => (if x3 = 0 then pv_cal (f_X8_settle M) (fun u1 M1 => pv_ldI pv_T 190 a2 M1 (fun x4 => pv_nm (if 8 < x4 then 8 else x4) (fun x5 => pv_lp2 (f_X8_write_L56 x5 a1 a2) pv_FU 0 M1))) else pv_cal (f_X8_find 1 M) (fun x8 M4 => some (x8, M4))))))))
set_option maxHeartbeats 4000000 in
set_option maxRecDepth 100000 in
theorem k_X8_write (l : Launch) (κ : pv_K) (a1 : Int32) (a2 : Int32) (M : pv_M) : pv_Mt l yX8_write cX8_write 5 (some .int) 5 κ [.ref (κ.1 + 0), .int a1, .int a2] M pv_ji (f_X8_write a1 a2 M) := by
  refine pv_enter (by decide +kernel) (Nat.le_of_ble_eq_true rfl) (fun g hl hR C => ?_)
  have C : pv_Ok g κ 5 cX8_write RX8 (some .int) := C
  show pv_R g κ pv_T pv_RF 5 0 0 (pv_QF g κ pv_ji) 0 [(0, .ref (κ.1 + 0)), (1, .int a1), (2, .int a2)] [] M (f_X8_write a1 a2 M)
  unfold f_X8_write
  refine rw_iload_n C dX8_write_0 rfl 1 rfl ?_
  refine rw_callSPi (As := [.int a1]) C hR dX8_write_1 cs_X8_146 (k_X8_isYear g.2.1 κ a1 M) (by decide) (by decide) rfl (Nat.le_of_ble_eq_true rfl) rfl (fun x1 => ?_)
  refine rw_if_eq (tgt := 14) C dX8_write_4 (by decide) ?_ ?_
  · refine rw_bipush (c := (-2)) C dX8_write_14 (by decide) ?_
    exact rw_iret C dX8_write_16
  · refine rw_iload_n C dX8_write_7 rfl 2 rfl ?_
    refine rw_callSPi (As := [.int a2]) C hR dX8_write_8 cs_X8_276 (k_X4_isSheet g.2.1 κ a2 M) (by decide) (by decide) rfl (Nat.le_of_ble_eq_true rfl) rfl (fun x2 => ?_)
    refine rw_if_ne (tgt := 17) C dX8_write_11 (by decide) ?_ ?_
    · refine rw_aload_n C dX8_write_17 rfl 0 rfl ?_
      refine rw_getR (k0 := 0) (k1 := 188) C dX8_write_18 fl_X8_92 rfl (by decide) sh_0 (by decide) rfl ?_
      refine rw_iload_n C dX8_write_21 rfl 2 rfl ?_
      refine rw_callVPi (As := [.int a2]) (k0 := 188) C hR dX8_write_22 cv_X8_289 (k_X4_isLost g.2.1 κ a2 M) (by decide) (by decide) (by decide) sh_188 rfl rfl (Nat.le_of_ble_eq_true rfl) rfl (fun x3 => ?_)
      refine rw_if_eq (tgt := 34) C dX8_write_25 (by decide) ?_ ?_
      · refine rw_aload_n C dX8_write_34 rfl 0 rfl ?_
        refine rw_callVu (As := []) (k0 := 0) C hR dX8_write_35 cv_X8_143 (k_X8_settle g.2.1 κ M) (by decide) (by decide) (by decide) sh_0 rfl rfl (Nat.le_of_ble_eq_true rfl) rfl (fun u1 M1 => ?_)
        refine rw_aload_n C dX8_write_38 rfl 0 rfl ?_
        refine rw_getR (k0 := 0) (k1 := 188) C dX8_write_39 fl_X8_92 rfl (by decide) sh_0 (by decide) rfl ?_
        refine rw_getR (k0 := 188) (k1 := 190) C dX8_write_42 fl_X8_292 rfl (by decide) sh_188 (by decide) rfl ?_
        refine rw_iload_n C dX8_write_45 rfl 2 rfl ?_
        refine rw_ldI C dX8_write_46 (fun x4 => ?_)
        refine rw_bipush (c := 8) C dX8_write_47 (by decide) ?_
        refine rw_min C hR dX8_write_49 ⟨mw_1075, mw_1076, mw_381, mw_1077⟩ (by decide) (Nat.le_of_ble_eq_true rfl) ⟨rfl, rfl⟩ ?_
        refine rw_nm (fun x5 => ?_)
        refine rw_istore_n (lv' := [(3, .int x5), (0, .ref (κ.1 + 0)), (1, .int a1), (2, .int a2)]) C dX8_write_52 rfl (by decide) rfl ?_
        refine rw_iconst (c := 0) C dX8_write_53 ci_0 ?_
        refine rw_istore (lv' := [(4, .int 0), (3, .int x5), (0, .ref (κ.1 + 0)), (1, .int a1), (2, .int a2)]) C dX8_write_54 (by decide) rfl ?_
        refine rw_lv (lv' := [(0, .ref (κ.1 + 0)), (1, .int a1), (2, .int a2), (3, .int x5), (4, .int 0)]) [2, 3, 4, 1, 0] rfl ?_
        refine pv_lp2_ind (fun x6 M2 xx => pv_R g κ pv_T pv_RF 5 0 0 (pv_QF g κ pv_ji) 56 [(0, .ref (κ.1 + 0)), (1, .int a1), (2, .int a2), (3, .int x5), (4, .int x6)] [] M2 xx) (fun _ _ => rw_none) (fun rec1 hrec1 x6 M2 => ?_) _ _ _
        unfold f_X8_write_L56
        refine rw_iload C dX8_write_56 4 rfl ?_
        refine rw_iload_n C dX8_write_58 rfl 3 rfl ?_
        refine rw_icmp_ge (tgt := 85) C dX8_write_59 (by decide) ?_ ?_
        · refine rw_iload_n C dX8_write_85 rfl 3 rfl ?_
          exact rw_iret C dX8_write_86
        · refine rw_aload_n C dX8_write_62 rfl 0 rfl ?_
          refine rw_getR (k0 := 0) (k1 := 188) C dX8_write_63 fl_X8_92 rfl (by decide) sh_0 (by decide) rfl ?_
          refine rw_iload_n C dX8_write_66 rfl 2 rfl ?_
          refine rw_iload C dX8_write_67 4 rfl ?_
          refine rw_aload_n C dX8_write_69 rfl 0 rfl ?_
          refine rw_iload C dX8_write_70 4 rfl ?_
          refine rw_iload_n C dX8_write_72 rfl 1 rfl ?_
          refine rw_callVPi (As := [.int x6, .int a1]) (k0 := 0) C hR dX8_write_73 cv_X8_201 (k_X8_moneyBehind g.2.1 κ x6 a1 M2) (by decide) (by decide) (by decide) sh_0 rfl rfl (Nat.le_of_ble_eq_true rfl) rfl (fun x7 => ?_)
          refine rw_callVu (As := [.int a2, .int x6, .int x7]) (k0 := 188) C hR dX8_write_76 cv_X8_301 (k_X4_store g.2.1 κ a2 x6 x7 M2) (by decide) (by decide) (by decide) sh_188 rfl rfl (Nat.le_of_ble_eq_true rfl) rfl (fun u2 M3 => ?_)
          refine rw_iinc (c := 1) (lv' := [(4, .int (x6 + 1)), (0, .ref (κ.1 + 0)), (1, .int a1), (2, .int a2), (3, .int x5)]) C dX8_write_79 4 rfl (by decide) (by decide) rfl ?_
          refine rw_goto (tgt := 56) C dX8_write_82 (by decide) ?_
          exact rw_lv [1, 2, 3, 4, 0] rfl (hrec1 (x6 + 1) M3)
      · refine rw_aload_n C dX8_write_28 rfl 0 rfl ?_
        refine rw_iconst (c := 1) C dX8_write_29 ci_1 ?_
        refine rw_callVi (As := [.int 1]) (k0 := 0) C hR dX8_write_30 cv_X8_282 (k_X8_find g.2.1 κ 1 M) (by decide) (by decide) (by decide) sh_0 rfl rfl (Nat.le_of_ble_eq_true rfl) rfl (fun x8 M4 => ?_)
        exact rw_iret C dX8_write_33
    · refine rw_bipush (c := (-2)) C dX8_write_14 (by decide) ?_
      exact rw_iret C dX8_write_16
def f_X8_count (a1 : Int32) (M : pv_M) : Option Int32 := pv_sw 9 a1 (fun i => if i = 0 then pv_cap (f_X5_items 1 M) (fun x1 => some x1) else if i = 1 then pv_cap (f_X5_items 3 M) (fun x2 => some x2) else if i = 2 then pv_cap (f_X5_items 5 M) (fun x3 => some x3) else if i = 3 then pv_nm (M.1 7 1) (fun x4 => some x4) else if i = 4 then pv_nm (M.1 19 1) (fun x5 => some x5) else if i = 5 then pv_nm (M.1 29 1) (fun x6 => some x6) else if i = 6 then pv_nm (M.1 0 16) (fun x7 => some x7) else if i = 7 then pv_nm (M.1 0 17) (fun x8 => some x8) else if i = 8 then pv_nm (M.1 0 18) (fun x9 => some x9) else some ((-2)))
set_option maxHeartbeats 4000000 in
set_option maxRecDepth 100000 in
theorem k_X8_count (l : Launch) (κ : pv_K) (a1 : Int32) (M : pv_M) : pv_MtP l yX8_count cX8_count 2 (some .int) 3 κ [.ref (κ.1 + 0), .int a1] M pv_ji (f_X8_count a1 M) := by
  refine pv_enterP (by decide +kernel) (Nat.le_of_ble_eq_true rfl) (fun g hl hR C => ?_)
  have C : pv_Ok g κ 2 cX8_count RX8 (some .int) := C
  show pv_R g κ pv_T pv_RF 2 0 0 (pv_QP g κ pv_ji M) 0 [(0, .ref (κ.1 + 0)), (1, .int a1)] [] M (f_X8_count a1 M)
  unfold f_X8_count
  refine rw_iload_n C dX8_count_0 rfl 1 rfl ?_
  refine rw_sw (fun i => ([52, 60, 68, 76, 84, 92, 100, 105, 110] : List Nat).getD i 0) 115 C dX8_count_1 rfl (by decide) ⟨rfl, by decide⟩ (by decide) (fun i hi => ?_) ?_
  · rcases (show i = 0 ∨ i = 1 ∨ i = 2 ∨ i = 3 ∨ i = 4 ∨ i = 5 ∨ i = 6 ∨ i = 7 ∨ i = 8 by omega) with rfl | rfl | rfl | rfl | rfl | rfl | rfl | rfl | rfl
    · show pv_R g κ pv_T pv_RF 2 0 0 (pv_QP g κ pv_ji M) 52 [(0, .ref (κ.1 + 0)), (1, .int a1)] [] M (pv_cap (f_X5_items 1 M) (fun x1 => some x1))
      refine rw_aload_n C dX8_count_52 rfl 0 rfl ?_
      refine rw_getR (k0 := 0) (k1 := 1) C dX8_count_53 fl_X8_14 rfl (by decide) sh_0 (by decide) rfl ?_
      refine rw_callVPi (As := []) (k0 := 1) C hR dX8_count_56 cv_X8_323 (k_X5_items g.2.1 κ 1 M) (by decide) (by decide) (by decide) sh_1 rfl rfl (Nat.le_of_ble_eq_true rfl) rfl (fun x1 => ?_)
      exact rw_iretP C dX8_count_59
    · show pv_R g κ pv_T pv_RF 2 0 0 (pv_QP g κ pv_ji M) 60 [(0, .ref (κ.1 + 0)), (1, .int a1)] [] M (pv_cap (f_X5_items 3 M) (fun x2 => some x2))
      refine rw_aload_n C dX8_count_60 rfl 0 rfl ?_
      refine rw_getR (k0 := 0) (k1 := 3) C dX8_count_61 fl_X8_18 rfl (by decide) sh_0 (by decide) rfl ?_
      refine rw_callVPi (As := []) (k0 := 3) C hR dX8_count_64 cv_X8_323 (k_X5_items g.2.1 κ 3 M) (by decide) (by decide) (by decide) sh_3 rfl rfl (Nat.le_of_ble_eq_true rfl) rfl (fun x2 => ?_)
      exact rw_iretP C dX8_count_67
    · show pv_R g κ pv_T pv_RF 2 0 0 (pv_QP g κ pv_ji M) 68 [(0, .ref (κ.1 + 0)), (1, .int a1)] [] M (pv_cap (f_X5_items 5 M) (fun x3 => some x3))
      refine rw_aload_n C dX8_count_68 rfl 0 rfl ?_
      refine rw_getR (k0 := 0) (k1 := 5) C dX8_count_69 fl_X8_23 rfl (by decide) sh_0 (by decide) rfl ?_
      refine rw_callVPi (As := []) (k0 := 5) C hR dX8_count_72 cv_X8_323 (k_X5_items g.2.1 κ 5 M) (by decide) (by decide) (by decide) sh_5 rfl rfl (Nat.le_of_ble_eq_true rfl) rfl (fun x3 => ?_)
      exact rw_iretP C dX8_count_75
    · show pv_R g κ pv_T pv_RF 2 0 0 (pv_QP g κ pv_ji M) 76 [(0, .ref (κ.1 + 0)), (1, .int a1)] [] M (pv_nm (M.1 7 1) (fun x4 => some x4))
      refine rw_aload_n C dX8_count_76 rfl 0 rfl ?_
      refine rw_getR (k0 := 0) (k1 := 7) C dX8_count_77 fl_X8_29 rfl (by decide) sh_0 (by decide) rfl ?_
      refine rw_getI (k0 := 7) C dX8_count_80 fl_X8_182 rfl (by decide) sh_7 (by decide) (fun x4 => ?_)
      exact rw_iretP C dX8_count_83
    · show pv_R g κ pv_T pv_RF 2 0 0 (pv_QP g κ pv_ji M) 84 [(0, .ref (κ.1 + 0)), (1, .int a1)] [] M (pv_nm (M.1 19 1) (fun x5 => some x5))
      refine rw_aload_n C dX8_count_84 rfl 0 rfl ?_
      refine rw_getR (k0 := 0) (k1 := 19) C dX8_count_85 fl_X8_33 rfl (by decide) sh_0 (by decide) rfl ?_
      refine rw_getI (k0 := 19) C dX8_count_88 fl_X8_182 rfl (by decide) sh_19 (by decide) (fun x5 => ?_)
      exact rw_iretP C dX8_count_91
    · show pv_R g κ pv_T pv_RF 2 0 0 (pv_QP g κ pv_ji M) 92 [(0, .ref (κ.1 + 0)), (1, .int a1)] [] M (pv_nm (M.1 29 1) (fun x6 => some x6))
      refine rw_aload_n C dX8_count_92 rfl 0 rfl ?_
      refine rw_getR (k0 := 0) (k1 := 29) C dX8_count_93 fl_X8_36 rfl (by decide) sh_0 (by decide) rfl ?_
      refine rw_getI (k0 := 29) C dX8_count_96 fl_X8_182 rfl (by decide) sh_29 (by decide) (fun x6 => ?_)
      exact rw_iretP C dX8_count_99
    · show pv_R g κ pv_T pv_RF 2 0 0 (pv_QP g κ pv_ji M) 100 [(0, .ref (κ.1 + 0)), (1, .int a1)] [] M (pv_nm (M.1 0 16) (fun x7 => some x7))
      refine rw_aload_n C dX8_count_100 rfl 0 rfl ?_
      refine rw_getI (k0 := 0) C dX8_count_101 fl_X8_96 rfl (by decide) sh_0 (by decide) (fun x7 => ?_)
      exact rw_iretP C dX8_count_104
    · show pv_R g κ pv_T pv_RF 2 0 0 (pv_QP g κ pv_ji M) 105 [(0, .ref (κ.1 + 0)), (1, .int a1)] [] M (pv_nm (M.1 0 17) (fun x8 => some x8))
      refine rw_aload_n C dX8_count_105 rfl 0 rfl ?_
      refine rw_getI (k0 := 0) C dX8_count_106 fl_X8_100 rfl (by decide) sh_0 (by decide) (fun x8 => ?_)
      exact rw_iretP C dX8_count_109
    · show pv_R g κ pv_T pv_RF 2 0 0 (pv_QP g κ pv_ji M) 110 [(0, .ref (κ.1 + 0)), (1, .int a1)] [] M (pv_nm (M.1 0 18) (fun x9 => some x9))
      refine rw_aload_n C dX8_count_110 rfl 0 rfl ?_
      refine rw_getI (k0 := 0) C dX8_count_111 fl_X8_103 rfl (by decide) sh_0 (by decide) (fun x9 => ?_)
      exact rw_iretP C dX8_count_114
  · show pv_R g κ pv_T pv_RF 2 0 0 (pv_QP g κ pv_ji M) 115 [(0, .ref (κ.1 + 0)), (1, .int a1)] [] M (some ((-2)))
    refine rw_bipush (c := (-2)) C dX8_count_115 (by decide) ?_
    exact rw_iretP C dX8_count_117
def f_X8_mix (a1 : Int64) (a2 : Int64) (M : pv_M) : Option Int64 := some ((31 * a1) + a2)
set_option maxHeartbeats 4000000 in
set_option maxRecDepth 100000 in
theorem k_X8_mix (l : Launch) (κ : pv_K) (a1 : Int64) (a2 : Int64) (M : pv_M) : pv_MtP l yX8_mix cX8_mix 4 (some .long) 0 κ [.long a1, .long a2] M pv_jl (f_X8_mix a1 a2 M) := by
  refine pv_enterP (by decide +kernel) (Nat.le_of_ble_eq_true rfl) (fun g hl hR C => ?_)
  have C : pv_Ok g κ 4 cX8_mix RX8 (some .long) := C
  show pv_R g κ pv_T pv_RF 4 0 0 (pv_QP g κ pv_jl M) 0 [(0, .long a1), (2, .long a2)] [] M (f_X8_mix a1 a2 M)
  unfold f_X8_mix
  refine rw_ldc2_w (c := 31) C dX8_mix_0 mw_1109 ?_
  refine rw_lload_n C dX8_mix_3 rfl 0 rfl ?_
  refine rw_lmul C dX8_mix_4 ?_
  refine rw_lload_n C dX8_mix_5 rfl 1 rfl ?_
  refine rw_ladd C dX8_mix_6 ?_
  exact rw_lretP C dX8_mix_7
def f_X8_mixYears_L69 (rec2 : Int64 → Int32 → pv_M → Option (Int64 × pv_M)) (x8 : Int32) (x6 : Int32) (rec3 : Int64 → Int32 → pv_M → Option (Int64 × pv_M)) (x13 : Int64) (x14 : Int32) (M7 : pv_M) : Option (Int64 × pv_M) := pv_nm (M7.1 39 0) (fun x15 => (if x15 ≤ x14 then rec2 x13 (x8 + 1) M7 else pv_cal (f_X8_ticket x6 x14 x8 M7) (fun x16 M8 => pv_cap (f_X8_mix x13 x16.toInt64 M8) (fun x17 => pv_cal (f_X8_votes x6 x8 x14 M8) (fun x18 M9 => pv_cap (f_X8_mix x17 x18.toInt64 M9) (fun x19 => rec3 x19 (x14 + 1) M9))))))
def f_X8_mixYears_L32 (rec1 : Int64 → Int32 → pv_M → Option (Int64 × pv_M)) (x5 : Int32) (x6 : Int32) (rec2 : Int64 → Int32 → pv_M → Option (Int64 × pv_M)) (x7 : Int64) (x8 : Int32) (M4 : pv_M) : Option (Int64 × pv_M) := (if 3 ≤ x8 then rec1 x7 (x5 + 1) M4 else pv_cal (f_X8_elected x6 x8 M4) (fun x9 M5 => pv_cap (f_X8_mix x7 x9.toInt64 M5) (fun x10 => pv_cal (f_X8_great x6 x8 M5) (fun x11 M6 => pv_cap (f_X8_mix x10 x11.toInt64 M6) (fun x12 => pv_lp3 (f_X8_mixYears_L69 rec2 x8 x6) pv_FU x12 0 M6)))))
def f_X8_mixYears_L15 (j1 : Int64 → pv_M → Option (Int64 × pv_M)) (rec1 : Int64 → Int32 → pv_M → Option (Int64 × pv_M)) (x4 : Int64) (x5 : Int32) (M3 : pv_M) : Option (Int64 × pv_M) := (if 3 ≤ x5 then j1 x4 M3 else pv_ck (decide (¬ x5 < 0) && decide (x5.toNatClampNeg < 3)) (pv_nm (pv_dy x5.toNatClampNeg) (fun x6 => pv_lp3 (f_X8_mixYears_L32 rec1 x5 x6) pv_FU x4 0 M3)))
def f_X8_mixYears (a1 : Int64) (M : pv_M) : Option (Int64 × pv_M) := pv_jn (fun (x1 : Int64) (M1 : pv_M) => pv_cal (f_X8_split M1) (fun x2 M2 => pv_cap (f_X8_mix x1 x2.toInt64 M2) (fun x3 => some (x3, M2)))) (fun j1 => pv_lp3 (f_X8_mixYears_L15 j1) pv_FU a1 0 M)
set_option maxHeartbeats 4000000 in
set_option maxRecDepth 100000 in
theorem k_X8_mixYears (l : Launch) (κ : pv_K) (a1 : Int64) (M : pv_M) : pv_Mt l yX8_mixYears cX8_mixYears 11 (some .long) 6 κ [.ref (κ.1 + 0), .long a1] M pv_jl (f_X8_mixYears a1 M) := by
  refine pv_enter (by decide +kernel) (Nat.le_of_ble_eq_true rfl) (fun g hl hR C => ?_)
  have C : pv_Ok g κ 11 cX8_mixYears RX8 (some .long) := C
  show pv_R g κ pv_T pv_RF 11 0 0 (pv_QF g κ pv_jl) 0 [(0, .ref (κ.1 + 0)), (1, .long a1)] [] M (f_X8_mixYears a1 M)
  unfold f_X8_mixYears
  refine rw_lload_n C dX8_mixYears_0 rfl 1 rfl ?_
  refine rw_lstore_n (lv' := [(3, .long a1), (0, .ref (κ.1 + 0)), (1, .long a1)]) C dX8_mixYears_1 rfl (by decide) rfl ?_
  refine rw_gets C dX8_mixYears_2 mw_1115 ?_
  refine rw_astore (lv' := [(5, .ref (pv_tA κ)), (3, .long a1), (0, .ref (κ.1 + 0)), (1, .long a1)]) C dX8_mixYears_5 (by decide) rfl ?_
  refine rw_aload C dX8_mixYears_7 0 rfl ?_
  refine rw_slen C dX8_mixYears_9 ?_
  refine rw_istore (lv' := [(6, .int 3), (5, .ref (pv_tA κ)), (3, .long a1), (0, .ref (κ.1 + 0)), (1, .long a1)]) C dX8_mixYears_10 (by decide) rfl ?_
  refine rw_iconst (c := 0) C dX8_mixYears_12 ci_0 ?_
  refine rw_istore (lv' := [(7, .int 0), (6, .int 3), (5, .ref (pv_tA κ)), (3, .long a1), (0, .ref (κ.1 + 0)), (1, .long a1)]) C dX8_mixYears_13 (by decide) rfl ?_
  refine rw_jn (fun j1 => ∀ (x1 : Int64) (M1 : pv_M), pv_R g κ pv_T pv_RF 11 0 0 (pv_QF g κ pv_jl) 131 [(0, .ref (κ.1 + 0)), (3, .long x1)] [] M1 (j1 x1 M1)) (fun x1 M1 => ?_) (fun j1 hj1 => ?_)
  · refine rw_lload_n C dX8_mixYears_131 rfl 1 rfl ?_
    refine rw_aload_n C dX8_mixYears_132 rfl 0 rfl ?_
    refine rw_callVi (As := []) (k0 := 0) C hR dX8_mixYears_133 cv_X8_371 (k_X8_split g.2.1 κ M1) (by decide) (by decide) (by decide) sh_0 rfl rfl (Nat.le_of_ble_eq_true rfl) rfl (fun x2 M2 => ?_)
    refine rw_i2l C dX8_mixYears_136 ?_
    refine rw_callSPl (As := [.long x1, .long (x2.toInt64)]) C hR dX8_mixYears_137 cs_X8_330 (k_X8_mix g.2.1 κ x1 x2.toInt64 M2) (by decide) (by decide) rfl (Nat.le_of_ble_eq_true rfl) rfl (fun x3 => ?_)
    exact rw_lret C dX8_mixYears_140
  · refine rw_lv (lv' := [(0, .ref (κ.1 + 0)), (3, .long a1), (5, .ref (pv_tA κ)), (6, .int 3), (7, .int 0)]) [4, 3, 2, 1, 0] rfl ?_
    refine pv_lp3_ind (fun x4 x5 M3 xx => pv_R g κ pv_T pv_RF 11 0 0 (pv_QF g κ pv_jl) 15 [(0, .ref (κ.1 + 0)), (3, .long x4), (5, .ref (pv_tA κ)), (6, .int 3), (7, .int x5)] [] M3 xx) (fun _ _ _ => rw_none) (fun rec1 hrec1 x4 x5 M3 => ?_) _ _ _ _
    unfold f_X8_mixYears_L15
    refine rw_iload C dX8_mixYears_15 4 rfl ?_
    refine rw_iload C dX8_mixYears_17 3 rfl ?_
    refine rw_icmp_ge (tgt := 131) C dX8_mixYears_19 (by decide) ?_ ?_
    · exact rw_lv [0, 1] rfl (hj1 x4 M3)
    · refine rw_aload C dX8_mixYears_22 2 rfl ?_
      refine rw_iload C dX8_mixYears_24 4 rfl ?_
      refine rw_sld C dX8_mixYears_26 (fun x6 => ?_)
      refine rw_istore (lv' := [(8, .int x6), (0, .ref (κ.1 + 0)), (3, .long x4), (5, .ref (pv_tA κ)), (6, .int 3), (7, .int x5)]) C dX8_mixYears_27 (by decide) rfl ?_
      refine rw_iconst (c := 0) C dX8_mixYears_29 ci_0 ?_
      refine rw_istore (lv' := [(9, .int 0), (8, .int x6), (0, .ref (κ.1 + 0)), (3, .long x4), (5, .ref (pv_tA κ)), (6, .int 3), (7, .int x5)]) C dX8_mixYears_30 (by decide) rfl ?_
      refine rw_lv (lv' := [(0, .ref (κ.1 + 0)), (3, .long x4), (5, .ref (pv_tA κ)), (6, .int 3), (7, .int x5), (8, .int x6), (9, .int 0)]) [2, 3, 4, 5, 6, 1, 0] rfl ?_
      refine pv_lp3_ind (fun x7 x8 M4 xx => pv_R g κ pv_T pv_RF 11 0 0 (pv_QF g κ pv_jl) 32 [(0, .ref (κ.1 + 0)), (3, .long x7), (5, .ref (pv_tA κ)), (6, .int 3), (7, .int x5), (8, .int x6), (9, .int x8)] [] M4 xx) (fun _ _ _ => rw_none) (fun rec2 hrec2 x7 x8 M4 => ?_) _ _ _ _
      unfold f_X8_mixYears_L32
      refine rw_iload C dX8_mixYears_32 6 rfl ?_
      refine rw_iconst (c := 3) C dX8_mixYears_34 ci_3 ?_
      refine rw_icmp_ge (tgt := 125) C dX8_mixYears_35 (by decide) ?_ ?_
      · refine rw_iinc (c := 1) (lv' := [(7, .int (x5 + 1)), (0, .ref (κ.1 + 0)), (3, .long x7), (5, .ref (pv_tA κ)), (6, .int 3), (8, .int x6), (9, .int x8)]) C dX8_mixYears_125 4 rfl (by decide) (by decide) rfl ?_
        refine rw_goto (tgt := 15) C dX8_mixYears_128 (by decide) ?_
        exact rw_lv [1, 2, 3, 4, 0] rfl (hrec1 x7 (x5 + 1) M4)
      · refine rw_lload_n C dX8_mixYears_38 rfl 1 rfl ?_
        refine rw_aload_n C dX8_mixYears_39 rfl 0 rfl ?_
        refine rw_iload C dX8_mixYears_40 5 rfl ?_
        refine rw_iload C dX8_mixYears_42 6 rfl ?_
        refine rw_callVi (As := [.int x6, .int x8]) (k0 := 0) C hR dX8_mixYears_44 cv_X8_359 (k_X8_elected g.2.1 κ x6 x8 M4) (by decide) (by decide) (by decide) sh_0 rfl rfl (Nat.le_of_ble_eq_true rfl) rfl (fun x9 M5 => ?_)
        refine rw_i2l C dX8_mixYears_47 ?_
        refine rw_callSPl (As := [.long x7, .long (x9.toInt64)]) C hR dX8_mixYears_48 cs_X8_330 (k_X8_mix g.2.1 κ x7 x9.toInt64 M5) (by decide) (by decide) rfl (Nat.le_of_ble_eq_true rfl) rfl (fun x10 => ?_)
        refine rw_lstore_n (lv' := [(3, .long x10), (0, .ref (κ.1 + 0)), (5, .ref (pv_tA κ)), (6, .int 3), (7, .int x5), (8, .int x6), (9, .int x8)]) C dX8_mixYears_51 rfl (by decide) rfl ?_
        refine rw_lload_n C dX8_mixYears_52 rfl 0 rfl ?_
        refine rw_aload_n C dX8_mixYears_53 rfl 1 rfl ?_
        refine rw_iload C dX8_mixYears_54 5 rfl ?_
        refine rw_iload C dX8_mixYears_56 6 rfl ?_
        refine rw_callVi (As := [.int x6, .int x8]) (k0 := 0) C hR dX8_mixYears_58 cv_X8_362 (k_X8_great g.2.1 κ x6 x8 M5) (by decide) (by decide) (by decide) sh_0 rfl rfl (Nat.le_of_ble_eq_true rfl) rfl (fun x11 M6 => ?_)
        refine rw_i2l C dX8_mixYears_61 ?_
        refine rw_callSPl (As := [.long x10, .long (x11.toInt64)]) C hR dX8_mixYears_62 cs_X8_330 (k_X8_mix g.2.1 κ x10 x11.toInt64 M6) (by decide) (by decide) rfl (Nat.le_of_ble_eq_true rfl) rfl (fun x12 => ?_)
        refine rw_lstore_n (lv' := [(3, .long x12), (0, .ref (κ.1 + 0)), (5, .ref (pv_tA κ)), (6, .int 3), (7, .int x5), (8, .int x6), (9, .int x8)]) C dX8_mixYears_65 rfl (by decide) rfl ?_
        refine rw_iconst (c := 0) C dX8_mixYears_66 ci_0 ?_
        refine rw_istore (lv' := [(10, .int 0), (3, .long x12), (0, .ref (κ.1 + 0)), (5, .ref (pv_tA κ)), (6, .int 3), (7, .int x5), (8, .int x6), (9, .int x8)]) C dX8_mixYears_67 (by decide) rfl ?_
        refine rw_lv (lv' := [(0, .ref (κ.1 + 0)), (3, .long x12), (5, .ref (pv_tA κ)), (6, .int 3), (7, .int x5), (8, .int x6), (9, .int x8), (10, .int 0)]) [2, 1, 3, 4, 5, 6, 7, 0] rfl ?_
        refine pv_lp3_ind (fun x13 x14 M7 xx => pv_R g κ pv_T pv_RF 11 0 0 (pv_QF g κ pv_jl) 69 [(0, .ref (κ.1 + 0)), (3, .long x13), (5, .ref (pv_tA κ)), (6, .int 3), (7, .int x5), (8, .int x6), (9, .int x8), (10, .int x14)] [] M7 xx) (fun _ _ _ => rw_none) (fun rec3 hrec3 x13 x14 M7 => ?_) _ _ _ _
        unfold f_X8_mixYears_L69
        refine rw_iload C dX8_mixYears_69 7 rfl ?_
        refine rw_aload_n C dX8_mixYears_71 rfl 0 rfl ?_
        refine rw_getR (k0 := 0) (k1 := 39) C dX8_mixYears_72 fl_X8_49 rfl (by decide) sh_0 (by decide) rfl ?_
        refine rw_getI (k0 := 39) C dX8_mixYears_75 fl_X8_215 rfl (by decide) sh_39 (by decide) (fun x15 => ?_)
        refine rw_icmp_ge (tgt := 119) C dX8_mixYears_78 (by decide) ?_ ?_
        · refine rw_iinc (c := 1) (lv' := [(9, .int (x8 + 1)), (0, .ref (κ.1 + 0)), (3, .long x13), (5, .ref (pv_tA κ)), (6, .int 3), (7, .int x5), (8, .int x6), (10, .int x14)]) C dX8_mixYears_119 6 rfl (by decide) (by decide) rfl ?_
          refine rw_goto (tgt := 32) C dX8_mixYears_122 (by decide) ?_
          exact rw_lv [1, 2, 3, 4, 5, 6, 0] rfl (hrec2 x13 (x8 + 1) M7)
        · refine rw_lload_n C dX8_mixYears_81 rfl 1 rfl ?_
          refine rw_aload_n C dX8_mixYears_82 rfl 0 rfl ?_
          refine rw_iload C dX8_mixYears_83 5 rfl ?_
          refine rw_iload C dX8_mixYears_85 7 rfl ?_
          refine rw_iload C dX8_mixYears_87 6 rfl ?_
          refine rw_callVi (As := [.int x6, .int x14, .int x8]) (k0 := 0) C hR dX8_mixYears_89 cv_X8_365 (k_X8_ticket g.2.1 κ x6 x14 x8 M7) (by decide) (by decide) (by decide) sh_0 rfl rfl (Nat.le_of_ble_eq_true rfl) rfl (fun x16 M8 => ?_)
          refine rw_i2l C dX8_mixYears_92 ?_
          refine rw_callSPl (As := [.long x13, .long (x16.toInt64)]) C hR dX8_mixYears_93 cs_X8_330 (k_X8_mix g.2.1 κ x13 x16.toInt64 M8) (by decide) (by decide) rfl (Nat.le_of_ble_eq_true rfl) rfl (fun x17 => ?_)
          refine rw_lstore_n (lv' := [(3, .long x17), (0, .ref (κ.1 + 0)), (5, .ref (pv_tA κ)), (6, .int 3), (7, .int x5), (8, .int x6), (9, .int x8), (10, .int x14)]) C dX8_mixYears_96 rfl (by decide) rfl ?_
          refine rw_lload_n C dX8_mixYears_97 rfl 0 rfl ?_
          refine rw_aload_n C dX8_mixYears_98 rfl 1 rfl ?_
          refine rw_iload C dX8_mixYears_99 5 rfl ?_
          refine rw_iload C dX8_mixYears_101 6 rfl ?_
          refine rw_iload C dX8_mixYears_103 7 rfl ?_
          refine rw_callVi (As := [.int x6, .int x8, .int x14]) (k0 := 0) C hR dX8_mixYears_105 cv_X8_368 (k_X8_votes g.2.1 κ x6 x8 x14 M8) (by decide) (by decide) (by decide) sh_0 rfl rfl (Nat.le_of_ble_eq_true rfl) rfl (fun x18 M9 => ?_)
          refine rw_i2l C dX8_mixYears_108 ?_
          refine rw_callSPl (As := [.long x17, .long (x18.toInt64)]) C hR dX8_mixYears_109 cs_X8_330 (k_X8_mix g.2.1 κ x17 x18.toInt64 M9) (by decide) (by decide) rfl (Nat.le_of_ble_eq_true rfl) rfl (fun x19 => ?_)
          refine rw_lstore_n (lv' := [(3, .long x19), (0, .ref (κ.1 + 0)), (5, .ref (pv_tA κ)), (6, .int 3), (7, .int x5), (8, .int x6), (9, .int x8), (10, .int x14)]) C dX8_mixYears_112 rfl (by decide) rfl ?_
          refine rw_iinc (c := 1) (lv' := [(10, .int (x14 + 1)), (3, .long x19), (0, .ref (κ.1 + 0)), (5, .ref (pv_tA κ)), (6, .int 3), (7, .int x5), (8, .int x6), (9, .int x8)]) C dX8_mixYears_113 7 rfl (by decide) (by decide) rfl ?_
          refine rw_goto (tgt := 69) C dX8_mixYears_116 (by decide) ?_
          exact rw_lv [2, 1, 3, 4, 5, 6, 7, 0] rfl (hrec3 x19 (x14 + 1) M9)
def f_X8_mixPeople_L69 (rec1 : Int64 → Int32 → pv_M → Option (Int64 × pv_M)) (x6 : Int64) (x7 : Int32) (M4 : pv_M) : Option (Int64 × pv_M) := pv_nm (M4.1 19 1) (fun x8 => (if x8 ≤ x7 then some (x6, M4) else pv_cal (f_X8_worst x7 M4) (fun x9 M5 => pv_cap (f_X8_mix x6 x9.toInt64 M5) (fun x10 => rec1 x10 (x7 + 1) M5))))
def f_X8_mixPeople_L5 (j1 : Int64 → pv_M → Option (Int64 × pv_M)) (rec2 : Int64 → Int32 → pv_M → Option (Int64 × pv_M)) (x11 : Int64) (x12 : Int32) (M6 : pv_M) : Option (Int64 × pv_M) := (if 8 ≤ x12 then j1 x11 M6 else pv_cal (f_X8_money x12 9 M6) (fun x13 M7 => pv_cap (f_X8_mix x11 x13.toInt64 M7) (fun x14 => pv_cal (f_X8_hedge x12 M7) (fun x15 M8 => pv_cap (f_X8_mix x14 x15.toInt64 M8) (fun x16 => rec2 x16 (x12 + 1) M8)))))
def f_X8_mixPeople (a1 : Int64) (M : pv_M) : Option (Int64 × pv_M) := pv_jn (fun (x1 : Int64) (M1 : pv_M) => pv_cal (f_X8_ruined 0 M1) (fun x2 M2 => pv_cap (f_X8_mix x1 x2.toInt64 M2) (fun x3 => pv_cal (f_X8_ruined 1 M2) (fun x4 M3 => pv_cap (f_X8_mix x3 x4.toInt64 M3) (fun x5 => pv_lp3 f_X8_mixPeople_L69 pv_FU x5 0 M3))))) (fun j1 => pv_lp3 (f_X8_mixPeople_L5 j1) pv_FU a1 0 M)
set_option maxHeartbeats 4000000 in
set_option maxRecDepth 100000 in
theorem k_X8_mixPeople (l : Launch) (κ : pv_K) (a1 : Int64) (M : pv_M) : pv_Mt l yX8_mixPeople cX8_mixPeople 6 (some .long) 6 κ [.ref (κ.1 + 0), .long a1] M pv_jl (f_X8_mixPeople a1 M) := by
  refine pv_enter (by decide +kernel) (Nat.le_of_ble_eq_true rfl) (fun g hl hR C => ?_)
  have C : pv_Ok g κ 6 cX8_mixPeople RX8 (some .long) := C
  show pv_R g κ pv_T pv_RF 6 0 0 (pv_QF g κ pv_jl) 0 [(0, .ref (κ.1 + 0)), (1, .long a1)] [] M (f_X8_mixPeople a1 M)
  unfold f_X8_mixPeople
  refine rw_lload_n C dX8_mixPeople_0 rfl 1 rfl ?_
  refine rw_lstore_n (lv' := [(3, .long a1), (0, .ref (κ.1 + 0)), (1, .long a1)]) C dX8_mixPeople_1 rfl (by decide) rfl ?_
  refine rw_iconst (c := 0) C dX8_mixPeople_2 ci_0 ?_
  refine rw_istore (lv' := [(5, .int 0), (3, .long a1), (0, .ref (κ.1 + 0)), (1, .long a1)]) C dX8_mixPeople_3 (by decide) rfl ?_
  refine rw_jn (fun j1 => ∀ (x1 : Int64) (M1 : pv_M), pv_R g κ pv_T pv_RF 6 0 0 (pv_QF g κ pv_jl) 44 [(0, .ref (κ.1 + 0)), (3, .long x1)] [] M1 (j1 x1 M1)) (fun x1 M1 => ?_) (fun j1 hj1 => ?_)
  · refine rw_lload_n C dX8_mixPeople_44 rfl 1 rfl ?_
    refine rw_aload_n C dX8_mixPeople_45 rfl 0 rfl ?_
    refine rw_iconst (c := 0) C dX8_mixPeople_46 ci_0 ?_
    refine rw_callVi (As := [.int 0]) (k0 := 0) C hR dX8_mixPeople_47 cv_X8_380 (k_X8_ruined g.2.1 κ 0 M1) (by decide) (by decide) (by decide) sh_0 rfl rfl (Nat.le_of_ble_eq_true rfl) rfl (fun x2 M2 => ?_)
    refine rw_i2l C dX8_mixPeople_50 ?_
    refine rw_callSPl (As := [.long x1, .long (x2.toInt64)]) C hR dX8_mixPeople_51 cs_X8_330 (k_X8_mix g.2.1 κ x1 x2.toInt64 M2) (by decide) (by decide) rfl (Nat.le_of_ble_eq_true rfl) rfl (fun x3 => ?_)
    refine rw_lstore_n (lv' := [(3, .long x3), (0, .ref (κ.1 + 0))]) C dX8_mixPeople_54 rfl (by decide) rfl ?_
    refine rw_lload_n C dX8_mixPeople_55 rfl 0 rfl ?_
    refine rw_aload_n C dX8_mixPeople_56 rfl 1 rfl ?_
    refine rw_iconst (c := 1) C dX8_mixPeople_57 ci_1 ?_
    refine rw_callVi (As := [.int 1]) (k0 := 0) C hR dX8_mixPeople_58 cv_X8_380 (k_X8_ruined g.2.1 κ 1 M2) (by decide) (by decide) (by decide) sh_0 rfl rfl (Nat.le_of_ble_eq_true rfl) rfl (fun x4 M3 => ?_)
    refine rw_i2l C dX8_mixPeople_61 ?_
    refine rw_callSPl (As := [.long x3, .long (x4.toInt64)]) C hR dX8_mixPeople_62 cs_X8_330 (k_X8_mix g.2.1 κ x3 x4.toInt64 M3) (by decide) (by decide) rfl (Nat.le_of_ble_eq_true rfl) rfl (fun x5 => ?_)
    refine rw_lstore_n (lv' := [(3, .long x5), (0, .ref (κ.1 + 0))]) C dX8_mixPeople_65 rfl (by decide) rfl ?_
    refine rw_iconst (c := 0) C dX8_mixPeople_66 ci_0 ?_
    refine rw_istore (lv' := [(5, .int 0), (3, .long x5), (0, .ref (κ.1 + 0))]) C dX8_mixPeople_67 (by decide) rfl ?_
    refine rw_lv (lv' := [(0, .ref (κ.1 + 0)), (3, .long x5), (5, .int 0)]) [2, 1, 0] rfl ?_
    refine pv_lp3_ind (fun x6 x7 M4 xx => pv_R g κ pv_T pv_RF 6 0 0 (pv_QF g κ pv_jl) 69 [(0, .ref (κ.1 + 0)), (3, .long x6), (5, .int x7)] [] M4 xx) (fun _ _ _ => rw_none) (fun rec1 hrec1 x6 x7 M4 => ?_) _ _ _ _
    unfold f_X8_mixPeople_L69
    refine rw_iload C dX8_mixPeople_69 2 rfl ?_
    refine rw_aload_n C dX8_mixPeople_71 rfl 0 rfl ?_
    refine rw_getR (k0 := 0) (k1 := 19) C dX8_mixPeople_72 fl_X8_33 rfl (by decide) sh_0 (by decide) rfl ?_
    refine rw_getI (k0 := 19) C dX8_mixPeople_75 fl_X8_182 rfl (by decide) sh_19 (by decide) (fun x8 => ?_)
    refine rw_icmp_ge (tgt := 99) C dX8_mixPeople_78 (by decide) ?_ ?_
    · refine rw_lload_n C dX8_mixPeople_99 rfl 1 rfl ?_
      exact rw_lret C dX8_mixPeople_100
    · refine rw_lload_n C dX8_mixPeople_81 rfl 1 rfl ?_
      refine rw_aload_n C dX8_mixPeople_82 rfl 0 rfl ?_
      refine rw_iload C dX8_mixPeople_83 2 rfl ?_
      refine rw_callVi (As := [.int x7]) (k0 := 0) C hR dX8_mixPeople_85 cv_X8_383 (k_X8_worst g.2.1 κ x7 M4) (by decide) (by decide) (by decide) sh_0 rfl rfl (Nat.le_of_ble_eq_true rfl) rfl (fun x9 M5 => ?_)
      refine rw_i2l C dX8_mixPeople_88 ?_
      refine rw_callSPl (As := [.long x6, .long (x9.toInt64)]) C hR dX8_mixPeople_89 cs_X8_330 (k_X8_mix g.2.1 κ x6 x9.toInt64 M5) (by decide) (by decide) rfl (Nat.le_of_ble_eq_true rfl) rfl (fun x10 => ?_)
      refine rw_lstore_n (lv' := [(3, .long x10), (0, .ref (κ.1 + 0)), (5, .int x7)]) C dX8_mixPeople_92 rfl (by decide) rfl ?_
      refine rw_iinc (c := 1) (lv' := [(5, .int (x7 + 1)), (3, .long x10), (0, .ref (κ.1 + 0))]) C dX8_mixPeople_93 2 rfl (by decide) (by decide) rfl ?_
      refine rw_goto (tgt := 69) C dX8_mixPeople_96 (by decide) ?_
      exact rw_lv [2, 1, 0] rfl (hrec1 x10 (x7 + 1) M5)
  · refine rw_lv (lv' := [(0, .ref (κ.1 + 0)), (3, .long a1), (5, .int 0)]) [2, 1, 0] rfl ?_
    refine pv_lp3_ind (fun x11 x12 M6 xx => pv_R g κ pv_T pv_RF 6 0 0 (pv_QF g κ pv_jl) 5 [(0, .ref (κ.1 + 0)), (3, .long x11), (5, .int x12)] [] M6 xx) (fun _ _ _ => rw_none) (fun rec2 hrec2 x11 x12 M6 => ?_) _ _ _ _
    unfold f_X8_mixPeople_L5
    refine rw_iload C dX8_mixPeople_5 2 rfl ?_
    refine rw_bipush (c := 8) C dX8_mixPeople_7 (by decide) ?_
    refine rw_icmp_ge (tgt := 44) C dX8_mixPeople_9 (by decide) ?_ ?_
    · exact rw_lv [0, 1] rfl (hj1 x11 M6)
    · refine rw_lload_n C dX8_mixPeople_12 rfl 1 rfl ?_
      refine rw_aload_n C dX8_mixPeople_13 rfl 0 rfl ?_
      refine rw_iload C dX8_mixPeople_14 2 rfl ?_
      refine rw_bipush (c := 9) C dX8_mixPeople_16 (by decide) ?_
      refine rw_callVi (As := [.int x12, .int 9]) (k0 := 0) C hR dX8_mixPeople_18 cv_X8_374 (k_X8_money g.2.1 κ x12 9 M6) (by decide) (by decide) (by decide) sh_0 rfl rfl (Nat.le_of_ble_eq_true rfl) rfl (fun x13 M7 => ?_)
      refine rw_i2l C dX8_mixPeople_21 ?_
      refine rw_callSPl (As := [.long x11, .long (x13.toInt64)]) C hR dX8_mixPeople_22 cs_X8_330 (k_X8_mix g.2.1 κ x11 x13.toInt64 M7) (by decide) (by decide) rfl (Nat.le_of_ble_eq_true rfl) rfl (fun x14 => ?_)
      refine rw_lstore_n (lv' := [(3, .long x14), (0, .ref (κ.1 + 0)), (5, .int x12)]) C dX8_mixPeople_25 rfl (by decide) rfl ?_
      refine rw_lload_n C dX8_mixPeople_26 rfl 0 rfl ?_
      refine rw_aload_n C dX8_mixPeople_27 rfl 1 rfl ?_
      refine rw_iload C dX8_mixPeople_28 2 rfl ?_
      refine rw_callVi (As := [.int x12]) (k0 := 0) C hR dX8_mixPeople_30 cv_X8_377 (k_X8_hedge g.2.1 κ x12 M7) (by decide) (by decide) (by decide) sh_0 rfl rfl (Nat.le_of_ble_eq_true rfl) rfl (fun x15 M8 => ?_)
      refine rw_i2l C dX8_mixPeople_33 ?_
      refine rw_callSPl (As := [.long x14, .long (x15.toInt64)]) C hR dX8_mixPeople_34 cs_X8_330 (k_X8_mix g.2.1 κ x14 x15.toInt64 M8) (by decide) (by decide) rfl (Nat.le_of_ble_eq_true rfl) rfl (fun x16 => ?_)
      refine rw_lstore_n (lv' := [(3, .long x16), (0, .ref (κ.1 + 0)), (5, .int x12)]) C dX8_mixPeople_37 rfl (by decide) rfl ?_
      refine rw_iinc (c := 1) (lv' := [(5, .int (x12 + 1)), (3, .long x16), (0, .ref (κ.1 + 0))]) C dX8_mixPeople_38 2 rfl (by decide) (by decide) rfl ?_
      refine rw_goto (tgt := 5) C dX8_mixPeople_41 (by decide) ?_
      exact rw_lv [2, 1, 0] rfl (hrec2 x16 (x12 + 1) M8)
def f_X8_mixVotes_L24 (rec1 : Int64 → Int32 → pv_M → Option (Int64 × pv_M)) (x5 : Int64) (x6 : Int32) (M3 : pv_M) : Option (Int64 × pv_M) := pv_nm (M3.1 39 0) (fun x7 => (if x7 ≤ x6 then some (x5, M3) else pv_cal (f_X8_wins x6 0 M3) (fun x8 M4 => pv_cap (f_X8_mix x5 x8.toInt64 M4) (fun x9 => pv_cal (f_X8_wins x6 1 M4) (fun x10 M5 => pv_cap (f_X8_mix x9 x10.toInt64 M5) (fun x11 => rec1 x11 (x6 + 1) M5))))))
def f_X8_mixVotes (a1 : Int64) (M : pv_M) : Option (Int64 × pv_M) := pv_cal (f_X8_rest 0 M) (fun x1 M1 => pv_cap (f_X8_mix a1 x1.toInt64 M1) (fun x2 => pv_cal (f_X8_rests M1) (fun x3 M2 => pv_cap (f_X8_mix x2 x3.toInt64 M2) (fun x4 => pv_lp3 f_X8_mixVotes_L24 pv_FU x4 0 M2))))
set_option maxHeartbeats 4000000 in
set_option maxRecDepth 100000 in
theorem k_X8_mixVotes (l : Launch) (κ : pv_K) (a1 : Int64) (M : pv_M) : pv_Mt l yX8_mixVotes cX8_mixVotes 6 (some .long) 26 κ [.ref (κ.1 + 0), .long a1] M pv_jl (f_X8_mixVotes a1 M) := by
  refine pv_enter (by decide +kernel) (Nat.le_of_ble_eq_true rfl) (fun g hl hR C => ?_)
  have C : pv_Ok g κ 6 cX8_mixVotes RX8 (some .long) := C
  show pv_R g κ pv_T pv_RF 6 0 0 (pv_QF g κ pv_jl) 0 [(0, .ref (κ.1 + 0)), (1, .long a1)] [] M (f_X8_mixVotes a1 M)
  unfold f_X8_mixVotes
  refine rw_lload_n C dX8_mixVotes_0 rfl 1 rfl ?_
  refine rw_aload_n C dX8_mixVotes_1 rfl 0 rfl ?_
  refine rw_iconst (c := 0) C dX8_mixVotes_2 ci_0 ?_
  refine rw_callVi (As := [.int 0]) (k0 := 0) C hR dX8_mixVotes_3 cv_X8_386 (k_X8_rest g.2.1 κ 0 M) (by decide) (by decide) (by decide) sh_0 rfl rfl (Nat.le_of_ble_eq_true rfl) rfl (fun x1 M1 => ?_)
  refine rw_i2l C dX8_mixVotes_6 ?_
  refine rw_callSPl (As := [.long a1, .long (x1.toInt64)]) C hR dX8_mixVotes_7 cs_X8_330 (k_X8_mix g.2.1 κ a1 x1.toInt64 M1) (by decide) (by decide) rfl (Nat.le_of_ble_eq_true rfl) rfl (fun x2 => ?_)
  refine rw_lstore_n (lv' := [(3, .long x2), (0, .ref (κ.1 + 0)), (1, .long a1)]) C dX8_mixVotes_10 rfl (by decide) rfl ?_
  refine rw_lload_n C dX8_mixVotes_11 rfl 0 rfl ?_
  refine rw_aload_n C dX8_mixVotes_12 rfl 1 rfl ?_
  refine rw_callVi (As := []) (k0 := 0) C hR dX8_mixVotes_13 cv_X8_389 (k_X8_rests g.2.1 κ M1) (by decide) (by decide) (by decide) sh_0 rfl rfl (Nat.le_of_ble_eq_true rfl) rfl (fun x3 M2 => ?_)
  refine rw_i2l C dX8_mixVotes_16 ?_
  refine rw_callSPl (As := [.long x2, .long (x3.toInt64)]) C hR dX8_mixVotes_17 cs_X8_330 (k_X8_mix g.2.1 κ x2 x3.toInt64 M2) (by decide) (by decide) rfl (Nat.le_of_ble_eq_true rfl) rfl (fun x4 => ?_)
  refine rw_lstore_n (lv' := [(3, .long x4), (0, .ref (κ.1 + 0)), (1, .long a1)]) C dX8_mixVotes_20 rfl (by decide) rfl ?_
  refine rw_iconst (c := 0) C dX8_mixVotes_21 ci_0 ?_
  refine rw_istore (lv' := [(5, .int 0), (3, .long x4), (0, .ref (κ.1 + 0)), (1, .long a1)]) C dX8_mixVotes_22 (by decide) rfl ?_
  refine rw_lv (lv' := [(0, .ref (κ.1 + 0)), (3, .long x4), (5, .int 0)]) [2, 1, 0] rfl ?_
  refine pv_lp3_ind (fun x5 x6 M3 xx => pv_R g κ pv_T pv_RF 6 0 0 (pv_QF g κ pv_jl) 24 [(0, .ref (κ.1 + 0)), (3, .long x5), (5, .int x6)] [] M3 xx) (fun _ _ _ => rw_none) (fun rec1 hrec1 x5 x6 M3 => ?_) _ _ _ _
  unfold f_X8_mixVotes_L24
  refine rw_iload C dX8_mixVotes_24 2 rfl ?_
  refine rw_aload_n C dX8_mixVotes_26 rfl 0 rfl ?_
  refine rw_getR (k0 := 0) (k1 := 39) C dX8_mixVotes_27 fl_X8_49 rfl (by decide) sh_0 (by decide) rfl ?_
  refine rw_getI (k0 := 39) C dX8_mixVotes_30 fl_X8_215 rfl (by decide) sh_39 (by decide) (fun x7 => ?_)
  refine rw_icmp_ge (tgt := 68) C dX8_mixVotes_33 (by decide) ?_ ?_
  · refine rw_lload_n C dX8_mixVotes_68 rfl 1 rfl ?_
    exact rw_lret C dX8_mixVotes_69
  · refine rw_lload_n C dX8_mixVotes_36 rfl 1 rfl ?_
    refine rw_aload_n C dX8_mixVotes_37 rfl 0 rfl ?_
    refine rw_iload C dX8_mixVotes_38 2 rfl ?_
    refine rw_iconst (c := 0) C dX8_mixVotes_40 ci_0 ?_
    refine rw_callVi (As := [.int x6, .int 0]) (k0 := 0) C hR dX8_mixVotes_41 cv_X8_392 (k_X8_wins g.2.1 κ x6 0 M3) (by decide) (by decide) (by decide) sh_0 rfl rfl (Nat.le_of_ble_eq_true rfl) rfl (fun x8 M4 => ?_)
    refine rw_i2l C dX8_mixVotes_44 ?_
    refine rw_callSPl (As := [.long x5, .long (x8.toInt64)]) C hR dX8_mixVotes_45 cs_X8_330 (k_X8_mix g.2.1 κ x5 x8.toInt64 M4) (by decide) (by decide) rfl (Nat.le_of_ble_eq_true rfl) rfl (fun x9 => ?_)
    refine rw_lstore_n (lv' := [(3, .long x9), (0, .ref (κ.1 + 0)), (5, .int x6)]) C dX8_mixVotes_48 rfl (by decide) rfl ?_
    refine rw_lload_n C dX8_mixVotes_49 rfl 0 rfl ?_
    refine rw_aload_n C dX8_mixVotes_50 rfl 1 rfl ?_
    refine rw_iload C dX8_mixVotes_51 2 rfl ?_
    refine rw_iconst (c := 1) C dX8_mixVotes_53 ci_1 ?_
    refine rw_callVi (As := [.int x6, .int 1]) (k0 := 0) C hR dX8_mixVotes_54 cv_X8_392 (k_X8_wins g.2.1 κ x6 1 M4) (by decide) (by decide) (by decide) sh_0 rfl rfl (Nat.le_of_ble_eq_true rfl) rfl (fun x10 M5 => ?_)
    refine rw_i2l C dX8_mixVotes_57 ?_
    refine rw_callSPl (As := [.long x9, .long (x10.toInt64)]) C hR dX8_mixVotes_58 cs_X8_330 (k_X8_mix g.2.1 κ x9 x10.toInt64 M5) (by decide) (by decide) rfl (Nat.le_of_ble_eq_true rfl) rfl (fun x11 => ?_)
    refine rw_lstore_n (lv' := [(3, .long x11), (0, .ref (κ.1 + 0)), (5, .int x6)]) C dX8_mixVotes_61 rfl (by decide) rfl ?_
    refine rw_iinc (c := 1) (lv' := [(5, .int (x6 + 1)), (3, .long x11), (0, .ref (κ.1 + 0))]) C dX8_mixVotes_62 2 rfl (by decide) (by decide) rfl ?_
    refine rw_goto (tgt := 24) C dX8_mixVotes_65 (by decide) ?_
    exact rw_lv [2, 1, 0] rfl (hrec1 x11 (x6 + 1) M5)
def f_X8_mixRatios_L5 (j1 : Int64 → pv_M → Option (Int64 × pv_M)) (rec1 : Int64 → Int32 → pv_M → Option (Int64 × pv_M)) (x6 : Int64) (x7 : Int32) (M4 : pv_M) : Option (Int64 × pv_M) := (if 6 ≤ x7 then j1 x6 M4 else pv_cal (f_X8_worth 0 x7 0 M4) (fun x8 M5 => pv_cap (f_X8_mix x6 x8 M5) (fun x9 => pv_cal (f_X8_worth 0 x7 1 M5) (fun x10 M6 => pv_cap (f_X8_mix x9 x10 M6) (fun x11 => rec1 x11 (x7 + 1) M6)))))
def f_X8_mixRatios (a1 : Int64) (M : pv_M) : Option (Int64 × pv_M) := pv_jn (fun (x1 : Int64) (M1 : pv_M) => pv_cal (f_X8_clash M1) (fun x2 M2 => pv_cap (f_X8_mix x1 x2.toInt64 M2) (fun x3 => pv_cal (f_X8_drop M2) (fun x4 M3 => pv_cap (f_X8_mix x3 x4.toInt64 M3) (fun x5 => some (x5, M3)))))) (fun j1 => pv_lp3 (f_X8_mixRatios_L5 j1) pv_FU a1 1 M)
set_option maxHeartbeats 4000000 in
set_option maxRecDepth 100000 in
theorem k_X8_mixRatios (l : Launch) (κ : pv_K) (a1 : Int64) (M : pv_M) : pv_Mt l yX8_mixRatios cX8_mixRatios 6 (some .long) 6 κ [.ref (κ.1 + 0), .long a1] M pv_jl (f_X8_mixRatios a1 M) := by
  refine pv_enter (by decide +kernel) (Nat.le_of_ble_eq_true rfl) (fun g hl hR C => ?_)
  have C : pv_Ok g κ 6 cX8_mixRatios RX8 (some .long) := C
  show pv_R g κ pv_T pv_RF 6 0 0 (pv_QF g κ pv_jl) 0 [(0, .ref (κ.1 + 0)), (1, .long a1)] [] M (f_X8_mixRatios a1 M)
  unfold f_X8_mixRatios
  refine rw_lload_n C dX8_mixRatios_0 rfl 1 rfl ?_
  refine rw_lstore_n (lv' := [(3, .long a1), (0, .ref (κ.1 + 0)), (1, .long a1)]) C dX8_mixRatios_1 rfl (by decide) rfl ?_
  refine rw_iconst (c := 1) C dX8_mixRatios_2 ci_1 ?_
  refine rw_istore (lv' := [(5, .int 1), (3, .long a1), (0, .ref (κ.1 + 0)), (1, .long a1)]) C dX8_mixRatios_3 (by decide) rfl ?_
  refine rw_jn (fun j1 => ∀ (x1 : Int64) (M1 : pv_M), pv_R g κ pv_T pv_RF 6 0 0 (pv_QF g κ pv_jl) 44 [(0, .ref (κ.1 + 0)), (3, .long x1)] [] M1 (j1 x1 M1)) (fun x1 M1 => ?_) (fun j1 hj1 => ?_)
  · refine rw_lload_n C dX8_mixRatios_44 rfl 1 rfl ?_
    refine rw_aload_n C dX8_mixRatios_45 rfl 0 rfl ?_
    refine rw_callVi (As := []) (k0 := 0) C hR dX8_mixRatios_46 cv_X8_399 (k_X8_clash g.2.1 κ M1) (by decide) (by decide) (by decide) sh_0 rfl rfl (Nat.le_of_ble_eq_true rfl) rfl (fun x2 M2 => ?_)
    refine rw_i2l C dX8_mixRatios_49 ?_
    refine rw_callSPl (As := [.long x1, .long (x2.toInt64)]) C hR dX8_mixRatios_50 cs_X8_330 (k_X8_mix g.2.1 κ x1 x2.toInt64 M2) (by decide) (by decide) rfl (Nat.le_of_ble_eq_true rfl) rfl (fun x3 => ?_)
    refine rw_lstore_n (lv' := [(3, .long x3), (0, .ref (κ.1 + 0))]) C dX8_mixRatios_53 rfl (by decide) rfl ?_
    refine rw_lload_n C dX8_mixRatios_54 rfl 0 rfl ?_
    refine rw_aload_n C dX8_mixRatios_55 rfl 1 rfl ?_
    refine rw_callVi (As := []) (k0 := 0) C hR dX8_mixRatios_56 cv_X8_402 (k_X8_drop g.2.1 κ M2) (by decide) (by decide) (by decide) sh_0 rfl rfl (Nat.le_of_ble_eq_true rfl) rfl (fun x4 M3 => ?_)
    refine rw_i2l C dX8_mixRatios_59 ?_
    refine rw_callSPl (As := [.long x3, .long (x4.toInt64)]) C hR dX8_mixRatios_60 cs_X8_330 (k_X8_mix g.2.1 κ x3 x4.toInt64 M3) (by decide) (by decide) rfl (Nat.le_of_ble_eq_true rfl) rfl (fun x5 => ?_)
    exact rw_lret C dX8_mixRatios_63
  · refine rw_lv (lv' := [(0, .ref (κ.1 + 0)), (3, .long a1), (5, .int 1)]) [2, 1, 0] rfl ?_
    refine pv_lp3_ind (fun x6 x7 M4 xx => pv_R g κ pv_T pv_RF 6 0 0 (pv_QF g κ pv_jl) 5 [(0, .ref (κ.1 + 0)), (3, .long x6), (5, .int x7)] [] M4 xx) (fun _ _ _ => rw_none) (fun rec1 hrec1 x6 x7 M4 => ?_) _ _ _ _
    unfold f_X8_mixRatios_L5
    refine rw_iload C dX8_mixRatios_5 2 rfl ?_
    refine rw_bipush (c := 6) C dX8_mixRatios_7 (by decide) ?_
    refine rw_icmp_ge (tgt := 44) C dX8_mixRatios_9 (by decide) ?_ ?_
    · exact rw_lv [0, 1] rfl (hj1 x6 M4)
    · refine rw_lload_n C dX8_mixRatios_12 rfl 1 rfl ?_
      refine rw_aload_n C dX8_mixRatios_13 rfl 0 rfl ?_
      refine rw_iconst (c := 0) C dX8_mixRatios_14 ci_0 ?_
      refine rw_iload C dX8_mixRatios_15 2 rfl ?_
      refine rw_iconst (c := 0) C dX8_mixRatios_17 ci_0 ?_
      refine rw_callVl (As := [.int 0, .int x7, .int 0]) (k0 := 0) C hR dX8_mixRatios_18 cv_X8_395 (k_X8_worth g.2.1 κ 0 x7 0 M4) (by decide) (by decide) (by decide) sh_0 rfl rfl (Nat.le_of_ble_eq_true rfl) rfl (fun x8 M5 => ?_)
      refine rw_callSPl (As := [.long x6, .long x8]) C hR dX8_mixRatios_21 cs_X8_330 (k_X8_mix g.2.1 κ x6 x8 M5) (by decide) (by decide) rfl (Nat.le_of_ble_eq_true rfl) rfl (fun x9 => ?_)
      refine rw_lstore_n (lv' := [(3, .long x9), (0, .ref (κ.1 + 0)), (5, .int x7)]) C dX8_mixRatios_24 rfl (by decide) rfl ?_
      refine rw_lload_n C dX8_mixRatios_25 rfl 0 rfl ?_
      refine rw_aload_n C dX8_mixRatios_26 rfl 1 rfl ?_
      refine rw_iconst (c := 0) C dX8_mixRatios_27 ci_0 ?_
      refine rw_iload C dX8_mixRatios_28 2 rfl ?_
      refine rw_iconst (c := 1) C dX8_mixRatios_30 ci_1 ?_
      refine rw_callVl (As := [.int 0, .int x7, .int 1]) (k0 := 0) C hR dX8_mixRatios_31 cv_X8_395 (k_X8_worth g.2.1 κ 0 x7 1 M5) (by decide) (by decide) (by decide) sh_0 rfl rfl (Nat.le_of_ble_eq_true rfl) rfl (fun x10 M6 => ?_)
      refine rw_callSPl (As := [.long x9, .long x10]) C hR dX8_mixRatios_34 cs_X8_330 (k_X8_mix g.2.1 κ x9 x10 M6) (by decide) (by decide) rfl (Nat.le_of_ble_eq_true rfl) rfl (fun x11 => ?_)
      refine rw_lstore_n (lv' := [(3, .long x11), (0, .ref (κ.1 + 0)), (5, .int x7)]) C dX8_mixRatios_37 rfl (by decide) rfl ?_
      refine rw_iinc (c := 1) (lv' := [(5, .int (x7 + 1)), (3, .long x11), (0, .ref (κ.1 + 0))]) C dX8_mixRatios_38 2 rfl (by decide) (by decide) rfl ?_
      refine rw_goto (tgt := 5) C dX8_mixRatios_41 (by decide) ?_
      exact rw_lv [2, 1, 0] rfl (hrec1 x11 (x7 + 1) M6)
