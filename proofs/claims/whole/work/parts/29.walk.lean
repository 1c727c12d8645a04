def f_X9_bill (a1 : Int32) (a2 : Int32) (a3 : Int32) (M : pv_M) : Option (Int32 × pv_M) := pv_cap (f_X9_in a1.toInt64 1 9 M) (fun x1 => (if x1 = 0 then some ((-2), M) else pv_cap (f_X9_isUnit a2 M) (fun x2 => (if x2 = 0 then some ((-2), M) else pv_cap (f_X9_in a3.toInt64 1 99 M) (fun x3 => (if x3 = 0 then some ((-2), M) else pv_nm (M.1 196 32) (fun x4 => (if x4 = 6 then some ((-4), M) else pv_nm (M.1 196 32) (fun x5 => pv_stI pv_T 221 (3 * x5) a1 M (fun M1 => pv_nm (M1.1 196 32) (fun x6 => pv_stI pv_T 221 ((3 * x6) + 1) a2 M1 (fun M2 => pv_nm (M2.1 196 32) (fun x7 => pv_stI pv_T 221 ((3 * x7) + 2) a3 M2 (fun M3 => pv_nm (M3.1 196 32) (fun x8 => pv_nm (pv_u M3.1 196 32 (x8 + 1), M3.2) (fun M4 => pv_nm (M4.1 196 32) (fun x9 => some (x9, M4))))))))))))))))))
set_option maxHeartbeats 4000000 in
set_option maxRecDepth 100000 in
theorem k_X9_bill (l : Launch) (κ : pv_K) (a1 : Int32) (a2 : Int32) (a3 : Int32) (M : pv_M) : pv_Mt l yX9_bill cX9_bill 4 (some .int) 2 κ [.ref (κ.1 + 196), .int a1, .int a2, .int a3] M pv_ji (f_X9_bill a1 a2 a3 M) := by
  refine pv_enter (by decide +kernel) (Nat.le_of_ble_eq_true rfl) (fun g hl hR C => ?_)
  have C : pv_Ok g κ 4 cX9_bill RX9 (some .int) := C
  show pv_R g κ pv_T pv_RF 4 0 0 (pv_QF g κ pv_ji) 0 [(0, .ref (κ.1 + 196)), (1, .int a1), (2, .int a2), (3, .int a3)] [] M (f_X9_bill a1 a2 a3 M)
  unfold f_X9_bill
  refine rw_iload_n C dX9_bill_0 rfl 1 rfl ?_
  refine rw_i2l C dX9_bill_1 ?_
  refine rw_lconst (c := 1) C dX9_bill_2 (by decide) ?_
  refine rw_ldc2_w (c := 9) C dX9_bill_3 mw_362 ?_
  refine rw_callSPi (As := [.long (a1.toInt64), .long 1, .long 9]) C hR dX9_bill_6 cs_X9_88 (k_X9_in g.2.1 κ a1.toInt64 1 9 M) (by decide) (by decide) rfl (Nat.le_of_ble_eq_true rfl) rfl (fun x1 => ?_)
  refine rw_if_eq (tgt := 31) C dX9_bill_9 (by decide) ?_ ?_
  · refine rw_bipush (c := (-2)) C dX9_bill_31 (by decide) ?_
    exact rw_iret C dX9_bill_33
  · refine rw_iload_n C dX9_bill_12 rfl 2 rfl ?_
    refine rw_callSPi (As := [.int a2]) C hR dX9_bill_13 cs_X9_168 (k_X9_isUnit g.2.1 κ a2 M) (by decide) (by decide) rfl (Nat.le_of_ble_eq_true rfl) rfl (fun x2 => ?_)
    refine rw_if_eq (tgt := 31) C dX9_bill_16 (by decide) ?_ ?_
    · refine rw_bipush (c := (-2)) C dX9_bill_31 (by decide) ?_
      exact rw_iret C dX9_bill_33
    · refine rw_iload_n C dX9_bill_19 rfl 3 rfl ?_
      refine rw_i2l C dX9_bill_20 ?_
      refine rw_lconst (c := 1) C dX9_bill_21 (by decide) ?_
      refine rw_ldc2_w (c := 99) C dX9_bill_22 mw_248 ?_
      refine rw_callSPi (As := [.long (a3.toInt64), .long 1, .long 99]) C hR dX9_bill_25 cs_X9_88 (k_X9_in g.2.1 κ a3.toInt64 1 99 M) (by decide) (by decide) rfl (Nat.le_of_ble_eq_true rfl) rfl (fun x3 => ?_)
      refine rw_if_ne (tgt := 34) C dX9_bill_28 (by decide) ?_ ?_
      · refine rw_aload_n C dX9_bill_34 rfl 0 rfl ?_
        refine rw_getI (k0 := 196) C dX9_bill_35 fl_X9_336 rfl (by decide) sh_196 (by decide) (fun x4 => ?_)
        refine rw_bipush (c := 6) C dX9_bill_38 (by decide) ?_
        refine rw_icmp_ne (tgt := 46) C dX9_bill_40 (by decide) ?_ ?_
        · refine rw_aload_n C dX9_bill_46 rfl 0 rfl ?_
          refine rw_getR (k0 := 196) (k1 := 221) C dX9_bill_47 fl_X9_83 rfl (by decide) sh_196 (by decide) rfl ?_
          refine rw_iconst (c := 3) C dX9_bill_50 ci_3 ?_
          refine rw_aload_n C dX9_bill_51 rfl 0 rfl ?_
          refine rw_getI (k0 := 196) C dX9_bill_52 fl_X9_336 rfl (by decide) sh_196 (by decide) (fun x5 => ?_)
          refine rw_imul C dX9_bill_55 ?_
          refine rw_iload_n C dX9_bill_56 rfl 1 rfl ?_
          refine rw_stI C dX9_bill_57 (fun M1 => ?_)
          refine rw_aload_n C dX9_bill_58 rfl 0 rfl ?_
          refine rw_getR (k0 := 196) (k1 := 221) C dX9_bill_59 fl_X9_83 rfl (by decide) sh_196 (by decide) rfl ?_
          refine rw_iconst (c := 3) C dX9_bill_62 ci_3 ?_
          refine rw_aload_n C dX9_bill_63 rfl 0 rfl ?_
          refine rw_getI (k0 := 196) C dX9_bill_64 fl_X9_336 rfl (by decide) sh_196 (by decide) (fun x6 => ?_)
          refine rw_imul C dX9_bill_67 ?_
          refine rw_iconst (c := 1) C dX9_bill_68 ci_1 ?_
          refine rw_iadd C dX9_bill_69 ?_
          refine rw_iload_n C dX9_bill_70 rfl 2 rfl ?_
          refine rw_stI C dX9_bill_71 (fun M2 => ?_)
          refine rw_aload_n C dX9_bill_72 rfl 0 rfl ?_
          refine rw_getR (k0 := 196) (k1 := 221) C dX9_bill_73 fl_X9_83 rfl (by decide) sh_196 (by decide) rfl ?_
          refine rw_iconst (c := 3) C dX9_bill_76 ci_3 ?_
          refine rw_aload_n C dX9_bill_77 rfl 0 rfl ?_
          refine rw_getI (k0 := 196) C dX9_bill_78 fl_X9_336 rfl (by decide) sh_196 (by decide) (fun x7 => ?_)
          refine rw_imul C dX9_bill_81 ?_
          refine rw_iconst (c := 2) C dX9_bill_82 ci_2 ?_
          refine rw_iadd C dX9_bill_83 ?_
          refine rw_iload_n C dX9_bill_84 rfl 3 rfl ?_
          refine rw_stI C dX9_bill_85 (fun M3 => ?_)
          refine rw_aload_n C dX9_bill_86 rfl 0 rfl ?_
          refine rw_dup C dX9_bill_87 rfl ?_
          refine rw_getI (k0 := 196) C dX9_bill_88 fl_X9_336 rfl (by decide) sh_196 (by decide) (fun x8 => ?_)
          refine rw_iconst (c := 1) C dX9_bill_91 ci_1 ?_
          refine rw_iadd C dX9_bill_92 ?_
          refine rw_put (k0 := 196) C dX9_bill_93 fl_X9_336 ff_X9_32 rfl rfl rfl (by decide) sh_196 (by decide) (fun M4 => ?_)
          refine rw_aload_n C dX9_bill_96 rfl 0 rfl ?_
          refine rw_getI (k0 := 196) C dX9_bill_97 fl_X9_336 rfl (by decide) sh_196 (by decide) (fun x9 => ?_)
          exact rw_iret C dX9_bill_100
        · refine rw_bipush (c := (-4)) C dX9_bill_43 (by decide) ?_
          exact rw_iret C dX9_bill_45
      · refine rw_bipush (c := (-2)) C dX9_bill_31 (by decide) ?_
        exact rw_iret C dX9_bill_33
def f_X9_yearsNow_L15 (M : pv_M) (j1 : Int32 → Option Int32) (x2 : Int32) (rec2 : Int32 → Int32 → Option Int32) (x6 : Int32) (x7 : Int32) : Option Int32 := pv_nm (M.1 196 32) (fun x8 => (if x8 ≤ x7 then j1 x6 else (if x6 = 0 then rec2 0 (x7 + 1) else pv_ldI pv_T 221 (3 * x7) M (fun x9 => pv_ldI pv_T 221 ((3 * x7) + 1) M (fun x10 => pv_cap (f_X9_greatOf x2 x10 M) (fun x11 => pv_ldI pv_T 221 ((3 * x7) + 2) M (fun x12 => (if (x9 * x11) = x12 then rec2 1 (x7 + 1) else rec2 0 (x7 + 1)))))))))
def f_X9_yearsNow_L4 (M : pv_M) (rec1 : Int32 → Int32 → Option Int32) (x1 : Int32) (x2 : Int32) : Option Int32 := (if 10 ≤ x2 then some x1 else pv_jn (fun (x3 : Int32) => pv_jn (fun (x4 : Int32) => pv_nm (x1 ||| x4) (fun x5 => rec1 x5 (x2 + 1))) (fun j2 => (if x3 = 0 then j2 0 else j2 (1 <<< (x2 &&& 31))))) (fun j1 => pv_lp2 (f_X9_yearsNow_L15 M j1 x2) pv_FU 1 0))
def f_X9_yearsNow (M : pv_M) : Option Int32 := pv_lp2 (f_X9_yearsNow_L4 M) pv_FU 0 0
set_option maxHeartbeats 4000000 in
set_option maxRecDepth 100000 in
theorem k_X9_yearsNow (l : Launch) (κ : pv_K) (M : pv_M) : pv_MtP l yX9_yearsNow cX9_yearsNow 5 (some .int) 3 κ [.ref (κ.1 + 196)] M pv_ji (f_X9_yearsNow M) := by
  refine pv_enterP (by decide +kernel) (Nat.le_of_ble_eq_true rfl) (fun g hl hR C => ?_)
  have C : pv_Ok g κ 5 cX9_yearsNow RX9 (some .int) := C
  show pv_R g κ pv_T pv_RF 5 0 0 (pv_QP g κ pv_ji M) 0 [(0, .ref (κ.1 + 196))] [] M (f_X9_yearsNow M)
  unfold f_X9_yearsNow
  refine rw_iconst (c := 0) C dX9_yearsNow_0 ci_0 ?_
  refine rw_istore_n (lv' := [(1, .int 0), (0, .ref (κ.1 + 196))]) C dX9_yearsNow_1 rfl (by decide) rfl ?_
  refine rw_iconst (c := 0) C dX9_yearsNow_2 ci_0 ?_
  refine rw_istore_n (lv' := [(2, .int 0), (1, .int 0), (0, .ref (κ.1 + 196))]) C dX9_yearsNow_3 rfl (by decide) rfl ?_
  refine rw_lv (lv' := [(0, .ref (κ.1 + 196)), (1, .int 0), (2, .int 0)]) [2, 1, 0] rfl ?_
  refine pv_lp2_ind (fun x1 x2 xx => pv_R g κ pv_T pv_RF 5 0 0 (pv_QP g κ pv_ji M) 4 [(0, .ref (κ.1 + 196)), (1, .int x1), (2, .int x2)] [] M xx) (fun _ _ => rw_none) (fun rec1 hrec1 x1 x2 => ?_) _ _ _
  unfold f_X9_yearsNow_L4
  refine rw_iload_n C dX9_yearsNow_4 rfl 2 rfl ?_
  refine rw_bipush (c := 10) C dX9_yearsNow_5 (by decide) ?_
  refine rw_icmp_ge (tgt := 100) C dX9_yearsNow_7 (by decide) ?_ ?_
  · refine rw_iload_n C dX9_yearsNow_100 rfl 1 rfl ?_
    exact rw_iretP C dX9_yearsNow_101
  · refine rw_iconst (c := 1) C dX9_yearsNow_10 ci_1 ?_
    refine rw_istore_n (lv' := [(3, .int 1), (0, .ref (κ.1 + 196)), (1, .int x1), (2, .int x2)]) C dX9_yearsNow_11 rfl (by decide) rfl ?_
    refine rw_iconst (c := 0) C dX9_yearsNow_12 ci_0 ?_
    refine rw_istore (lv' := [(4, .int 0), (3, .int 1), (0, .ref (κ.1 + 196)), (1, .int x1), (2, .int x2)]) C dX9_yearsNow_13 (by decide) rfl ?_
    refine rw_jn (fun j1 => ∀ (x3 : Int32), pv_R g κ pv_T pv_RF 5 0 0 (pv_QP g κ pv_ji M) 80 [(0, .ref (κ.1 + 196)), (1, .int x1), (2, .int x2), (3, .int x3)] [] M (j1 x3)) (fun x3 => ?_) (fun j1 hj1 => ?_)
    · refine rw_iload_n C dX9_yearsNow_80 rfl 1 rfl ?_
      refine rw_iload_n C dX9_yearsNow_81 rfl 3 rfl ?_
      refine rw_jn (fun j2 => ∀ (x4 : Int32), pv_R g κ pv_T pv_RF 5 0 0 (pv_QP g κ pv_ji M) 92 [(0, .ref (κ.1 + 196)), (2, .int x2)] [.int x4, .int x1] M (j2 x4)) (fun x4 => ?_) (fun j2 hj2 => ?_)
      · refine rw_ior C dX9_yearsNow_92 ?_
        refine rw_nm (fun x5 => ?_)
        refine rw_istore_n (lv' := [(1, .int x5), (0, .ref (κ.1 + 196)), (2, .int x2)]) C dX9_yearsNow_93 rfl (by decide) rfl ?_
        refine rw_iinc (c := 1) (lv' := [(2, .int (x2 + 1)), (1, .int x5), (0, .ref (κ.1 + 196))]) C dX9_yearsNow_94 2 rfl (by decide) (by decide) rfl ?_
        refine rw_goto (tgt := 4) C dX9_yearsNow_97 (by decide) ?_
        exact rw_lv [2, 1, 0] rfl (hrec1 x5 (x2 + 1))
      · refine rw_if_eq (tgt := 91) C dX9_yearsNow_82 (by decide) ?_ ?_
        · refine rw_iconst (c := 0) C dX9_yearsNow_91 ci_0 ?_
          exact rw_lv [0, 2] rfl (hj2 0)
        · refine rw_iconst (c := 1) C dX9_yearsNow_85 ci_1 ?_
          refine rw_iload_n C dX9_yearsNow_86 rfl 2 rfl ?_
          refine rw_ishl C dX9_yearsNow_87 ?_
          refine rw_goto (tgt := 92) C dX9_yearsNow_88 (by decide) ?_
          exact rw_lv [0, 2] rfl (hj2 (1 <<< (x2 &&& 31)))
    · refine rw_lv (lv' := [(0, .ref (κ.1 + 196)), (1, .int x1), (2, .int x2), (3, .int 1), (4, .int 0)]) [2, 3, 4, 1, 0] rfl ?_
      refine pv_lp2_ind (fun x6 x7 xx => pv_R g κ pv_T pv_RF 5 0 0 (pv_QP g κ pv_ji M) 15 [(0, .ref (κ.1 + 196)), (1, .int x1), (2, .int x2), (3, .int x6), (4, .int x7)] [] M xx) (fun _ _ => rw_none) (fun rec2 hrec2 x6 x7 => ?_) _ _ _
      unfold f_X9_yearsNow_L15
      refine rw_iload C dX9_yearsNow_15 4 rfl ?_
      refine rw_aload_n C dX9_yearsNow_17 rfl 0 rfl ?_
      refine rw_getI (k0 := 196) C dX9_yearsNow_18 fl_X9_336 rfl (by decide) sh_196 (by decide) (fun x8 => ?_)
      refine rw_icmp_ge (tgt := 80) C dX9_yearsNow_21 (by decide) ?_ ?_
      · exact rw_lv [0, 1, 2, 3] rfl (hj1 x6)
      · refine rw_iload_n C dX9_yearsNow_24 rfl 3 rfl ?_
        refine rw_if_eq (tgt := 72) C dX9_yearsNow_25 (by decide) ?_ ?_
        · refine rw_iconst (c := 0) C dX9_yearsNow_72 ci_0 ?_
          refine rw_istore_n (lv' := [(3, .int 0), (0, .ref (κ.1 + 196)), (1, .int x1), (2, .int x2), (4, .int x7)]) C dX9_yearsNow_73 rfl (by decide) rfl ?_
          refine rw_iinc (c := 1) (lv' := [(4, .int (x7 + 1)), (3, .int 0), (0, .ref (κ.1 + 196)), (1, .int x1), (2, .int x2)]) C dX9_yearsNow_74 4 rfl (by decide) (by decide) rfl ?_
          refine rw_goto (tgt := 15) C dX9_yearsNow_77 (by decide) ?_
          exact rw_lv [2, 3, 4, 1, 0] rfl (hrec2 0 (x7 + 1))
        · refine rw_aload_n C dX9_yearsNow_28 rfl 0 rfl ?_
          refine rw_getR (k0 := 196) (k1 := 221) C dX9_yearsNow_29 fl_X9_83 rfl (by decide) sh_196 (by decide) rfl ?_
          refine rw_iconst (c := 3) C dX9_yearsNow_32 ci_3 ?_
          refine rw_iload C dX9_yearsNow_33 4 rfl ?_
          refine rw_imul C dX9_yearsNow_35 ?_
          refine rw_ldI C dX9_yearsNow_36 (fun x9 => ?_)
          refine rw_aload_n C dX9_yearsNow_37 rfl 0 rfl ?_
          refine rw_iload_n C dX9_yearsNow_38 rfl 2 rfl ?_
          refine rw_aload_n C dX9_yearsNow_39 rfl 0 rfl ?_
          refine rw_getR (k0 := 196) (k1 := 221) C dX9_yearsNow_40 fl_X9_83 rfl (by decide) sh_196 (by decide) rfl ?_
          refine rw_iconst (c := 3) C dX9_yearsNow_43 ci_3 ?_
          refine rw_iload C dX9_yearsNow_44 4 rfl ?_
          refine rw_imul C dX9_yearsNow_46 ?_
          refine rw_iconst (c := 1) C dX9_yearsNow_47 ci_1 ?_
          refine rw_iadd C dX9_yearsNow_48 ?_
          refine rw_ldI C dX9_yearsNow_49 (fun x10 => ?_)
          refine rw_callVPi (As := [.int x2, .int x10]) (k0 := 196) C hR dX9_yearsNow_50 cv_X9_210 (k_X9_greatOf g.2.1 κ x2 x10 M) (by decide) (by decide) (by decide) sh_196 rfl rfl (Nat.le_of_ble_eq_true rfl) rfl (fun x11 => ?_)
          refine rw_imul C dX9_yearsNow_53 ?_
          refine rw_aload_n C dX9_yearsNow_54 rfl 0 rfl ?_
          refine rw_getR (k0 := 196) (k1 := 221) C dX9_yearsNow_55 fl_X9_83 rfl (by decide) sh_196 (by decide) rfl ?_
          refine rw_iconst (c := 3) C dX9_yearsNow_58 ci_3 ?_
          refine rw_iload C dX9_yearsNow_59 4 rfl ?_
          refine rw_imul C dX9_yearsNow_61 ?_
          refine rw_iconst (c := 2) C dX9_yearsNow_62 ci_2 ?_
          refine rw_iadd C dX9_yearsNow_63 ?_
          refine rw_ldI C dX9_yearsNow_64 (fun x12 => ?_)
          refine rw_icmp_ne (tgt := 72) C dX9_yearsNow_65 (by decide) ?_ ?_
          · refine rw_iconst (c := 0) C dX9_yearsNow_72 ci_0 ?_
            refine rw_istore_n (lv' := [(3, .int 0), (0, .ref (κ.1 + 196)), (1, .int x1), (2, .int x2), (4, .int x7)]) C dX9_yearsNow_73 rfl (by decide) rfl ?_
            refine rw_iinc (c := 1) (lv' := [(4, .int (x7 + 1)), (3, .int 0), (0, .ref (κ.1 + 196)), (1, .int x1), (2, .int x2)]) C dX9_yearsNow_74 4 rfl (by decide) (by decide) rfl ?_
            refine rw_goto (tgt := 15) C dX9_yearsNow_77 (by decide) ?_
            exact rw_lv [2, 3, 4, 1, 0] rfl (hrec2 0 (x7 + 1))
          · refine rw_iconst (c := 1) C dX9_yearsNow_68 ci_1 ?_
            refine rw_goto (tgt := 73) C dX9_yearsNow_69 (by decide) ?_
            refine rw_istore_n (lv' := [(3, .int 1), (0, .ref (κ.1 + 196)), (1, .int x1), (2, .int x2), (4, .int x7)]) C dX9_yearsNow_73 rfl (by decide) rfl ?_
            refine rw_iinc (c := 1) (lv' := [(4, .int (x7 + 1)), (3, .int 1), (0, .ref (κ.1 + 196)), (1, .int x1), (2, .int x2)]) C dX9_yearsNow_74 4 rfl (by decide) (by decide) rfl ?_
            refine rw_goto (tgt := 15) C dX9_yearsNow_77 (by decide) ?_
            exact rw_lv [2, 3, 4, 1, 0] rfl (hrec2 1 (x7 + 1))
def f_X9_years (M : pv_M) : Option (Int32 × pv_M) := pv_cal (f_X9_livesNow M) (fun u1 M1 => pv_cap (f_X9_yearsNow M1) (fun x1 => some (x1, M1)))
set_option maxHeartbeats 4000000 in
set_option maxRecDepth 100000 in
theorem k_X9_years (l : Launch) (κ : pv_K) (M : pv_M) : pv_Mt l yX9_years cX9_years 1 (some .int) 7 κ [.ref (κ.1 + 196)] M pv_ji (f_X9_years M) := by
  refine pv_enter (by decide +kernel) (Nat.le_of_ble_eq_true rfl) (fun g hl hR C => ?_)
  have C : pv_Ok g κ 1 cX9_years RX9 (some .int) := C
  show pv_R g κ pv_T pv_RF 1 0 0 (pv_QF g κ pv_ji) 0 [(0, .ref (κ.1 + 196))] [] M (f_X9_years M)
  unfold f_X9_years
  refine rw_aload_n C dX9_years_0 rfl 0 rfl ?_
  refine rw_callVu (As := []) (k0 := 196) C hR dX9_years_1 cv_X9_207 (k_X9_livesNow g.2.1 κ M) (by decide) (by decide) (by decide) sh_196 rfl rfl (Nat.le_of_ble_eq_true rfl) rfl (fun u1 M1 => ?_)
  refine rw_aload_n C dX9_years_4 rfl 0 rfl ?_
  refine rw_callVPi (As := []) (k0 := 196) C hR dX9_years_5 cv_X9_339 (k_X9_yearsNow g.2.1 κ M1) (by decide) (by decide) (by decide) sh_196 rfl rfl (Nat.le_of_ble_eq_true rfl) rfl (fun x1 => ?_)
  exact rw_iret C dX9_years_8
def f_X9_back_J64 (M : pv_M) (x3 : Int32) (x2 : Int32) (a1 : Int32) (x4 : Int32) : Option (Int32 × pv_M) := pv_nm (pv_u M.1 196 12 (x3 - x4), M.2) (fun M1 => pv_nm (M1.1 196 17) (fun x5 => pv_jn (fun (x6 : Int32) => pv_nm (pv_u M1.1 196 17 (x5 - x6), M1.2) (fun M2 => pv_nm (M2.1 196 32) (fun x7 => pv_jn (fun (x8 : Int32) => pv_nm (pv_u M2.1 196 32 (x7 - x8), M2.2) (fun M3 => some (x2 - 1, M3))) (fun j4 => (if a1 = 2 then j4 1 else j4 0))))) (fun j3 => (if a1 = 1 then j3 1 else j3 0))))
def f_X9_back (a1 : Int32) (M : pv_M) : Option (Int32 × pv_M) := pv_cap (f_X9_in a1.toInt64 0 2 M) (fun x1 => (if x1 = 0 then some ((-2), M) else pv_jn (fun (x2 : Int32) => (if x2 = 0 then some ((-3), M) else pv_nm (M.1 196 12) (fun x3 => pv_jn (f_X9_back_J64 M x3 x2 a1) (fun j2 => (if a1 = 0 then j2 1 else j2 0))))) (fun j1 => (if a1 = 0 then pv_nm (M.1 196 12) (fun x11 => j1 x11) else (if a1 = 1 then pv_nm (M.1 196 17) (fun x10 => j1 x10) else pv_nm (M.1 196 32) (fun x9 => j1 x9))))))
set_option maxHeartbeats 4000000 in
set_option maxRecDepth 100000 in
theorem k_X9_back (l : Launch) (κ : pv_K) (a1 : Int32) (M : pv_M) : pv_Mt l yX9_back cX9_back 3 (some .int) 1 κ [.ref (κ.1 + 196), .int a1] M pv_ji (f_X9_back a1 M) := by
  refine pv_enter (by decide +kernel) (Nat.le_of_ble_eq_true rfl) (fun g hl hR C => ?_)
  have C : pv_Ok g κ 3 cX9_back RX9 (some .int) := C
  show pv_R g κ pv_T pv_RF 3 0 0 (pv_QF g κ pv_ji) 0 [(0, .ref (κ.1 + 196)), (1, .int a1)] [] M (f_X9_back a1 M)
  unfold f_X9_back
  refine rw_iload_n C dX9_back_0 rfl 1 rfl ?_
  refine rw_i2l C dX9_back_1 ?_
  refine rw_lconst (c := 0) C dX9_back_2 (by decide) ?_
  refine rw_ldc2_w (c := 2) C dX9_back_3 mw_196 ?_
  refine rw_callSPi (As := [.long (a1.toInt64), .long 0, .long 2]) C hR dX9_back_6 cs_X9_88 (k_X9_in g.2.1 κ a1.toInt64 0 2 M) (by decide) (by decide) rfl (Nat.le_of_ble_eq_true rfl) rfl (fun x1 => ?_)
  refine rw_if_ne (tgt := 15) C dX9_back_9 (by decide) ?_ ?_
  · refine rw_iload_n C dX9_back_15 rfl 1 rfl ?_
    refine rw_jn (fun j1 => ∀ (x2 : Int32), pv_R g κ pv_T pv_RF 3 0 0 (pv_QF g κ pv_ji) 42 [(0, .ref (κ.1 + 196)), (1, .int a1)] [.int x2] M (j1 x2)) (fun x2 => ?_) (fun j1 hj1 => ?_)
    · refine rw_istore_n (lv' := [(2, .int x2), (0, .ref (κ.1 + 196)), (1, .int a1)]) C dX9_back_42 rfl (by decide) rfl ?_
      refine rw_iload_n C dX9_back_43 rfl 0 rfl ?_
      refine rw_if_ne (tgt := 50) C dX9_back_44 (by decide) ?_ ?_
      · refine rw_aload_n C dX9_back_50 rfl 1 rfl ?_
        refine rw_dup C dX9_back_51 rfl ?_
        refine rw_getI (k0 := 196) C dX9_back_52 fl_X9_171 rfl (by decide) sh_196 (by decide) (fun x3 => ?_)
        refine rw_iload_n C dX9_back_55 rfl 2 rfl ?_
        refine rw_jn (fun j2 => ∀ (x4 : Int32), pv_R g κ pv_T pv_RF 3 0 0 (pv_QF g κ pv_ji) 64 [(0, .ref (κ.1 + 196)), (1, .int a1), (2, .int x2)] [.int x4, .int x3, .ref (κ.1 + 196)] M (j2 x4)) (fun x4 => ?_) (fun j2 hj2 => ?_)
        · unfold f_X9_back_J64
          refine rw_isub C dX9_back_64 ?_
          refine rw_put (k0 := 196) C dX9_back_65 fl_X9_171 ff_X9_12 rfl rfl rfl (by decide) sh_196 (by decide) (fun M1 => ?_)
          refine rw_aload_n C dX9_back_68 rfl 0 rfl ?_
          refine rw_dup C dX9_back_69 rfl ?_
          refine rw_getI (k0 := 196) C dX9_back_70 fl_X9_217 rfl (by decide) sh_196 (by decide) (fun x5 => ?_)
          refine rw_iload_n C dX9_back_73 rfl 1 rfl ?_
          refine rw_iconst (c := 1) C dX9_back_74 ci_1 ?_
          refine rw_jn (fun j3 => ∀ (x6 : Int32), pv_R g κ pv_T pv_RF 3 0 0 (pv_QF g κ pv_ji) 83 [(0, .ref (κ.1 + 196)), (1, .int a1), (2, .int x2)] [.int x6, .int x5, .ref (κ.1 + 196)] M1 (j3 x6)) (fun x6 => ?_) (fun j3 hj3 => ?_)
          · refine rw_isub C dX9_back_83 ?_
            refine rw_put (k0 := 196) C dX9_back_84 fl_X9_217 ff_X9_17 rfl rfl rfl (by decide) sh_196 (by decide) (fun M2 => ?_)
            refine rw_aload_n C dX9_back_87 rfl 0 rfl ?_
            refine rw_dup C dX9_back_88 rfl ?_
            refine rw_getI (k0 := 196) C dX9_back_89 fl_X9_336 rfl (by decide) sh_196 (by decide) (fun x7 => ?_)
            refine rw_iload_n C dX9_back_92 rfl 1 rfl ?_
            refine rw_iconst (c := 2) C dX9_back_93 ci_2 ?_
            refine rw_jn (fun j4 => ∀ (x8 : Int32), pv_R g κ pv_T pv_RF 3 0 0 (pv_QF g κ pv_ji) 102 [(2, .int x2)] [.int x8, .int x7, .ref (κ.1 + 196)] M2 (j4 x8)) (fun x8 => ?_) (fun j4 hj4 => ?_)
            · refine rw_isub C dX9_back_102 ?_
              refine rw_put (k0 := 196) C dX9_back_103 fl_X9_336 ff_X9_32 rfl rfl rfl (by decide) sh_196 (by decide) (fun M3 => ?_)
              refine rw_iload_n C dX9_back_106 rfl 0 rfl ?_
              refine rw_iconst (c := 1) C dX9_back_107 ci_1 ?_
              refine rw_isub C dX9_back_108 ?_
              exact rw_iret C dX9_back_109
            · refine rw_icmp_ne (tgt := 101) C dX9_back_94 (by decide) ?_ ?_
              · refine rw_iconst (c := 0) C dX9_back_101 ci_0 ?_
                exact rw_lv [2] rfl (hj4 0)
              · refine rw_iconst (c := 1) C dX9_back_97 ci_1 ?_
                refine rw_goto (tgt := 102) C dX9_back_98 (by decide) ?_
                exact rw_lv [2] rfl (hj4 1)
          · refine rw_icmp_ne (tgt := 82) C dX9_back_75 (by decide) ?_ ?_
            · refine rw_iconst (c := 0) C dX9_back_82 ci_0 ?_
              exact hj3 0
            · refine rw_iconst (c := 1) C dX9_back_78 ci_1 ?_
              refine rw_goto (tgt := 83) C dX9_back_79 (by decide) ?_
              exact hj3 1
        · refine rw_if_ne (tgt := 63) C dX9_back_56 (by decide) ?_ ?_
          · refine rw_iconst (c := 0) C dX9_back_63 ci_0 ?_
            exact rw_lv [1, 2, 0] rfl (hj2 0)
          · refine rw_iconst (c := 1) C dX9_back_59 ci_1 ?_
            refine rw_goto (tgt := 64) C dX9_back_60 (by decide) ?_
            exact rw_lv [1, 2, 0] rfl (hj2 1)
      · refine rw_bipush (c := (-3)) C dX9_back_47 (by decide) ?_
        exact rw_iret C dX9_back_49
    · refine rw_if_ne (tgt := 26) C dX9_back_16 (by decide) ?_ ?_
      · refine rw_iload_n C dX9_back_26 rfl 1 rfl ?_
        refine rw_iconst (c := 1) C dX9_back_27 ci_1 ?_
        refine rw_icmp_ne (tgt := 38) C dX9_back_28 (by decide) ?_ ?_
        · refine rw_aload_n C dX9_back_38 rfl 0 rfl ?_
          refine rw_getI (k0 := 196) C dX9_back_39 fl_X9_336 rfl (by decide) sh_196 (by decide) (fun x9 => ?_)
          exact hj1 x9
        · refine rw_aload_n C dX9_back_31 rfl 0 rfl ?_
          refine rw_getI (k0 := 196) C dX9_back_32 fl_X9_217 rfl (by decide) sh_196 (by decide) (fun x10 => ?_)
          refine rw_goto (tgt := 42) C dX9_back_35 (by decide) ?_
          exact hj1 x10
      · refine rw_aload_n C dX9_back_19 rfl 0 rfl ?_
        refine rw_getI (k0 := 196) C dX9_back_20 fl_X9_171 rfl (by decide) sh_196 (by decide) (fun x11 => ?_)
        refine rw_goto (tgt := 42) C dX9_back_23 (by decide) ?_
        exact hj1 x11
  · refine rw_bipush (c := (-2)) C dX9_back_12 (by decide) ?_
    exact rw_iret C dX9_back_14
def f_X9_read_L27 (a1 : Int32) (rec1 : Int32 → pv_M → Option (Int32 × pv_M)) (x3 : Int32) (M1 : pv_M) : Option (Int32 × pv_M) := pv_ldI pv_T 198 a1 M1 (fun x4 => (if x4 ≤ x3 then some (x3, M1) else pv_ldI pv_T 199 ((60 * a1) + x3) M1 (fun x5 => pv_cal (f_X9_purse x3 x5 M1) (fun x6 M2 => (if x6 < 0 then some (x3, M2) else rec1 (x3 + 1) M2)))))
def f_X9_read (a1 : Int32) (M : pv_M) : Option (Int32 × pv_M) := pv_cap (f_X9_isSheet a1 M) (fun x1 => (if x1 = 0 then some ((-2), M) else pv_ldI pv_T 197 a1 M (fun x2 => (if 0 ≤ x2 then pv_lp2 (f_X9_read_L27 a1) pv_FU 0 M else pv_cal (f_X9_met 1 M) (fun x7 M3 => some (x7, M3))))))
set_option maxHeartbeats 4000000 in
set_option maxRecDepth 100000 in
theorem k_X9_read (l : Launch) (κ : pv_K) (a1 : Int32) (M : pv_M) : pv_Mt l yX9_read cX9_read 3 (some .int) 3 κ [.ref (κ.1 + 196), .int a1] M pv_ji (f_X9_read a1 M) := by
  refine pv_enter (by decide +kernel) (Nat.le_of_ble_eq_true rfl) (fun g hl hR C => ?_)
  have C : pv_Ok g κ 3 cX9_read RX9 (some .int) := C
  show pv_R g κ pv_T pv_RF 3 0 0 (pv_QF g κ pv_ji) 0 [(0, .ref (κ.1 + 196)), (1, .int a1)] [] M (f_X9_read a1 M)
  unfold f_X9_read
  refine rw_iload_n C dX9_read_0 rfl 1 rfl ?_
  refine rw_callSPi (As := [.int a1]) C hR dX9_read_1 cs_X9_98 (k_X9_isSheet g.2.1 κ a1 M) (by decide) (by decide) rfl (Nat.le_of_ble_eq_true rfl) rfl (fun x1 => ?_)
  refine rw_if_ne (tgt := 10) C dX9_read_4 (by decide) ?_ ?_
  · refine rw_aload_n C dX9_read_10 rfl 0 rfl ?_
    refine rw_getR (k0 := 196) (k1 := 197) C dX9_read_11 fl_X9_7 rfl (by decide) sh_196 (by decide) rfl ?_
    refine rw_iload_n C dX9_read_14 rfl 1 rfl ?_
    refine rw_ldI C dX9_read_15 (fun x2 => ?_)
    refine rw_if_ge (tgt := 25) C dX9_read_16 (by decide) ?_ ?_
    · refine rw_iconst (c := 0) C dX9_read_25 ci_0 ?_
      refine rw_istore_n (lv' := [(2, .int 0), (0, .ref (κ.1 + 196)), (1, .int a1)]) C dX9_read_26 rfl (by decide) rfl ?_
      refine rw_lv (lv' := [(0, .ref (κ.1 + 196)), (1, .int a1), (2, .int 0)]) [1, 2, 0] rfl ?_
      refine pv_lp2_ind (fun x3 M1 xx => pv_R g κ pv_T pv_RF 3 0 0 (pv_QF g κ pv_ji) 27 [(0, .ref (κ.1 + 196)), (1, .int a1), (2, .int x3)] [] M1 xx) (fun _ _ => rw_none) (fun rec1 hrec1 x3 M1 => ?_) _ _ _
      unfold f_X9_read_L27
      refine rw_iload_n C dX9_read_27 rfl 2 rfl ?_
      refine rw_aload_n C dX9_read_28 rfl 0 rfl ?_
      refine rw_getR (k0 := 196) (k1 := 198) C dX9_read_29 fl_X9_13 rfl (by decide) sh_196 (by decide) rfl ?_
      refine rw_iload_n C dX9_read_32 rfl 1 rfl ?_
      refine rw_ldI C dX9_read_33 (fun x4 => ?_)
      refine rw_icmp_ge (tgt := 62) C dX9_read_34 (by decide) ?_ ?_
      · refine rw_iload_n C dX9_read_62 rfl 2 rfl ?_
        exact rw_iret C dX9_read_63
      · refine rw_aload_n C dX9_read_37 rfl 0 rfl ?_
        refine rw_iload_n C dX9_read_38 rfl 2 rfl ?_
        refine rw_aload_n C dX9_read_39 rfl 0 rfl ?_
        refine rw_getR (k0 := 196) (k1 := 199) C dX9_read_40 fl_X9_16 rfl (by decide) sh_196 (by decide) rfl ?_
        refine rw_bipush (c := 60) C dX9_read_43 (by decide) ?_
        refine rw_iload_n C dX9_read_45 rfl 1 rfl ?_
        refine rw_imul C dX9_read_46 ?_
        refine rw_iload_n C dX9_read_47 rfl 2 rfl ?_
        refine rw_iadd C dX9_read_48 ?_
        refine rw_ldI C dX9_read_49 (fun x5 => ?_)
        refine rw_callVi (As := [.int x3, .int x5]) (k0 := 196) C hR dX9_read_50 cv_X9_342 (k_X9_purse g.2.1 κ x3 x5 M1) (by decide) (by decide) (by decide) sh_196 rfl rfl (Nat.le_of_ble_eq_true rfl) rfl (fun x6 M2 => ?_)
        refine rw_if_lt (tgt := 62) C dX9_read_53 (by decide) ?_ ?_
        · refine rw_iload_n C dX9_read_62 rfl 2 rfl ?_
          exact rw_iret C dX9_read_63
        · refine rw_iinc (c := 1) (lv' := [(2, .int (x3 + 1)), (0, .ref (κ.1 + 196)), (1, .int a1)]) C dX9_read_56 2 rfl (by decide) (by decide) rfl ?_
          refine rw_goto (tgt := 27) C dX9_read_59 (by decide) ?_
          exact rw_lv [1, 2, 0] rfl (hrec1 (x3 + 1) M2)
    · refine rw_aload_n C dX9_read_19 rfl 0 rfl ?_
      refine rw_iconst (c := 1) C dX9_read_20 ci_1 ?_
      refine rw_callVi (As := [.int 1]) (k0 := 196) C hR dX9_read_21 cv_X9_104 (k_X9_met g.2.1 κ 1 M) (by decide) (by decide) (by decide) sh_196 rfl rfl (Nat.le_of_ble_eq_true rfl) rfl (fun x7 M3 => ?_)
      exact rw_iret C dX9_read_24
  · refine rw_bipush (c := (-2)) C dX9_read_7 (by decide) ?_
    exact rw_iret C dX9_read_9
def f_X9_write_L62 (x5 : Int32) (a2 : Int32) (a1 : Int32) (rec1 : Int32 → pv_M → Option (Int32 × pv_M)) (x6 : Int32) (M2 : pv_M) : Option (Int32 × pv_M) := (if x5 ≤ x6 then some (x5, M2) else pv_ldI pv_T 197 a2 M2 (fun x7 => pv_cap (f_X9_moneyOf x6 a1 M2) (fun x8 => pv_cap (f_X9_cut x7 x8 M2) (fun x9 => pv_stI pv_T 199 ((60 * a2) + x6) x9 M2 (fun M3 => rec1 (x6 + 1) M3)))))
def f_X9_write (a1 : Int32) (a2 : Int32) (M : pv_M) : Option (Int32 × pv_M) := pv_cap (f_X9_isYear a1 M) (fun x1 => (if x1 = 0 then some ((-2), M) else pv_cap (f_X9_isSheet a2 M) (fun x2 => (if x2 = 0 then some ((-2), M) else pv_ldI pv_T 197 a2 M (fun x3 => (if 0 ≤ x3 then pv_cal (f_X9_livesNow M) (fun u1 M1 => pv_ldI pv_T 198 a2 M1 (fun x4 => pv_jn (fun (x5 : Int32) => pv_lp2 (f_X9_write_L62 x5 a2 a1) pv_FU 0 M1) (fun j1 => (if 8 ≤ x4 then j1 8 else pv_ldI pv_T 198 a2 M1 (fun x10 => j1 x10))))) else pv_cal (f_X9_met 1 M) (fun x11 M4 => some (x11, M4))))))))
set_option maxHeartbeats 4000000 in
set_option maxRecDepth 100000 in
theorem k_X9_write (l : Launch) (κ : pv_K) (a1 : Int32) (a2 : Int32) (M : pv_M) : pv_Mt l yX9_write cX9_write 5 (some .int) 7 κ [.ref (κ.1 + 196), .int a1, .int a2] M pv_ji (f_X9_write a1 a2 M) := by
  refine pv_enter (by decide +kernel) (Nat.le_of_ble_eq_true rfl) (fun g hl hR C => ?_)
  have C : pv_Ok g κ 5 cX9_write RX9 (some .int) := C
  show pv_R g κ pv_T pv_RF 5 0 0 (pv_QF g κ pv_ji) 0 [(0, .ref (κ.1 + 196)), (1, .int a1), (2, .int a2)] [] M (f_X9_write a1 a2 M)
  unfold f_X9_write
  refine rw_iload_n C dX9_write_0 rfl 1 rfl ?_
  refine rw_callSPi (As := [.int a1]) C hR dX9_write_1 cs_X9_165 (k_X9_isYear g.2.1 κ a1 M) (by decide) (by decide) rfl (Nat.le_of_ble_eq_true rfl) rfl (fun x1 => ?_)
  refine rw_if_eq (tgt := 14) C dX9_write_4 (by decide) ?_ ?_
  · refine rw_bipush (c := (-2)) C dX9_write_14 (by decide) ?_
    exact rw_iret C dX9_write_16
  · refine rw_iload_n C dX9_write_7 rfl 2 rfl ?_
    refine rw_callSPi (As := [.int a2]) C hR dX9_write_8 cs_X9_98 (k_X9_isSheet g.2.1 κ a2 M) (by decide) (by decide) rfl (Nat.le_of_ble_eq_true rfl) rfl (fun x2 => ?_)
    refine rw_if_ne (tgt := 17) C dX9_write_11 (by decide) ?_ ?_
    · refine rw_aload_n C dX9_write_17 rfl 0 rfl ?_
      refine rw_getR (k0 := 196) (k1 := 197) C dX9_write_18 fl_X9_7 rfl (by decide) sh_196 (by decide) rfl ?_
      refine rw_iload_n C dX9_write_21 rfl 2 rfl ?_
      refine rw_ldI C dX9_write_22 (fun x3 => ?_)
      refine rw_if_ge (tgt := 32) C dX9_write_23 (by decide) ?_ ?_
      · refine rw_aload_n C dX9_write_32 rfl 0 rfl ?_
        refine rw_callVu (As := []) (k0 := 196) C hR dX9_write_33 cv_X9_207 (k_X9_livesNow g.2.1 κ M) (by decide) (by decide) (by decide) sh_196 rfl rfl (Nat.le_of_ble_eq_true rfl) rfl (fun u1 M1 => ?_)
        refine rw_aload_n C dX9_write_36 rfl 0 rfl ?_
        refine rw_getR (k0 := 196) (k1 := 198) C dX9_write_37 fl_X9_13 rfl (by decide) sh_196 (by decide) rfl ?_
        refine rw_iload_n C dX9_write_40 rfl 2 rfl ?_
        refine rw_ldI C dX9_write_41 (fun x4 => ?_)
        refine rw_bipush (c := 8) C dX9_write_42 (by decide) ?_
        refine rw_jn (fun j1 => ∀ (x5 : Int32), pv_R g κ pv_T pv_RF 5 0 0 (pv_QF g κ pv_ji) 58 [(0, .ref (κ.1 + 196)), (1, .int a1), (2, .int a2)] [.int x5] M1 (j1 x5)) (fun x5 => ?_) (fun j1 hj1 => ?_)
        · refine rw_istore_n (lv' := [(3, .int x5), (0, .ref (κ.1 + 196)), (1, .int a1), (2, .int a2)]) C dX9_write_58 rfl (by decide) rfl ?_
          refine rw_iconst (c := 0) C dX9_write_59 ci_0 ?_
          refine rw_istore (lv' := [(4, .int 0), (3, .int x5), (0, .ref (κ.1 + 196)), (1, .int a1), (2, .int a2)]) C dX9_write_60 (by decide) rfl ?_
          refine rw_lv (lv' := [(0, .ref (κ.1 + 196)), (1, .int a1), (2, .int a2), (3, .int x5), (4, .int 0)]) [2, 3, 4, 1, 0] rfl ?_
          refine pv_lp2_ind (fun x6 M2 xx => pv_R g κ pv_T pv_RF 5 0 0 (pv_QF g κ pv_ji) 62 [(0, .ref (κ.1 + 196)), (1, .int a1), (2, .int a2), (3, .int x5), (4, .int x6)] [] M2 xx) (fun _ _ => rw_none) (fun rec1 hrec1 x6 M2 => ?_) _ _ _
          unfold f_X9_write_L62
          refine rw_iload C dX9_write_62 4 rfl ?_
          refine rw_iload_n C dX9_write_64 rfl 3 rfl ?_
          refine rw_icmp_ge (tgt := 102) C dX9_write_65 (by decide) ?_ ?_
          · refine rw_iload_n C dX9_write_102 rfl 3 rfl ?_
            exact rw_iret C dX9_write_103
          · refine rw_aload_n C dX9_write_68 rfl 0 rfl ?_
            refine rw_getR (k0 := 196) (k1 := 199) C dX9_write_69 fl_X9_16 rfl (by decide) sh_196 (by decide) rfl ?_
            refine rw_bipush (c := 60) C dX9_write_72 (by decide) ?_
            refine rw_iload_n C dX9_write_74 rfl 2 rfl ?_
            refine rw_imul C dX9_write_75 ?_
            refine rw_iload C dX9_write_76 4 rfl ?_
            refine rw_iadd C dX9_write_78 ?_
            refine rw_aload_n C dX9_write_79 rfl 0 rfl ?_
            refine rw_getR (k0 := 196) (k1 := 197) C dX9_write_80 fl_X9_7 rfl (by decide) sh_196 (by decide) rfl ?_
            refine rw_iload_n C dX9_write_83 rfl 2 rfl ?_
            refine rw_ldI C dX9_write_84 (fun x7 => ?_)
            refine rw_aload_n C dX9_write_85 rfl 0 rfl ?_
            refine rw_iload C dX9_write_86 4 rfl ?_
            refine rw_iload_n C dX9_write_88 rfl 1 rfl ?_
            refine rw_callVPi (As := [.int x6, .int a1]) (k0 := 196) C hR dX9_write_89 cv_X9_226 (k_X9_moneyOf g.2.1 κ x6 a1 M2) (by decide) (by decide) (by decide) sh_196 rfl rfl (Nat.le_of_ble_eq_true rfl) rfl (fun x8 => ?_)
            refine rw_callSPi (As := [.int x7, .int x8]) C hR dX9_write_92 cs_X9_112 (k_X9_cut g.2.1 κ x7 x8 M2) (by decide) (by decide) rfl (Nat.le_of_ble_eq_true rfl) rfl (fun x9 => ?_)
            refine rw_stI C dX9_write_95 (fun M3 => ?_)
            refine rw_iinc (c := 1) (lv' := [(4, .int (x6 + 1)), (0, .ref (κ.1 + 196)), (1, .int a1), (2, .int a2), (3, .int x5)]) C dX9_write_96 4 rfl (by decide) (by decide) rfl ?_
            refine rw_goto (tgt := 62) C dX9_write_99 (by decide) ?_
            exact rw_lv [1, 2, 3, 4, 0] rfl (hrec1 (x6 + 1) M3)
        · refine rw_icmp_ge (tgt := 56) C dX9_write_44 (by decide) ?_ ?_
          · refine rw_bipush (c := 8) C dX9_write_56 (by decide) ?_
            exact hj1 8
          · refine rw_aload_n C dX9_write_47 rfl 0 rfl ?_
            refine rw_getR (k0 := 196) (k1 := 198) C dX9_write_48 fl_X9_13 rfl (by decide) sh_196 (by decide) rfl ?_
            refine rw_iload_n C dX9_write_51 rfl 2 rfl ?_
            refine rw_ldI C dX9_write_52 (fun x10 => ?_)
            refine rw_goto (tgt := 58) C dX9_write_53 (by decide) ?_
            exact hj1 x10
      · refine rw_aload_n C dX9_write_26 rfl 0 rfl ?_
        refine rw_iconst (c := 1) C dX9_write_27 ci_1 ?_
        refine rw_callVi (As := [.int 1]) (k0 := 196) C hR dX9_write_28 cv_X9_104 (k_X9_met g.2.1 κ 1 M) (by decide) (by decide) (by decide) sh_196 rfl rfl (Nat.le_of_ble_eq_true rfl) rfl (fun x11 M4 => ?_)
        exact rw_iret C dX9_write_31
    · refine rw_bipush (c := (-2)) C dX9_write_14 (by decide) ?_
      exact rw_iret C dX9_write_16
def f_X9_count (a1 : Int32) (M : pv_M) : Option (Int32 × pv_M) := pv_cal (f_X9_reads M) (fun u1 M1 => pv_sw 9 a1 (fun i => if i = 0 then pv_ldI pv_T 203 a1 M1 (fun x1 => some (x1, M1)) else if i = 1 then pv_ldI pv_T 203 a1 M1 (fun x2 => some (x2, M1)) else if i = 2 then pv_ldI pv_T 203 a1 M1 (fun x3 => some (x3, M1)) else if i = 3 then pv_nm (M1.1 196 12) (fun x4 => some (x4, M1)) else if i = 4 then pv_nm (M1.1 196 17) (fun x5 => some (x5, M1)) else if i = 5 then pv_nm (M1.1 196 32) (fun x6 => some (x6, M1)) else if i = 6 then pv_ldI pv_T 205 (a1 - 6) M1 (fun x7 => some (x7, M1)) else if i = 7 then pv_ldI pv_T 205 (a1 - 6) M1 (fun x8 => some (x8, M1)) else if i = 8 then pv_nm (M1.1 196 4) (fun x9 => some (x9, M1)) else some ((-2), M1)))
set_option maxHeartbeats 4000000 in
set_option maxRecDepth 100000 in
theorem k_X9_count (l : Launch) (κ : pv_K) (a1 : Int32) (M : pv_M) : pv_Mt l yX9_count cX9_count 2 (some .int) 5 κ [.ref (κ.1 + 196), .int a1] M pv_ji (f_X9_count a1 M) := by
  refine pv_enter (by decide +kernel) (Nat.le_of_ble_eq_true rfl) (fun g hl hR C => ?_)
  have C : pv_Ok g κ 2 cX9_count RX9 (some .int) := C
  show pv_R g κ pv_T pv_RF 2 0 0 (pv_QF g κ pv_ji) 0 [(0, .ref (κ.1 + 196)), (1, .int a1)] [] M (f_X9_count a1 M)
  unfold f_X9_count
  refine rw_aload_n C dX9_count_0 rfl 0 rfl ?_
  refine rw_callVu (As := []) (k0 := 196) C hR dX9_count_1 cv_X9_151 (k_X9_reads g.2.1 κ M) (by decide) (by decide) (by decide) sh_196 rfl rfl (Nat.le_of_ble_eq_true rfl) rfl (fun u1 M1 => ?_)
  refine rw_iload_n C dX9_count_4 rfl 1 rfl ?_
  refine rw_sw (fun i => ([56, 56, 56, 63, 68, 73, 78, 78, 88] : List Nat).getD i 0) 93 C dX9_count_5 rfl (by decide) ⟨rfl, by decide⟩ (by decide) (fun i hi => ?_) ?_
  · rcases (show i = 0 ∨ i = 1 ∨ i = 2 ∨ i = 3 ∨ i = 4 ∨ i = 5 ∨ i = 6 ∨ i = 7 ∨ i = 8 by omega) with rfl | rfl | rfl | rfl | rfl | rfl | rfl | rfl | rfl
    · show pv_R g κ pv_T pv_RF 2 0 0 (pv_QF g κ pv_ji) 56 [(0, .ref (κ.1 + 196)), (1, .int a1)] [] M1 (pv_ldI pv_T 203 a1 M1 (fun x1 => some (x1, M1)))
      refine rw_aload_n C dX9_count_56 rfl 0 rfl ?_
      refine rw_getR (k0 := 196) (k1 := 203) C dX9_count_57 fl_X9_28 rfl (by decide) sh_196 (by decide) rfl ?_
      refine rw_iload_n C dX9_count_60 rfl 1 rfl ?_
      refine rw_ldI C dX9_count_61 (fun x1 => ?_)
      exact rw_iret C dX9_count_62
    · show pv_R g κ pv_T pv_RF 2 0 0 (pv_QF g κ pv_ji) 56 [(0, .ref (κ.1 + 196)), (1, .int a1)] [] M1 (pv_ldI pv_T 203 a1 M1 (fun x2 => some (x2, M1)))
      refine rw_aload_n C dX9_count_56 rfl 0 rfl ?_
      refine rw_getR (k0 := 196) (k1 := 203) C dX9_count_57 fl_X9_28 rfl (by decide) sh_196 (by decide) rfl ?_
      refine rw_iload_n C dX9_count_60 rfl 1 rfl ?_
      refine rw_ldI C dX9_count_61 (fun x2 => ?_)
      exact rw_iret C dX9_count_62
    · show pv_R g κ pv_T pv_RF 2 0 0 (pv_QF g κ pv_ji) 56 [(0, .ref (κ.1 + 196)), (1, .int a1)] [] M1 (pv_ldI pv_T 203 a1 M1 (fun x3 => some (x3, M1)))
      refine rw_aload_n C dX9_count_56 rfl 0 rfl ?_
      refine rw_getR (k0 := 196) (k1 := 203) C dX9_count_57 fl_X9_28 rfl (by decide) sh_196 (by decide) rfl ?_
      refine rw_iload_n C dX9_count_60 rfl 1 rfl ?_
      refine rw_ldI C dX9_count_61 (fun x3 => ?_)
      exact rw_iret C dX9_count_62
    · show pv_R g κ pv_T pv_RF 2 0 0 (pv_QF g κ pv_ji) 63 [(0, .ref (κ.1 + 196)), (1, .int a1)] [] M1 (pv_nm (M1.1 196 12) (fun x4 => some (x4, M1)))
      refine rw_aload_n C dX9_count_63 rfl 0 rfl ?_
      refine rw_getI (k0 := 196) C dX9_count_64 fl_X9_171 rfl (by decide) sh_196 (by decide) (fun x4 => ?_)
      exact rw_iret C dX9_count_67
    · show pv_R g κ pv_T pv_RF 2 0 0 (pv_QF g κ pv_ji) 68 [(0, .ref (κ.1 + 196)), (1, .int a1)] [] M1 (pv_nm (M1.1 196 17) (fun x5 => some (x5, M1)))
      refine rw_aload_n C dX9_count_68 rfl 0 rfl ?_
      refine rw_getI (k0 := 196) C dX9_count_69 fl_X9_217 rfl (by decide) sh_196 (by decide) (fun x5 => ?_)
      exact rw_iret C dX9_count_72
    · show pv_R g κ pv_T pv_RF 2 0 0 (pv_QF g κ pv_ji) 73 [(0, .ref (κ.1 + 196)), (1, .int a1)] [] M1 (pv_nm (M1.1 196 32) (fun x6 => some (x6, M1)))
      refine rw_aload_n C dX9_count_73 rfl 0 rfl ?_
      refine rw_getI (k0 := 196) C dX9_count_74 fl_X9_336 rfl (by decide) sh_196 (by decide) (fun x6 => ?_)
      exact rw_iret C dX9_count_77
    · show pv_R g κ pv_T pv_RF 2 0 0 (pv_QF g κ pv_ji) 78 [(0, .ref (κ.1 + 196)), (1, .int a1)] [] M1 (pv_ldI pv_T 205 (a1 - 6) M1 (fun x7 => some (x7, M1)))
      refine rw_aload_n C dX9_count_78 rfl 0 rfl ?_
      refine rw_getR (k0 := 196) (k1 := 205) C dX9_count_79 fl_X9_34 rfl (by decide) sh_196 (by decide) rfl ?_
      refine rw_iload_n C dX9_count_82 rfl 1 rfl ?_
      refine rw_bipush (c := 6) C dX9_count_83 (by decide) ?_
      refine rw_isub C dX9_count_85 ?_
      refine rw_ldI C dX9_count_86 (fun x7 => ?_)
      exact rw_iret C dX9_count_87
    · show pv_R g κ pv_T pv_RF 2 0 0 (pv_QF g κ pv_ji) 78 [(0, .ref (κ.1 + 196)), (1, .int a1)] [] M1 (pv_ldI pv_T 205 (a1 - 6) M1 (fun x8 => some (x8, M1)))
      refine rw_aload_n C dX9_count_78 rfl 0 rfl ?_
      refine rw_getR (k0 := 196) (k1 := 205) C dX9_count_79 fl_X9_34 rfl (by decide) sh_196 (by decide) rfl ?_
      refine rw_iload_n C dX9_count_82 rfl 1 rfl ?_
      refine rw_bipush (c := 6) C dX9_count_83 (by decide) ?_
      refine rw_isub C dX9_count_85 ?_
      refine rw_ldI C dX9_count_86 (fun x8 => ?_)
      exact rw_iret C dX9_count_87
    · show pv_R g κ pv_T pv_RF 2 0 0 (pv_QF g κ pv_ji) 88 [(0, .ref (κ.1 + 196)), (1, .int a1)] [] M1 (pv_nm (M1.1 196 4) (fun x9 => some (x9, M1)))
      refine rw_aload_n C dX9_count_88 rfl 0 rfl ?_
      refine rw_getI (k0 := 196) C dX9_count_89 fl_X9_92 rfl (by decide) sh_196 (by decide) (fun x9 => ?_)
      exact rw_iret C dX9_count_92
  · show pv_R g κ pv_T pv_RF 2 0 0 (pv_QF g κ pv_ji) 93 [(0, .ref (κ.1 + 196)), (1, .int a1)] [] M1 (some ((-2), M1))
    refine rw_bipush (c := (-2)) C dX9_count_93 (by decide) ?_
    exact rw_iret C dX9_count_95
def f_X9_digest_L467 (j9 : Int64 → Option (Int64 × pv_M)) (M14 : pv_M) (rec1 : Int64 → Int32 → Option (Int64 × pv_M)) (x21 : Int64) (x22 : Int32) : Option (Int64 × pv_M) := (if 3 ≤ x22 then j9 x21 else pv_cap (f_X9_tellsRound x22 M14) (fun x23 => pv_nm ((31 * x21) + x23.toInt64) (fun x24 => rec1 x24 (x22 + 1))))
def f_X9_digest_L403 (rec2 : Int64 → Int32 → pv_M → Option (Int64 × pv_M)) (x26 : Int32) (rec3 : Int64 → Int32 → pv_M → Option (Int64 × pv_M)) (x27 : Int64) (x28 : Int32) (M16 : pv_M) : Option (Int64 × pv_M) := (if 2 ≤ x28 then rec2 x27 (x26 + 1) M16 else pv_cal (f_X9_worth 0 x26 x28 M16) (fun x29 M17 => pv_nm ((31 * x27) + x29) (fun x30 => rec3 x30 (x28 + 1) M17)))
def f_X9_digest_L394 (j8 : Int64 → pv_M → Option (Int64 × pv_M)) (rec2 : Int64 → Int32 → pv_M → Option (Int64 × pv_M)) (x25 : Int64) (x26 : Int32) (M15 : pv_M) : Option (Int64 × pv_M) := (if 6 ≤ x26 then j8 x25 M15 else pv_lp3 (f_X9_digest_L403 rec2 x26) pv_FU x25 0 M15)
def f_X9_digest_J436 (x14 : Int64) (M11 : pv_M) : Option (Int64 × pv_M) := pv_cal (f_X9_clash M11) (fun x15 M12 => pv_nm ((31 * x14) + x15.toInt64) (fun x16 => pv_cal (f_X9_dropNow M12) (fun x17 M13 => pv_nm ((31 * x16) + x17.toInt64) (fun x18 => pv_cal (f_X9_findRound M13) (fun u3 M14 => pv_jn (fun (x19 : Int64) => pv_cap (f_X9_yearsNow M14) (fun x20 => some ((31 * x19) + x20.toInt64, M14))) (fun j9 => pv_lp2 (f_X9_digest_L467 j9 M14) pv_FU x18 ((-2))))))))
def f_X9_digest_L343 (j7 : Int64 → pv_M → Option (Int64 × pv_M)) (rec4 : Int64 → Int32 → pv_M → Option (Int64 × pv_M)) (x31 : Int64) (x32 : Int32) (M18 : pv_M) : Option (Int64 × pv_M) := pv_ldI pv_T 203 0 M18 (fun x33 => (if x33 ≤ x32 then j7 x31 M18 else pv_cal (f_X9_findWish x32 M18) (fun u4 M19 => pv_ldI pv_T 215 0 M19 (fun x34 => pv_nm ((31 * x31) + x34.toInt64) (fun x35 => pv_ldI pv_T 215 1 M19 (fun x36 => pv_nm ((31 * x35) + x36.toInt64) (fun x37 => rec4 x37 (x32 + 1) M19)))))))
def f_X9_digest_L289 (M7 : pv_M) (j6 : Int64 → Option (Int64 × pv_M)) (rec5 : Int64 → Int32 → Option (Int64 × pv_M)) (x38 : Int64) (x39 : Int32) : Option (Int64 × pv_M) := pv_nm (M7.1 196 17) (fun x40 => (if x40 ≤ x39 then j6 x38 else pv_cap (f_X9_worstOf x39 M7) (fun x41 => pv_nm ((31 * x38) + x41.toInt64) (fun x42 => rec5 x42 (x39 + 1)))))
def f_X9_digest_J316 (M7 : pv_M) (x8 : Int64) : Option (Int64 × pv_M) := pv_cal (f_X9_rest 0 M7) (fun x9 M8 => pv_nm ((31 * x8) + x9.toInt64) (fun x10 => pv_cal (f_X9_restsNow M8) (fun x11 M9 => pv_nm ((31 * x10) + x11.toInt64) (fun x12 => pv_jn (fun (x13 : Int64) (M10 : pv_M) => pv_jn (f_X9_digest_J436) (fun j8 => pv_lp3 (f_X9_digest_L394 j8) pv_FU x13 1 M10)) (fun j7 => pv_lp3 (f_X9_digest_L343 j7) pv_FU x12 0 M9)))))
def f_X9_digest_L263 (j5 : Int64 → pv_M → Option (Int64 × pv_M)) (rec6 : Int64 → Int32 → pv_M → Option (Int64 × pv_M)) (x43 : Int64) (x44 : Int32) (M20 : pv_M) : Option (Int64 × pv_M) := (if 2 ≤ x44 then j5 x43 M20 else pv_cal (f_X9_ruinedOf x44 M20) (fun x45 M21 => pv_nm ((31 * x43) + x45.toInt64) (fun x46 => rec6 x46 (x44 + 1) M21)))
def f_X9_digest_L221 (j4 : Int64 → pv_M → Option (Int64 × pv_M)) (rec7 : Int64 → Int32 → pv_M → Option (Int64 × pv_M)) (x47 : Int64) (x48 : Int32) (M22 : pv_M) : Option (Int64 × pv_M) := (if 8 ≤ x48 then j4 x47 M22 else pv_cap (f_X9_moneyOf x48 9 M22) (fun x49 => pv_nm ((31 * x47) + x49.toInt64) (fun x50 => pv_cal (f_X9_hedge x48 M22) (fun x51 M23 => pv_nm ((31 * x50) + x51.toInt64) (fun x52 => rec7 x52 (x48 + 1) M23)))))
def f_X9_digest_L136 (M3 : pv_M) (rec8 : Int64 → Int32 → Option (Int64 × pv_M)) (x54 : Int32) (x55 : Int32) (x56 : Int32) (rec9 : Int64 → Int32 → Option (Int64 × pv_M)) (x61 : Int64) (x62 : Int32) : Option (Int64 × pv_M) := pv_ldI pv_T 203 0 M3 (fun x63 => (if x63 ≤ x62 then rec8 x61 (x54 + 1) else pv_cap (f_X9_ticketOf x55 x62 x56 M3) (fun x64 => pv_nm ((31 * x61) + x64.toInt64) (fun x65 => pv_ldI pv_T 209 (((12 * x55) + (4 * x56)) + x62) M3 (fun x66 => pv_nm ((31 * x65) + x66.toInt64) (fun x67 => rec9 x67 (x62 + 1)))))))
def f_X9_digest_L63 (j3 : Int64 → Option (Int64 × pv_M)) (M3 : pv_M) (rec8 : Int64 → Int32 → Option (Int64 × pv_M)) (x53 : Int64) (x54 : Int32) : Option (Int64 × pv_M) := (if 9 ≤ x54 then j3 x53 else pv_jn (fun (x55 : Int32) => pv_nm (x54 - x54 / 3 * 3) (fun x56 => pv_ldI pv_T 208 ((3 * x55) + x56) M3 (fun x57 => pv_nm ((31 * x53) + x57.toInt64) (fun x58 => pv_cap (f_X9_greatOf x55 x56 M3) (fun x59 => pv_nm ((31 * x58) + x59.toInt64) (fun x60 => pv_lp2 (f_X9_digest_L136 M3 rec8 x54 x55 x56) pv_FU x60 0)))))) (fun j10 => (if 3 ≤ x54 then (if 6 ≤ x54 then j10 9 else j10 1) else j10 0)))
def f_X9_digest_J203 (M3 : pv_M) (x3 : Int64) : Option (Int64 × pv_M) := pv_cal (f_X9_splitNow M3) (fun x4 M4 => pv_nm ((31 * x3) + x4.toInt64) (fun x5 => pv_cal (f_X9_livesNow M4) (fun u2 M5 => pv_jn (fun (x6 : Int64) (M6 : pv_M) => pv_jn (fun (x7 : Int64) (M7 : pv_M) => pv_jn (f_X9_digest_J316 M7) (fun j6 => pv_lp2 (f_X9_digest_L289 M7 j6) pv_FU x7 0)) (fun j5 => pv_lp3 (f_X9_digest_L263 j5) pv_FU x6 0 M6)) (fun j4 => pv_lp3 (f_X9_digest_L221 j4) pv_FU x5 0 M5))))
def f_X9_digest_L33 (j2 : Int64 → pv_M → Option (Int64 × pv_M)) (rec10 : Int64 → Int32 → pv_M → Option (Int64 × pv_M)) (x68 : Int64) (x69 : Int32) (M24 : pv_M) : Option (Int64 × pv_M) := (if 3 ≤ x69 then j2 x68 M24 else pv_cal (f_X9_readsText x69 M24) (fun x70 M25 => pv_nm ((31 * x68) + x70.toInt64) (fun x71 => rec10 x71 (x69 + 1) M25)))
def f_X9_digest_L6 (j1 : Int64 → pv_M → Option (Int64 × pv_M)) (rec11 : Int64 → Int32 → pv_M → Option (Int64 × pv_M)) (x72 : Int64) (x73 : Int32) (M26 : pv_M) : Option (Int64 × pv_M) := (if 8 ≤ x73 then j1 x72 M26 else pv_cal (f_X9_count x73 M26) (fun x74 M27 => pv_nm ((31 * x72) + x74.toInt64) (fun x75 => rec11 x75 (x73 + 1) M27)))
def f_X9_digest (M : pv_M) : Option (Int64 × pv_M) := pv_jn (fun (x1 : Int64) (M1 : pv_M) => pv_jn (fun (x2 : Int64) (M2 : pv_M) => pv_cal (f_X9_livesNow M2) (fun u1 M3 => pv_jn (f_X9_digest_J203 M3) (fun j3 => pv_lp2 (f_X9_digest_L63 j3 M3) pv_FU x2 0))) (fun j2 => pv_lp3 (f_X9_digest_L33 j2) pv_FU x1 0 M1)) (fun j1 => pv_lp3 (f_X9_digest_L6 j1) pv_FU 17 0 M)
set_option maxHeartbeats 4000000 in
set_option maxRecDepth 100000 in
theorem k_X9_digest (l : Launch) (κ : pv_K) (M : pv_M) : pv_Mt l yX9_digest cX9_digest 7 (some .long) 7 κ [.ref (κ.1 + 196)] M pv_jl (f_X9_digest M) := by
  refine pv_enter (by decide +kernel) (Nat.le_of_ble_eq_true rfl) (fun g hl hR C => ?_)
  have C : pv_Ok g κ 7 cX9_digest RX9 (some .long) := C
  show pv_R g κ pv_T pv_RF 7 0 0 (pv_QF g κ pv_jl) 0 [(0, .ref (κ.1 + 196))] [] M (f_X9_digest M)
  unfold f_X9_digest
  refine rw_ldc2_w (c := 17) C dX9_digest_0 mw_1149 ?_
  refine rw_lstore_n (lv' := [(1, .long 17), (0, .ref (κ.1 + 196))]) C dX9_digest_3 rfl (by decide) rfl ?_
  refine rw_iconst (c := 0) C dX9_digest_4 ci_0 ?_
  refine rw_istore_n (lv' := [(3, .int 0), (1, .long 17), (0, .ref (κ.1 + 196))]) C dX9_digest_5 rfl (by decide) rfl ?_
  refine rw_jn (fun j1 => ∀ (x1 : Int64) (M1 : pv_M), pv_R g κ pv_T pv_RF 7 0 0 (pv_QF g κ pv_jl) 31 [(0, .ref (κ.1 + 196)), (1, .long x1)] [] M1 (j1 x1 M1)) (fun x1 M1 => ?_) (fun j1 hj1 => ?_)
  · refine rw_iconst (c := 0) C dX9_digest_31 ci_0 ?_
    refine rw_istore_n (lv' := [(3, .int 0), (0, .ref (κ.1 + 196)), (1, .long x1)]) C dX9_digest_32 rfl (by decide) rfl ?_
    refine rw_jn (fun j2 => ∀ (x2 : Int64) (M2 : pv_M), pv_R g κ pv_T pv_RF 7 0 0 (pv_QF g κ pv_jl) 57 [(0, .ref (κ.1 + 196)), (1, .long x2)] [] M2 (j2 x2 M2)) (fun x2 M2 => ?_) (fun j2 hj2 => ?_)
    · refine rw_aload_n C dX9_digest_57 rfl 0 rfl ?_
      refine rw_callVu (As := []) (k0 := 196) C hR dX9_digest_58 cv_X9_207 (k_X9_livesNow g.2.1 κ M2) (by decide) (by decide) (by decide) sh_196 rfl rfl (Nat.le_of_ble_eq_true rfl) rfl (fun u1 M3 => ?_)
      refine rw_iconst (c := 0) C dX9_digest_61 ci_0 ?_
      refine rw_istore_n (lv' := [(3, .int 0), (0, .ref (κ.1 + 196)), (1, .long x2)]) C dX9_digest_62 rfl (by decide) rfl ?_
      refine rw_jn (fun j3 => ∀ (x3 : Int64), pv_R g κ pv_T pv_RF 7 0 0 (pv_QF g κ pv_jl) 203 [(0, .ref (κ.1 + 196)), (1, .long x3)] [] M3 (j3 x3)) (fun x3 => ?_) (fun j3 hj3 => ?_)
      · unfold f_X9_digest_J203
        refine rw_ldc2_w (c := 31) C dX9_digest_203 mw_1150 ?_
        refine rw_lload_n C dX9_digest_206 rfl 1 rfl ?_
        refine rw_lmul C dX9_digest_207 ?_
        refine rw_aload_n C dX9_digest_208 rfl 0 rfl ?_
        refine rw_callVi (As := []) (k0 := 196) C hR dX9_digest_209 cv_X9_213 (k_X9_splitNow g.2.1 κ M3) (by decide) (by decide) (by decide) sh_196 rfl rfl (Nat.le_of_ble_eq_true rfl) rfl (fun x4 M4 => ?_)
        refine rw_i2l C dX9_digest_212 ?_
        refine rw_ladd C dX9_digest_213 ?_
        refine rw_nmL (fun x5 => ?_)
        refine rw_lstore_n (lv' := [(1, .long x5), (0, .ref (κ.1 + 196))]) C dX9_digest_214 rfl (by decide) rfl ?_
        refine rw_aload_n C dX9_digest_215 rfl 1 rfl ?_
        refine rw_callVu (As := []) (k0 := 196) C hR dX9_digest_216 cv_X9_207 (k_X9_livesNow g.2.1 κ M4) (by decide) (by decide) (by decide) sh_196 rfl rfl (Nat.le_of_ble_eq_true rfl) rfl (fun u2 M5 => ?_)
        refine rw_iconst (c := 0) C dX9_digest_219 ci_0 ?_
        refine rw_istore_n (lv' := [(3, .int 0), (1, .long x5), (0, .ref (κ.1 + 196))]) C dX9_digest_220 rfl (by decide) rfl ?_
        refine rw_jn (fun j4 => ∀ (x6 : Int64) (M6 : pv_M), pv_R g κ pv_T pv_RF 7 0 0 (pv_QF g κ pv_jl) 261 [(0, .ref (κ.1 + 196)), (1, .long x6)] [] M6 (j4 x6 M6)) (fun x6 M6 => ?_) (fun j4 hj4 => ?_)
        · refine rw_iconst (c := 0) C dX9_digest_261 ci_0 ?_
          refine rw_istore_n (lv' := [(3, .int 0), (0, .ref (κ.1 + 196)), (1, .long x6)]) C dX9_digest_262 rfl (by decide) rfl ?_
          refine rw_jn (fun j5 => ∀ (x7 : Int64) (M7 : pv_M), pv_R g κ pv_T pv_RF 7 0 0 (pv_QF g κ pv_jl) 287 [(0, .ref (κ.1 + 196)), (1, .long x7)] [] M7 (j5 x7 M7)) (fun x7 M7 => ?_) (fun j5 hj5 => ?_)
          · refine rw_iconst (c := 0) C dX9_digest_287 ci_0 ?_
            refine rw_istore_n (lv' := [(3, .int 0), (0, .ref (κ.1 + 196)), (1, .long x7)]) C dX9_digest_288 rfl (by decide) rfl ?_
            refine rw_jn (fun j6 => ∀ (x8 : Int64), pv_R g κ pv_T pv_RF 7 0 0 (pv_QF g κ pv_jl) 316 [(0, .ref (κ.1 + 196)), (1, .long x8)] [] M7 (j6 x8)) (fun x8 => ?_) (fun j6 hj6 => ?_)
            · unfold f_X9_digest_J316
              refine rw_ldc2_w (c := 31) C dX9_digest_316 mw_1150 ?_
              refine rw_lload_n C dX9_digest_319 rfl 1 rfl ?_
              refine rw_lmul C dX9_digest_320 ?_
              refine rw_aload_n C dX9_digest_321 rfl 0 rfl ?_
              refine rw_iconst (c := 0) C dX9_digest_322 ci_0 ?_
              refine rw_callVi (As := [.int 0]) (k0 := 196) C hR dX9_digest_323 cv_X9_355 (k_X9_rest g.2.1 κ 0 M7) (by decide) (by decide) (by decide) sh_196 rfl rfl (Nat.le_of_ble_eq_true rfl) rfl (fun x9 M8 => ?_)
              refine rw_i2l C dX9_digest_326 ?_
              refine rw_ladd C dX9_digest_327 ?_
              refine rw_nmL (fun x10 => ?_)
              refine rw_lstore_n (lv' := [(1, .long x10), (0, .ref (κ.1 + 196))]) C dX9_digest_328 rfl (by decide) rfl ?_
              refine rw_ldc2_w (c := 31) C dX9_digest_329 mw_1150 ?_
              refine rw_lload_n C dX9_digest_332 rfl 0 rfl ?_
              refine rw_lmul C dX9_digest_333 ?_
              refine rw_aload_n C dX9_digest_334 rfl 1 rfl ?_
              refine rw_callVi (As := []) (k0 := 196) C hR dX9_digest_335 cv_X9_260 (k_X9_restsNow g.2.1 κ M8) (by decide) (by decide) (by decide) sh_196 rfl rfl (Nat.le_of_ble_eq_true rfl) rfl (fun x11 M9 => ?_)
              refine rw_i2l C dX9_digest_338 ?_
              refine rw_ladd C dX9_digest_339 ?_
              refine rw_nmL (fun x12 => ?_)
              refine rw_lstore_n (lv' := [(1, .long x12), (0, .ref (κ.1 + 196))]) C dX9_digest_340 rfl (by decide) rfl ?_
              refine rw_iconst (c := 0) C dX9_digest_341 ci_0 ?_
              refine rw_istore_n (lv' := [(3, .int 0), (1, .long x12), (0, .ref (κ.1 + 196))]) C dX9_digest_342 rfl (by decide) rfl ?_
              refine rw_jn (fun j7 => ∀ (x13 : Int64) (M10 : pv_M), pv_R g κ pv_T pv_RF 7 0 0 (pv_QF g κ pv_jl) 392 [(0, .ref (κ.1 + 196)), (1, .long x13)] [] M10 (j7 x13 M10)) (fun x13 M10 => ?_) (fun j7 hj7 => ?_)
              · refine rw_iconst (c := 1) C dX9_digest_392 ci_1 ?_
                refine rw_istore_n (lv' := [(3, .int 1), (0, .ref (κ.1 + 196)), (1, .long x13)]) C dX9_digest_393 rfl (by decide) rfl ?_
                refine rw_jn (fun j8 => ∀ (x14 : Int64) (M11 : pv_M), pv_R g κ pv_T pv_RF 7 0 0 (pv_QF g κ pv_jl) 436 [(0, .ref (κ.1 + 196)), (1, .long x14)] [] M11 (j8 x14 M11)) (fun x14 M11 => ?_) (fun j8 hj8 => ?_)
                · unfold f_X9_digest_J436
                  refine rw_ldc2_w (c := 31) C dX9_digest_436 mw_1150 ?_
                  refine rw_lload_n C dX9_digest_439 rfl 1 rfl ?_
                  refine rw_lmul C dX9_digest_440 ?_
                  refine rw_aload_n C dX9_digest_441 rfl 0 rfl ?_
                  refine rw_callVi (As := []) (k0 := 196) C hR dX9_digest_442 cv_X9_361 (k_X9_clash g.2.1 κ M11) (by decide) (by decide) (by decide) sh_196 rfl rfl (Nat.le_of_ble_eq_true rfl) rfl (fun x15 M12 => ?_)
                  refine rw_i2l C dX9_digest_445 ?_
                  refine rw_ladd C dX9_digest_446 ?_
                  refine rw_nmL (fun x16 => ?_)
                  refine rw_lstore_n (lv' := [(1, .long x16), (0, .ref (κ.1 + 196))]) C dX9_digest_447 rfl (by decide) rfl ?_
                  refine rw_ldc2_w (c := 31) C dX9_digest_448 mw_1150 ?_
                  refine rw_lload_n C dX9_digest_451 rfl 0 rfl ?_
                  refine rw_lmul C dX9_digest_452 ?_
                  refine rw_aload_n C dX9_digest_453 rfl 1 rfl ?_
                  refine rw_callVi (As := []) (k0 := 196) C hR dX9_digest_454 cv_X9_310 (k_X9_dropNow g.2.1 κ M12) (by decide) (by decide) (by decide) sh_196 rfl rfl (Nat.le_of_ble_eq_true rfl) rfl (fun x17 M13 => ?_)
                  refine rw_i2l C dX9_digest_457 ?_
                  refine rw_ladd C dX9_digest_458 ?_
                  refine rw_nmL (fun x18 => ?_)
                  refine rw_lstore_n (lv' := [(1, .long x18), (0, .ref (κ.1 + 196))]) C dX9_digest_459 rfl (by decide) rfl ?_
                  refine rw_aload_n C dX9_digest_460 rfl 1 rfl ?_
                  refine rw_callVu (As := []) (k0 := 196) C hR dX9_digest_461 cv_X9_330 (k_X9_findRound g.2.1 κ M13) (by decide) (by decide) (by decide) sh_196 rfl rfl (Nat.le_of_ble_eq_true rfl) rfl (fun u3 M14 => ?_)
                  refine rw_bipush (c := (-2)) C dX9_digest_464 (by decide) ?_
                  refine rw_istore_n (lv' := [(3, .int (-2)), (1, .long x18), (0, .ref (κ.1 + 196))]) C dX9_digest_466 rfl (by decide) rfl ?_
                  refine rw_jn (fun j9 => ∀ (x19 : Int64), pv_R g κ pv_T pv_RF 7 0 0 (pv_QF g κ pv_jl) 491 [(0, .ref (κ.1 + 196)), (1, .long x19)] [] M14 (j9 x19)) (fun x19 => ?_) (fun j9 hj9 => ?_)
                  · refine rw_ldc2_w (c := 31) C dX9_digest_491 mw_1150 ?_
                    refine rw_lload_n C dX9_digest_494 rfl 1 rfl ?_
                    refine rw_lmul C dX9_digest_495 ?_
                    refine rw_aload_n C dX9_digest_496 rfl 0 rfl ?_
                    refine rw_callVPi (As := []) (k0 := 196) C hR dX9_digest_497 cv_X9_339 (k_X9_yearsNow g.2.1 κ M14) (by decide) (by decide) (by decide) sh_196 rfl rfl (Nat.le_of_ble_eq_true rfl) rfl (fun x20 => ?_)
                    refine rw_i2l C dX9_digest_500 ?_
                    refine rw_ladd C dX9_digest_501 ?_
                    exact rw_lret C dX9_digest_502
                  · refine rw_lv (lv' := [(0, .ref (κ.1 + 196)), (1, .long x18), (3, .int (-2))]) [2, 1, 0] rfl ?_
                    refine pv_lp2_ind (fun x21 x22 xx => pv_R g κ pv_T pv_RF 7 0 0 (pv_QF g κ pv_jl) 467 [(0, .ref (κ.1 + 196)), (1, .long x21), (3, .int x22)] [] M14 xx) (fun _ _ => rw_none) (fun rec1 hrec1 x21 x22 => ?_) _ _ _
                    unfold f_X9_digest_L467
                    refine rw_iload_n C dX9_digest_467 rfl 2 rfl ?_
                    refine rw_iconst (c := 3) C dX9_digest_468 ci_3 ?_
                    refine rw_icmp_ge (tgt := 491) C dX9_digest_469 (by decide) ?_ ?_
                    · exact rw_lv [0, 1] rfl (hj9 x21)
                    · refine rw_ldc2_w (c := 31) C dX9_digest_472 mw_1150 ?_
                      refine rw_lload_n C dX9_digest_475 rfl 1 rfl ?_
                      refine rw_lmul C dX9_digest_476 ?_
                      refine rw_aload_n C dX9_digest_477 rfl 0 rfl ?_
                      refine rw_iload_n C dX9_digest_478 rfl 2 rfl ?_
                      refine rw_callVPi (As := [.int x22]) (k0 := 196) C hR dX9_digest_479 cv_X9_333 (k_X9_tellsRound g.2.1 κ x22 M14) (by decide) (by decide) (by decide) sh_196 rfl rfl (Nat.le_of_ble_eq_true rfl) rfl (fun x23 => ?_)
                      refine rw_i2l C dX9_digest_482 ?_
                      refine rw_ladd C dX9_digest_483 ?_
                      refine rw_nmL (fun x24 => ?_)
                      refine rw_lstore_n (lv' := [(1, .long x24), (0, .ref (κ.1 + 196)), (3, .int x22)]) C dX9_digest_484 rfl (by decide) rfl ?_
                      refine rw_iinc (c := 1) (lv' := [(3, .int (x22 + 1)), (1, .long x24), (0, .ref (κ.1 + 196))]) C dX9_digest_485 2 rfl (by decide) (by decide) rfl ?_
                      refine rw_goto (tgt := 467) C dX9_digest_488 (by decide) ?_
                      exact rw_lv [2, 1, 0] rfl (hrec1 x24 (x22 + 1))
                · refine rw_lv (lv' := [(0, .ref (κ.1 + 196)), (1, .long x13), (3, .int 1)]) [1, 2, 0] rfl ?_
                  refine pv_lp3_ind (fun x25 x26 M15 xx => pv_R g κ pv_T pv_RF 7 0 0 (pv_QF g κ pv_jl) 394 [(0, .ref (κ.1 + 196)), (1, .long x25), (3, .int x26)] [] M15 xx) (fun _ _ _ => rw_none) (fun rec2 hrec2 x25 x26 M15 => ?_) _ _ _ _
                  unfold f_X9_digest_L394
                  refine rw_iload_n C dX9_digest_394 rfl 2 rfl ?_
                  refine rw_bipush (c := 6) C dX9_digest_395 (by decide) ?_
                  refine rw_icmp_ge (tgt := 436) C dX9_digest_397 (by decide) ?_ ?_
                  · exact rw_lv [0, 1] rfl (hj8 x25 M15)
                  · refine rw_iconst (c := 0) C dX9_digest_400 ci_0 ?_
                    refine rw_istore (lv' := [(4, .int 0), (0, .ref (κ.1 + 196)), (1, .long x25), (3, .int x26)]) C dX9_digest_401 (by decide) rfl ?_
                    refine rw_lv (lv' := [(0, .ref (κ.1 + 196)), (1, .long x25), (3, .int x26), (4, .int 0)]) [1, 2, 3, 0] rfl ?_
                    refine pv_lp3_ind (fun x27 x28 M16 xx => pv_R g κ pv_T pv_RF 7 0 0 (pv_QF g κ pv_jl) 403 [(0, .ref (κ.1 + 196)), (1, .long x27), (3, .int x26), (4, .int x28)] [] M16 xx) (fun _ _ _ => rw_none) (fun rec3 hrec3 x27 x28 M16 => ?_) _ _ _ _
                    unfold f_X9_digest_L403
                    refine rw_iload C dX9_digest_403 3 rfl ?_
                    refine rw_iconst (c := 2) C dX9_digest_405 ci_2 ?_
                    refine rw_icmp_ge (tgt := 430) C dX9_digest_406 (by decide) ?_ ?_
                    · refine rw_iinc (c := 1) (lv' := [(3, .int (x26 + 1)), (0, .ref (κ.1 + 196)), (1, .long x27), (4, .int x28)]) C dX9_digest_430 2 rfl (by decide) (by decide) rfl ?_
                      refine rw_goto (tgt := 394) C dX9_digest_433 (by decide) ?_
                      exact rw_lv [1, 2, 0] rfl (hrec2 x27 (x26 + 1) M16)
                    · refine rw_ldc2_w (c := 31) C dX9_digest_409 mw_1150 ?_
                      refine rw_lload_n C dX9_digest_412 rfl 1 rfl ?_
                      refine rw_lmul C dX9_digest_413 ?_
                      refine rw_aload_n C dX9_digest_414 rfl 0 rfl ?_
                      refine rw_iconst (c := 0) C dX9_digest_415 ci_0 ?_
                      refine rw_iload_n C dX9_digest_416 rfl 2 rfl ?_
                      refine rw_iload C dX9_digest_417 3 rfl ?_
                      refine rw_callVl (As := [.int 0, .int x26, .int x28]) (k0 := 196) C hR dX9_digest_419 cv_X9_358 (k_X9_worth g.2.1 κ 0 x26 x28 M16) (by decide) (by decide) (by decide) sh_196 rfl rfl (Nat.le_of_ble_eq_true rfl) rfl (fun x29 M17 => ?_)
                      refine rw_ladd C dX9_digest_422 ?_
                      refine rw_nmL (fun x30 => ?_)
                      refine rw_lstore_n (lv' := [(1, .long x30), (0, .ref (κ.1 + 196)), (3, .int x26), (4, .int x28)]) C dX9_digest_423 rfl (by decide) rfl ?_
                      refine rw_iinc (c := 1) (lv' := [(4, .int (x28 + 1)), (1, .long x30), (0, .ref (κ.1 + 196)), (3, .int x26)]) C dX9_digest_424 3 rfl (by decide) (by decide) rfl ?_
                      refine rw_goto (tgt := 403) C dX9_digest_427 (by decide) ?_
                      exact rw_lv [2, 1, 3, 0] rfl (hrec3 x30 (x28 + 1) M17)
              · refine rw_lv (lv' := [(0, .ref (κ.1 + 196)), (1, .long x12), (3, .int 0)]) [2, 1, 0] rfl ?_
                refine pv_lp3_ind (fun x31 x32 M18 xx => pv_R g κ pv_T pv_RF 7 0 0 (pv_QF g κ pv_jl) 343 [(0, .ref (κ.1 + 196)), (1, .long x31), (3, .int x32)] [] M18 xx) (fun _ _ _ => rw_none) (fun rec4 hrec4 x31 x32 M18 => ?_) _ _ _ _
                unfold f_X9_digest_L343
                refine rw_iload_n C dX9_digest_343 rfl 2 rfl ?_
                refine rw_aload_n C dX9_digest_344 rfl 0 rfl ?_
                refine rw_getR (k0 := 196) (k1 := 203) C dX9_digest_345 fl_X9_28 rfl (by decide) sh_196 (by decide) rfl ?_
                refine rw_iconst (c := 0) C dX9_digest_348 ci_0 ?_
                refine rw_ldI C dX9_digest_349 (fun x33 => ?_)
                refine rw_icmp_ge (tgt := 392) C dX9_digest_350 (by decide) ?_ ?_
                · exact rw_lv [0, 1] rfl (hj7 x31 M18)
                · refine rw_aload_n C dX9_digest_353 rfl 0 rfl ?_
                  refine rw_iload_n C dX9_digest_354 rfl 2 rfl ?_
                  refine rw_callVu (As := [.int x32]) (k0 := 196) C hR dX9_digest_355 cv_X9_271 (k_X9_findWish g.2.1 κ x32 M18) (by decide) (by decide) (by decide) sh_196 rfl rfl (Nat.le_of_ble_eq_true rfl) rfl (fun u4 M19 => ?_)
                  refine rw_ldc2_w (c := 31) C dX9_digest_358 mw_1150 ?_
                  refine rw_lload_n C dX9_digest_361 rfl 1 rfl ?_
                  refine rw_lmul C dX9_digest_362 ?_
                  refine rw_aload_n C dX9_digest_363 rfl 0 rfl ?_
                  refine rw_getR (k0 := 196) (k1 := 215) C dX9_digest_364 fl_X9_64 rfl (by decide) sh_196 (by decide) rfl ?_
                  refine rw_iconst (c := 0) C dX9_digest_367 ci_0 ?_
                  refine rw_ldI C dX9_digest_368 (fun x34 => ?_)
                  refine rw_i2l C dX9_digest_369 ?_
                  refine rw_ladd C dX9_digest_370 ?_
                  refine rw_nmL (fun x35 => ?_)
                  refine rw_lstore_n (lv' := [(1, .long x35), (0, .ref (κ.1 + 196)), (3, .int x32)]) C dX9_digest_371 rfl (by decide) rfl ?_
                  refine rw_ldc2_w (c := 31) C dX9_digest_372 mw_1150 ?_
                  refine rw_lload_n C dX9_digest_375 rfl 0 rfl ?_
                  refine rw_lmul C dX9_digest_376 ?_
                  refine rw_aload_n C dX9_digest_377 rfl 1 rfl ?_
                  refine rw_getR (k0 := 196) (k1 := 215) C dX9_digest_378 fl_X9_64 rfl (by decide) sh_196 (by decide) rfl ?_
                  refine rw_iconst (c := 1) C dX9_digest_381 ci_1 ?_
                  refine rw_ldI C dX9_digest_382 (fun x36 => ?_)
                  refine rw_i2l C dX9_digest_383 ?_
                  refine rw_ladd C dX9_digest_384 ?_
                  refine rw_nmL (fun x37 => ?_)
                  refine rw_lstore_n (lv' := [(1, .long x37), (0, .ref (κ.1 + 196)), (3, .int x32)]) C dX9_digest_385 rfl (by decide) rfl ?_
                  refine rw_iinc (c := 1) (lv' := [(3, .int (x32 + 1)), (1, .long x37), (0, .ref (κ.1 + 196))]) C dX9_digest_386 2 rfl (by decide) (by decide) rfl ?_
                  refine rw_goto (tgt := 343) C dX9_digest_389 (by decide) ?_
                  exact rw_lv [2, 1, 0] rfl (hrec4 x37 (x32 + 1) M19)
            · refine rw_lv (lv' := [(0, .ref (κ.1 + 196)), (1, .long x7), (3, .int 0)]) [1, 2, 0] rfl ?_
              refine pv_lp2_ind (fun x38 x39 xx => pv_R g κ pv_T pv_RF 7 0 0 (pv_QF g κ pv_jl) 289 [(0, .ref (κ.1 + 196)), (1, .long x38), (3, .int x39)] [] M7 xx) (fun _ _ => rw_none) (fun rec5 hrec5 x38 x39 => ?_) _ _ _
              unfold f_X9_digest_L289
              refine rw_iload_n C dX9_digest_289 rfl 2 rfl ?_
              refine rw_aload_n C dX9_digest_290 rfl 0 rfl ?_
              refine rw_getI (k0 := 196) C dX9_digest_291 fl_X9_217 rfl (by decide) sh_196 (by decide) (fun x40 => ?_)
              refine rw_icmp_ge (tgt := 316) C dX9_digest_294 (by decide) ?_ ?_
              · exact rw_lv [0, 1] rfl (hj6 x38)
              · refine rw_ldc2_w (c := 31) C dX9_digest_297 mw_1150 ?_
                refine rw_lload_n C dX9_digest_300 rfl 1 rfl ?_
                refine rw_lmul C dX9_digest_301 ?_
                refine rw_aload_n C dX9_digest_302 rfl 0 rfl ?_
                refine rw_iload_n C dX9_digest_303 rfl 2 rfl ?_
                refine rw_callVPi (As := [.int x39]) (k0 := 196) C hR dX9_digest_304 cv_X9_236 (k_X9_worstOf g.2.1 κ x39 M7) (by decide) (by decide) (by decide) sh_196 rfl rfl (Nat.le_of_ble_eq_true rfl) rfl (fun x41 => ?_)
                refine rw_i2l C dX9_digest_307 ?_
                refine rw_ladd C dX9_digest_308 ?_
                refine rw_nmL (fun x42 => ?_)
                refine rw_lstore_n (lv' := [(1, .long x42), (0, .ref (κ.1 + 196)), (3, .int x39)]) C dX9_digest_309 rfl (by decide) rfl ?_
                refine rw_iinc (c := 1) (lv' := [(3, .int (x39 + 1)), (1, .long x42), (0, .ref (κ.1 + 196))]) C dX9_digest_310 2 rfl (by decide) (by decide) rfl ?_
                refine rw_goto (tgt := 289) C dX9_digest_313 (by decide) ?_
                exact rw_lv [2, 1, 0] rfl (hrec5 x42 (x39 + 1))
          · refine rw_lv (lv' := [(0, .ref (κ.1 + 196)), (1, .long x6), (3, .int 0)]) [1, 2, 0] rfl ?_
            refine pv_lp3_ind (fun x43 x44 M20 xx => pv_R g κ pv_T pv_RF 7 0 0 (pv_QF g κ pv_jl) 263 [(0, .ref (κ.1 + 196)), (1, .long x43), (3, .int x44)] [] M20 xx) (fun _ _ _ => rw_none) (fun rec6 hrec6 x43 x44 M20 => ?_) _ _ _ _
            unfold f_X9_digest_L263
            refine rw_iload_n C dX9_digest_263 rfl 2 rfl ?_
            refine rw_iconst (c := 2) C dX9_digest_264 ci_2 ?_
            refine rw_icmp_ge (tgt := 287) C dX9_digest_265 (by decide) ?_ ?_
            · exact rw_lv [0, 1] rfl (hj5 x43 M20)
            · refine rw_ldc2_w (c := 31) C dX9_digest_268 mw_1150 ?_
              refine rw_lload_n C dX9_digest_271 rfl 1 rfl ?_
              refine rw_lmul C dX9_digest_272 ?_
              refine rw_aload_n C dX9_digest_273 rfl 0 rfl ?_
              refine rw_iload_n C dX9_digest_274 rfl 2 rfl ?_
              refine rw_callVi (As := [.int x44]) (k0 := 196) C hR dX9_digest_275 cv_X9_230 (k_X9_ruinedOf g.2.1 κ x44 M20) (by decide) (by decide) (by decide) sh_196 rfl rfl (Nat.le_of_ble_eq_true rfl) rfl (fun x45 M21 => ?_)
              refine rw_i2l C dX9_digest_278 ?_
              refine rw_ladd C dX9_digest_279 ?_
              refine rw_nmL (fun x46 => ?_)
              refine rw_lstore_n (lv' := [(1, .long x46), (0, .ref (κ.1 + 196)), (3, .int x44)]) C dX9_digest_280 rfl (by decide) rfl ?_
              refine rw_iinc (c := 1) (lv' := [(3, .int (x44 + 1)), (1, .long x46), (0, .ref (κ.1 + 196))]) C dX9_digest_281 2 rfl (by decide) (by decide) rfl ?_
              refine rw_goto (tgt := 263) C dX9_digest_284 (by decide) ?_
              exact rw_lv [2, 1, 0] rfl (hrec6 x46 (x44 + 1) M21)
        · refine rw_lv (lv' := [(0, .ref (κ.1 + 196)), (1, .long x5), (3, .int 0)]) [2, 1, 0] rfl ?_
          refine pv_lp3_ind (fun x47 x48 M22 xx => pv_R g κ pv_T pv_RF 7 0 0 (pv_QF g κ pv_jl) 221 [(0, .ref (κ.1 + 196)), (1, .long x47), (3, .int x48)] [] M22 xx) (fun _ _ _ => rw_none) (fun rec7 hrec7 x47 x48 M22 => ?_) _ _ _ _
          unfold f_X9_digest_L221
          refine rw_iload_n C dX9_digest_221 rfl 2 rfl ?_
          refine rw_bipush (c := 8) C dX9_digest_222 (by decide) ?_
          refine rw_icmp_ge (tgt := 261) C dX9_digest_224 (by decide) ?_ ?_
          · exact rw_lv [0, 1] rfl (hj4 x47 M22)
          · refine rw_ldc2_w (c := 31) C dX9_digest_227 mw_1150 ?_
            refine rw_lload_n C dX9_digest_230 rfl 1 rfl ?_
            refine rw_lmul C dX9_digest_231 ?_
            refine rw_aload_n C dX9_digest_232 rfl 0 rfl ?_
            refine rw_iload_n C dX9_digest_233 rfl 2 rfl ?_
            refine rw_bipush (c := 9) C dX9_digest_234 (by decide) ?_
            refine rw_callVPi (As := [.int x48, .int 9]) (k0 := 196) C hR dX9_digest_236 cv_X9_226 (k_X9_moneyOf g.2.1 κ x48 9 M22) (by decide) (by decide) (by decide) sh_196 rfl rfl (Nat.le_of_ble_eq_true rfl) rfl (fun x49 => ?_)
            refine rw_i2l C dX9_digest_239 ?_
            refine rw_ladd C dX9_digest_240 ?_
            refine rw_nmL (fun x50 => ?_)
            refine rw_lstore_n (lv' := [(1, .long x50), (0, .ref (κ.1 + 196)), (3, .int x48)]) C dX9_digest_241 rfl (by decide) rfl ?_
            refine rw_ldc2_w (c := 31) C dX9_digest_242 mw_1150 ?_
            refine rw_lload_n C dX9_digest_245 rfl 0 rfl ?_
            refine rw_lmul C dX9_digest_246 ?_
            refine rw_aload_n C dX9_digest_247 rfl 1 rfl ?_
            refine rw_iload_n C dX9_digest_248 rfl 2 rfl ?_
            refine rw_callVi (As := [.int x48]) (k0 := 196) C hR dX9_digest_249 cv_X9_352 (k_X9_hedge g.2.1 κ x48 M22) (by decide) (by decide) (by decide) sh_196 rfl rfl (Nat.le_of_ble_eq_true rfl) rfl (fun x51 M23 => ?_)
            refine rw_i2l C dX9_digest_252 ?_
            refine rw_ladd C dX9_digest_253 ?_
            refine rw_nmL (fun x52 => ?_)
            refine rw_lstore_n (lv' := [(1, .long x52), (0, .ref (κ.1 + 196)), (3, .int x48)]) C dX9_digest_254 rfl (by decide) rfl ?_
            refine rw_iinc (c := 1) (lv' := [(3, .int (x48 + 1)), (1, .long x52), (0, .ref (κ.1 + 196))]) C dX9_digest_255 2 rfl (by decide) (by decide) rfl ?_
            refine rw_goto (tgt := 221) C dX9_digest_258 (by decide) ?_
            exact rw_lv [2, 1, 0] rfl (hrec7 x52 (x48 + 1) M23)
      · refine rw_lv (lv' := [(0, .ref (κ.1 + 196)), (1, .long x2), (3, .int 0)]) [1, 2, 0] rfl ?_
        refine pv_lp2_ind (fun x53 x54 xx => pv_R g κ pv_T pv_RF 7 0 0 (pv_QF g κ pv_jl) 63 [(0, .ref (κ.1 + 196)), (1, .long x53), (3, .int x54)] [] M3 xx) (fun _ _ => rw_none) (fun rec8 hrec8 x53 x54 => ?_) _ _ _
        unfold f_X9_digest_L63
        refine rw_iload_n C dX9_digest_63 rfl 2 rfl ?_
        refine rw_bipush (c := 9) C dX9_digest_64 (by decide) ?_
        refine rw_icmp_ge (tgt := 203) C dX9_digest_66 (by decide) ?_ ?_
        · exact rw_lv [0, 1] rfl (hj3 x53)
        · refine rw_iload_n C dX9_digest_69 rfl 2 rfl ?_
          refine rw_iconst (c := 3) C dX9_digest_70 ci_3 ?_
          refine rw_jn (fun j10 => ∀ (x55 : Int32), pv_R g κ pv_T pv_RF 7 0 0 (pv_QF g κ pv_jl) 90 [(0, .ref (κ.1 + 196)), (1, .long x53), (3, .int x54)] [.int x55] M3 (j10 x55)) (fun x55 => ?_) (fun j10 hj10 => ?_)
          · refine rw_istore (lv' := [(4, .int x55), (0, .ref (κ.1 + 196)), (1, .long x53), (3, .int x54)]) C dX9_digest_90 (by decide) rfl ?_
            refine rw_iload_n C dX9_digest_92 rfl 3 rfl ?_
            refine rw_iconst (c := 3) C dX9_digest_93 ci_3 ?_
            refine rw_irem C dX9_digest_94 (by decide) ?_
            refine rw_nm (fun x56 => ?_)
            refine rw_istore (lv' := [(5, .int x56), (4, .int x55), (0, .ref (κ.1 + 196)), (1, .long x53), (3, .int x54)]) C dX9_digest_95 (by decide) rfl ?_
            refine rw_ldc2_w (c := 31) C dX9_digest_97 mw_1150 ?_
            refine rw_lload_n C dX9_digest_100 rfl 3 rfl ?_
            refine rw_lmul C dX9_digest_101 ?_
            refine rw_aload_n C dX9_digest_102 rfl 2 rfl ?_
            refine rw_getR (k0 := 196) (k1 := 208) C dX9_digest_103 fl_X9_43 rfl (by decide) sh_196 (by decide) rfl ?_
            refine rw_iconst (c := 3) C dX9_digest_106 ci_3 ?_
            refine rw_iload C dX9_digest_107 1 rfl ?_
            refine rw_imul C dX9_digest_109 ?_
            refine rw_iload C dX9_digest_110 0 rfl ?_
            refine rw_iadd C dX9_digest_112 ?_
            refine rw_ldI C dX9_digest_113 (fun x57 => ?_)
            refine rw_i2l C dX9_digest_114 ?_
            refine rw_ladd C dX9_digest_115 ?_
            refine rw_nmL (fun x58 => ?_)
            refine rw_lstore_n (lv' := [(1, .long x58), (5, .int x56), (4, .int x55), (0, .ref (κ.1 + 196)), (3, .int x54)]) C dX9_digest_116 rfl (by decide) rfl ?_
            refine rw_ldc2_w (c := 31) C dX9_digest_117 mw_1150 ?_
            refine rw_lload_n C dX9_digest_120 rfl 0 rfl ?_
            refine rw_lmul C dX9_digest_121 ?_
            refine rw_aload_n C dX9_digest_122 rfl 3 rfl ?_
            refine rw_iload C dX9_digest_123 2 rfl ?_
            refine rw_iload C dX9_digest_125 1 rfl ?_
            refine rw_callVPi (As := [.int x55, .int x56]) (k0 := 196) C hR dX9_digest_127 cv_X9_210 (k_X9_greatOf g.2.1 κ x55 x56 M3) (by decide) (by decide) (by decide) sh_196 rfl rfl (Nat.le_of_ble_eq_true rfl) rfl (fun x59 => ?_)
            refine rw_i2l C dX9_digest_130 ?_
            refine rw_ladd C dX9_digest_131 ?_
            refine rw_nmL (fun x60 => ?_)
            refine rw_lstore_n (lv' := [(1, .long x60), (5, .int x56), (4, .int x55), (0, .ref (κ.1 + 196)), (3, .int x54)]) C dX9_digest_132 rfl (by decide) rfl ?_
            refine rw_iconst (c := 0) C dX9_digest_133 ci_0 ?_
            refine rw_istore (lv' := [(6, .int 0), (1, .long x60), (5, .int x56), (4, .int x55), (0, .ref (κ.1 + 196)), (3, .int x54)]) C dX9_digest_134 (by decide) rfl ?_
            refine rw_lv (lv' := [(0, .ref (κ.1 + 196)), (1, .long x60), (3, .int x54), (4, .int x55), (5, .int x56), (6, .int 0)]) [4, 1, 5, 3, 2, 0] rfl ?_
            refine pv_lp2_ind (fun x61 x62 xx => pv_R g κ pv_T pv_RF 7 0 0 (pv_QF g κ pv_jl) 136 [(0, .ref (κ.1 + 196)), (1, .long x61), (3, .int x54), (4, .int x55), (5, .int x56), (6, .int x62)] [] M3 xx) (fun _ _ => rw_none) (fun rec9 hrec9 x61 x62 => ?_) _ _ _
            unfold f_X9_digest_L136
            refine rw_iload C dX9_digest_136 5 rfl ?_
            refine rw_aload_n C dX9_digest_138 rfl 0 rfl ?_
            refine rw_getR (k0 := 196) (k1 := 203) C dX9_digest_139 fl_X9_28 rfl (by decide) sh_196 (by decide) rfl ?_
            refine rw_iconst (c := 0) C dX9_digest_142 ci_0 ?_
            refine rw_ldI C dX9_digest_143 (fun x63 => ?_)
            refine rw_icmp_ge (tgt := 197) C dX9_digest_144 (by decide) ?_ ?_
            · refine rw_iinc (c := 1) (lv' := [(3, .int (x54 + 1)), (0, .ref (κ.1 + 196)), (1, .long x61), (4, .int x55), (5, .int x56), (6, .int x62)]) C dX9_digest_197 2 rfl (by decide) (by decide) rfl ?_
              refine rw_goto (tgt := 63) C dX9_digest_200 (by decide) ?_
              exact rw_lv [1, 2, 0] rfl (hrec8 x61 (x54 + 1))
            · refine rw_ldc2_w (c := 31) C dX9_digest_147 mw_1150 ?_
              refine rw_lload_n C dX9_digest_150 rfl 1 rfl ?_
              refine rw_lmul C dX9_digest_151 ?_
              refine rw_aload_n C dX9_digest_152 rfl 0 rfl ?_
              refine rw_iload C dX9_digest_153 3 rfl ?_
              refine rw_iload C dX9_digest_155 5 rfl ?_
              refine rw_iload C dX9_digest_157 4 rfl ?_
              refine rw_callVPi (As := [.int x55, .int x62, .int x56]) (k0 := 196) C hR dX9_digest_159 cv_X9_177 (k_X9_ticketOf g.2.1 κ x55 x62 x56 M3) (by decide) (by decide) (by decide) sh_196 rfl rfl (Nat.le_of_ble_eq_true rfl) rfl (fun x64 => ?_)
              refine rw_i2l C dX9_digest_162 ?_
              refine rw_ladd C dX9_digest_163 ?_
              refine rw_nmL (fun x65 => ?_)
              refine rw_lstore_n (lv' := [(1, .long x65), (0, .ref (κ.1 + 196)), (3, .int x54), (4, .int x55), (5, .int x56), (6, .int x62)]) C dX9_digest_164 rfl (by decide) rfl ?_
              refine rw_ldc2_w (c := 31) C dX9_digest_165 mw_1150 ?_
              refine rw_lload_n C dX9_digest_168 rfl 0 rfl ?_
              refine rw_lmul C dX9_digest_169 ?_
              refine rw_aload_n C dX9_digest_170 rfl 1 rfl ?_
              refine rw_getR (k0 := 196) (k1 := 209) C dX9_digest_171 fl_X9_46 rfl (by decide) sh_196 (by decide) rfl ?_
              refine rw_bipush (c := 12) C dX9_digest_174 (by decide) ?_
              refine rw_iload C dX9_digest_176 3 rfl ?_
              refine rw_imul C dX9_digest_178 ?_
              refine rw_iconst (c := 4) C dX9_digest_179 ci_4 ?_
              refine rw_iload C dX9_digest_180 4 rfl ?_
              refine rw_imul C dX9_digest_182 ?_
              refine rw_iadd C dX9_digest_183 ?_
              refine rw_iload C dX9_digest_184 5 rfl ?_
              refine rw_iadd C dX9_digest_186 ?_
              refine rw_ldI C dX9_digest_187 (fun x66 => ?_)
              refine rw_i2l C dX9_digest_188 ?_
              refine rw_ladd C dX9_digest_189 ?_
              refine rw_nmL (fun x67 => ?_)
              refine rw_lstore_n (lv' := [(1, .long x67), (0, .ref (κ.1 + 196)), (3, .int x54), (4, .int x55), (5, .int x56), (6, .int x62)]) C dX9_digest_190 rfl (by decide) rfl ?_
              refine rw_iinc (c := 1) (lv' := [(6, .int (x62 + 1)), (1, .long x67), (0, .ref (κ.1 + 196)), (3, .int x54), (4, .int x55), (5, .int x56)]) C dX9_digest_191 5 rfl (by decide) (by decide) rfl ?_
              refine rw_goto (tgt := 136) C dX9_digest_194 (by decide) ?_
              exact rw_lv [2, 1, 3, 4, 5, 0] rfl (hrec9 x67 (x62 + 1))
          · refine rw_icmp_ge (tgt := 78) C dX9_digest_71 (by decide) ?_ ?_
            · refine rw_iload_n C dX9_digest_78 rfl 2 rfl ?_
              refine rw_bipush (c := 6) C dX9_digest_79 (by decide) ?_
              refine rw_icmp_ge (tgt := 88) C dX9_digest_81 (by decide) ?_ ?_
              · refine rw_bipush (c := 9) C dX9_digest_88 (by decide) ?_
                exact hj10 9
              · refine rw_iconst (c := 1) C dX9_digest_84 ci_1 ?_
                refine rw_goto (tgt := 90) C dX9_digest_85 (by decide) ?_
                exact hj10 1
            · refine rw_iconst (c := 0) C dX9_digest_74 ci_0 ?_
              refine rw_goto (tgt := 90) C dX9_digest_75 (by decide) ?_
              exact hj10 0
    · refine rw_lv (lv' := [(0, .ref (κ.1 + 196)), (1, .long x1), (3, .int 0)]) [1, 2, 0] rfl ?_
      refine pv_lp3_ind (fun x68 x69 M24 xx => pv_R g κ pv_T pv_RF 7 0 0 (pv_QF g κ pv_jl) 33 [(0, .ref (κ.1 + 196)), (1, .long x68), (3, .int x69)] [] M24 xx) (fun _ _ _ => rw_none) (fun rec10 hrec10 x68 x69 M24 => ?_) _ _ _ _
      unfold f_X9_digest_L33
      refine rw_iload_n C dX9_digest_33 rfl 2 rfl ?_
      refine rw_iconst (c := 3) C dX9_digest_34 ci_3 ?_
      refine rw_icmp_ge (tgt := 57) C dX9_digest_35 (by decide) ?_ ?_
      · exact rw_lv [0, 1] rfl (hj2 x68 M24)
      · refine rw_ldc2_w (c := 31) C dX9_digest_38 mw_1150 ?_
        refine rw_lload_n C dX9_digest_41 rfl 1 rfl ?_
        refine rw_lmul C dX9_digest_42 ?_
        refine rw_aload_n C dX9_digest_43 rfl 0 rfl ?_
        refine rw_iload_n C dX9_digest_44 rfl 2 rfl ?_
        refine rw_callVi (As := [.int x69]) (k0 := 196) C hR dX9_digest_45 cv_X9_144 (k_X9_readsText g.2.1 κ x69 M24) (by decide) (by decide) (by decide) sh_196 rfl rfl (Nat.le_of_ble_eq_true rfl) rfl (fun x70 M25 => ?_)
        refine rw_i2l C dX9_digest_48 ?_
        refine rw_ladd C dX9_digest_49 ?_
        refine rw_nmL (fun x71 => ?_)
        refine rw_lstore_n (lv' := [(1, .long x71), (0, .ref (κ.1 + 196)), (3, .int x69)]) C dX9_digest_50 rfl (by decide) rfl ?_
        refine rw_iinc (c := 1) (lv' := [(3, .int (x69 + 1)), (1, .long x71), (0, .ref (κ.1 + 196))]) C dX9_digest_51 2 rfl (by decide) (by decide) rfl ?_
        refine rw_goto (tgt := 33) C dX9_digest_54 (by decide) ?_
        exact rw_lv [2, 1, 0] rfl (hrec10 x71 (x69 + 1) M25)
  · refine rw_lv (lv' := [(0, .ref (κ.1 + 196)), (1, .long 17), (3, .int 0)]) [2, 1, 0] rfl ?_
    refine pv_lp3_ind (fun x72 x73 M26 xx => pv_R g κ pv_T pv_RF 7 0 0 (pv_QF g κ pv_jl) 6 [(0, .ref (κ.1 + 196)), (1, .long x72), (3, .int x73)] [] M26 xx) (fun _ _ _ => rw_none) (fun rec11 hrec11 x72 x73 M26 => ?_) _ _ _ _
    unfold f_X9_digest_L6
    refine rw_iload_n C dX9_digest_6 rfl 2 rfl ?_
    refine rw_bipush (c := 8) C dX9_digest_7 (by decide) ?_
    refine rw_icmp_ge (tgt := 31) C dX9_digest_9 (by decide) ?_ ?_
    · exact rw_lv [0, 1] rfl (hj1 x72 M26)
    · refine rw_ldc2_w (c := 31) C dX9_digest_12 mw_1150 ?_
      refine rw_lload_n C dX9_digest_15 rfl 1 rfl ?_
      refine rw_lmul C dX9_digest_16 ?_
      refine rw_aload_n C dX9_digest_17 rfl 0 rfl ?_
      refine rw_iload_n C dX9_digest_18 rfl 2 rfl ?_
      refine rw_callVi (As := [.int x73]) (k0 := 196) C hR dX9_digest_19 cv_X9_349 (k_X9_count g.2.1 κ x73 M26) (by decide) (by decide) (by decide) sh_196 rfl rfl (Nat.le_of_ble_eq_true rfl) rfl (fun x74 M27 => ?_)
      refine rw_i2l C dX9_digest_22 ?_
      refine rw_ladd C dX9_digest_23 ?_
      refine rw_nmL (fun x75 => ?_)
      refine rw_lstore_n (lv' := [(1, .long x75), (0, .ref (κ.1 + 196)), (3, .int x73)]) C dX9_digest_24 rfl (by decide) rfl ?_
      refine rw_iinc (c := 1) (lv' := [(3, .int (x73 + 1)), (1, .long x75), (0, .ref (κ.1 + 196))]) C dX9_digest_25 2 rfl (by decide) (by decide) rfl ?_
      refine rw_goto (tgt := 6) C dX9_digest_28 (by decide) ?_
      exact rw_lv [2, 1, 0] rfl (hrec11 x75 (x73 + 1) M27)
