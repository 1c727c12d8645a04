def f_X0_fillOdds_L15 (j1 : pv_M → Option (Unit × pv_M)) (x1 : Int32) (rec2 : Int32 → pv_M → Option (Unit × pv_M)) (x5 : Int32) (M4 : pv_M) : Option (Unit × pv_M) := (if 3 ≤ x5 then j1 M4 else pv_ldR pv_T 174 x1 (fun k2 => pv_cap (f_X2_figure 0 x1 x5 M4) (fun x6 => pv_cap (f_X2_figure 0 0 x5 M4) (fun x7 => pv_stI pv_T k2 x5 (x6 - x7) M4 (fun M5 => rec2 (x5 + 1) M5)))))
def f_X0_fillOdds_L2 (a1 : Int32) (rec1 : Int32 → pv_M → Option (Unit × pv_M)) (x1 : Int32) (M1 : pv_M) : Option (Unit × pv_M) := pv_nm (M1.1 39 0) (fun x2 => (if x2 ≤ x1 then some ((), M1) else pv_jn (fun (M2 : pv_M) => pv_ldR pv_T 174 x1 (fun k1 => pv_cap (f_X2_gain a1 0 x1 M2) (fun x3 => pv_cap (f_X2_gain a1 0 0 M2) (fun x4 => pv_stI pv_T k1 3 (x3 - x4) M2 (fun M3 => rec1 (x1 + 1) M3))))) (fun j1 => pv_lp2 (f_X0_fillOdds_L15 j1 x1) pv_FU 0 M1)))
def f_X0_fillOdds (a1 : Int32) (M : pv_M) : Option (Unit × pv_M) := pv_lp2 (f_X0_fillOdds_L2 a1) pv_FU 1 M
set_option maxHeartbeats 4000000 in
set_option maxRecDepth 100000 in
theorem k_X0_fillOdds (l : Launch) (κ : pv_K) (a1 : Int32) (M : pv_M) : pv_Mt l yX0_fillOdds cX0_fillOdds 4 none 1 κ [.ref (κ.1 + 158), .int a1] M pv_ju (f_X0_fillOdds a1 M) := by
  refine pv_enter (by decide +kernel) (Nat.le_of_ble_eq_true rfl) (fun g hl hR C => ?_)
  have C : pv_Ok g κ 4 cX0_fillOdds RX0 none := C
  show pv_R g κ pv_T pv_RF 4 0 0 (pv_QF g κ pv_ju) 0 [(0, .ref (κ.1 + 158)), (1, .int a1)] [] M (f_X0_fillOdds a1 M)
  unfold f_X0_fillOdds
  refine rw_iconst (c := 1) C dX0_fillOdds_0 ci_1 ?_
  refine rw_istore_n (lv' := [(2, .int 1), (0, .ref (κ.1 + 158)), (1, .int a1)]) C dX0_fillOdds_1 rfl (by decide) rfl ?_
  refine rw_lv (lv' := [(0, .ref (κ.1 + 158)), (1, .int a1), (2, .int 1)]) [1, 2, 0] rfl ?_
  refine pv_lp2_ind (fun x1 M1 xx => pv_R g κ pv_T pv_RF 4 0 0 (pv_QF g κ pv_ju) 2 [(0, .ref (κ.1 + 158)), (1, .int a1), (2, .int x1)] [] M1 xx) (fun _ _ => rw_none) (fun rec1 hrec1 x1 M1 => ?_) _ _ _
  unfold f_X0_fillOdds_L2
  refine rw_iload_n C dX0_fillOdds_2 rfl 2 rfl ?_
  refine rw_aload_n C dX0_fillOdds_3 rfl 0 rfl ?_
  refine rw_getR (k0 := 158) (k1 := 39) C dX0_fillOdds_4 fl_X0_44 rfl (by decide) sh_158 (by decide) rfl ?_
  refine rw_getI (k0 := 39) C dX0_fillOdds_7 fl_X0_62 rfl (by decide) sh_39 (by decide) (fun x2 => ?_)
  refine rw_icmp_ge (tgt := 90) C dX0_fillOdds_10 (by decide) ?_ ?_
  · exact rw_vret C dX0_fillOdds_90
  · refine rw_iconst (c := 0) C dX0_fillOdds_13 ci_0 ?_
    refine rw_istore_n (lv' := [(3, .int 0), (0, .ref (κ.1 + 158)), (1, .int a1), (2, .int x1)]) C dX0_fillOdds_14 rfl (by decide) rfl ?_
    refine rw_jn (fun j1 => ∀ (M2 : pv_M), pv_R g κ pv_T pv_RF 4 0 0 (pv_QF g κ pv_ju) 55 [(0, .ref (κ.1 + 158)), (1, .int a1), (2, .int x1)] [] M2 (j1 M2)) (fun M2 => ?_) (fun j1 hj1 => ?_)
    · refine rw_aload_n C dX0_fillOdds_55 rfl 0 rfl ?_
      refine rw_getR (k0 := 158) (k1 := 174) C dX0_fillOdds_56 fl_X0_41 rfl (by decide) sh_158 (by decide) rfl ?_
      refine rw_iload_n C dX0_fillOdds_59 rfl 2 rfl ?_
      refine rw_ldR C dX0_fillOdds_60 (fun k1 => ?_)
      refine rw_iconst (c := 3) C dX0_fillOdds_61 ci_3 ?_
      refine rw_aload_n C dX0_fillOdds_62 rfl 0 rfl ?_
      refine rw_getR (k0 := 158) (k1 := 39) C dX0_fillOdds_63 fl_X0_44 rfl (by decide) sh_158 (by decide) rfl ?_
      refine rw_iload_n C dX0_fillOdds_66 rfl 1 rfl ?_
      refine rw_iconst (c := 0) C dX0_fillOdds_67 ci_0 ?_
      refine rw_iload_n C dX0_fillOdds_68 rfl 2 rfl ?_
      refine rw_callVPi (As := [.int a1, .int 0, .int x1]) (k0 := 39) C hR dX0_fillOdds_69 cv_X0_141 (k_X2_gain g.2.1 κ a1 0 x1 M2) (by decide) (by decide) (by decide) sh_39 rfl rfl (Nat.le_of_ble_eq_true rfl) rfl (fun x3 => ?_)
      refine rw_aload_n C dX0_fillOdds_72 rfl 0 rfl ?_
      refine rw_getR (k0 := 158) (k1 := 39) C dX0_fillOdds_73 fl_X0_44 rfl (by decide) sh_158 (by decide) rfl ?_
      refine rw_iload_n C dX0_fillOdds_76 rfl 1 rfl ?_
      refine rw_iconst (c := 0) C dX0_fillOdds_77 ci_0 ?_
      refine rw_iconst (c := 0) C dX0_fillOdds_78 ci_0 ?_
      refine rw_callVPi (As := [.int a1, .int 0, .int 0]) (k0 := 39) C hR dX0_fillOdds_79 cv_X0_141 (k_X2_gain g.2.1 κ a1 0 0 M2) (by decide) (by decide) (by decide) sh_39 rfl rfl (Nat.le_of_ble_eq_true rfl) rfl (fun x4 => ?_)
      refine rw_isub C dX0_fillOdds_82 ?_
      refine rw_stI C dX0_fillOdds_83 (fun M3 => ?_)
      refine rw_iinc (c := 1) (lv' := [(2, .int (x1 + 1)), (0, .ref (κ.1 + 158)), (1, .int a1)]) C dX0_fillOdds_84 2 rfl (by decide) (by decide) rfl ?_
      refine rw_goto (tgt := 2) C dX0_fillOdds_87 (by decide) ?_
      exact rw_lv [1, 2, 0] rfl (hrec1 (x1 + 1) M3)
    · refine rw_lv (lv' := [(0, .ref (κ.1 + 158)), (1, .int a1), (2, .int x1), (3, .int 0)]) [1, 2, 3, 0] rfl ?_
      refine pv_lp2_ind (fun x5 M4 xx => pv_R g κ pv_T pv_RF 4 0 0 (pv_QF g κ pv_ju) 15 [(0, .ref (κ.1 + 158)), (1, .int a1), (2, .int x1), (3, .int x5)] [] M4 xx) (fun _ _ => rw_none) (fun rec2 hrec2 x5 M4 => ?_) _ _ _
      unfold f_X0_fillOdds_L15
      refine rw_iload_n C dX0_fillOdds_15 rfl 3 rfl ?_
      refine rw_iconst (c := 3) C dX0_fillOdds_16 ci_3 ?_
      refine rw_icmp_ge (tgt := 55) C dX0_fillOdds_17 (by decide) ?_ ?_
      · exact rw_lv [0, 1, 2] rfl (hj1 M4)
      · refine rw_aload_n C dX0_fillOdds_20 rfl 0 rfl ?_
        refine rw_getR (k0 := 158) (k1 := 174) C dX0_fillOdds_21 fl_X0_41 rfl (by decide) sh_158 (by decide) rfl ?_
        refine rw_iload_n C dX0_fillOdds_24 rfl 2 rfl ?_
        refine rw_ldR C dX0_fillOdds_25 (fun k2 => ?_)
        refine rw_iload_n C dX0_fillOdds_26 rfl 3 rfl ?_
        refine rw_aload_n C dX0_fillOdds_27 rfl 0 rfl ?_
        refine rw_getR (k0 := 158) (k1 := 39) C dX0_fillOdds_28 fl_X0_44 rfl (by decide) sh_158 (by decide) rfl ?_
        refine rw_iconst (c := 0) C dX0_fillOdds_31 ci_0 ?_
        refine rw_iload_n C dX0_fillOdds_32 rfl 2 rfl ?_
        refine rw_iload_n C dX0_fillOdds_33 rfl 3 rfl ?_
        refine rw_callVPi (As := [.int 0, .int x1, .int x5]) (k0 := 39) C hR dX0_fillOdds_34 cv_X0_125 (k_X2_figure g.2.1 κ 0 x1 x5 M4) (by decide) (by decide) (by decide) sh_39 rfl rfl (Nat.le_of_ble_eq_true rfl) rfl (fun x6 => ?_)
        refine rw_aload_n C dX0_fillOdds_37 rfl 0 rfl ?_
        refine rw_getR (k0 := 158) (k1 := 39) C dX0_fillOdds_38 fl_X0_44 rfl (by decide) sh_158 (by decide) rfl ?_
        refine rw_iconst (c := 0) C dX0_fillOdds_41 ci_0 ?_
        refine rw_iconst (c := 0) C dX0_fillOdds_42 ci_0 ?_
        refine rw_iload_n C dX0_fillOdds_43 rfl 3 rfl ?_
        refine rw_callVPi (As := [.int 0, .int 0, .int x5]) (k0 := 39) C hR dX0_fillOdds_44 cv_X0_125 (k_X2_figure g.2.1 κ 0 0 x5 M4) (by decide) (by decide) (by decide) sh_39 rfl rfl (Nat.le_of_ble_eq_true rfl) rfl (fun x7 => ?_)
        refine rw_isub C dX0_fillOdds_47 ?_
        refine rw_stI C dX0_fillOdds_48 (fun M5 => ?_)
        refine rw_iinc (c := 1) (lv' := [(3, .int (x5 + 1)), (0, .ref (κ.1 + 158)), (1, .int a1), (2, .int x1)]) C dX0_fillOdds_49 3 rfl (by decide) (by decide) rfl ?_
        refine rw_goto (tgt := 15) C dX0_fillOdds_52 (by decide) ?_
        exact rw_lv [1, 2, 3, 0] rfl (hrec2 (x5 + 1) M5)
def f_X0_isEven_L3 (M : pv_M) (a1 : Int32) (a2 : Int32) (a3 : Int32) (rec1 : Int32 → Option Int32) (x1 : Int32) : Option Int32 := pv_nm (M.1 39 0) (fun x2 => (if x2 ≤ x1 then some 1 else pv_ldR pv_T 174 x1 (fun k1 => pv_ldI pv_T k1 0 M (fun x3 => pv_ldI pv_T k1 1 M (fun x4 => pv_ldI pv_T k1 2 M (fun x5 => pv_ldI pv_T k1 3 M (fun x6 => (if ((((a1 * x3) + (a2 * x4)) + (a3 * x5)) + x6) = 0 then rec1 (x1 + 1) else some 0))))))))
def f_X0_isEven (a1 : Int32) (a2 : Int32) (a3 : Int32) (M : pv_M) : Option Int32 := pv_lp1 (f_X0_isEven_L3 M a1 a2 a3) pv_FU 1
set_option maxHeartbeats 4000000 in
set_option maxRecDepth 100000 in
theorem k_X0_isEven (l : Launch) (κ : pv_K) (a1 : Int32) (a2 : Int32) (a3 : Int32) (M : pv_M) : pv_MtP l yX0_isEven cX0_isEven 6 (some .boolean) 0 κ [.ref (κ.1 + 158), .int a1, .int a2, .int a3] M pv_ji (f_X0_isEven a1 a2 a3 M) := by
  refine pv_enterP (by decide +kernel) (Nat.le_of_ble_eq_true rfl) (fun g hl hR C => ?_)
  have C : pv_Ok g κ 6 cX0_isEven RX0 (some .boolean) := C
  show pv_R g κ pv_T pv_RF 6 0 0 (pv_QP g κ pv_ji M) 0 [(0, .ref (κ.1 + 158)), (1, .int a1), (2, .int a2), (3, .int a3)] [] M (f_X0_isEven a1 a2 a3 M)
  unfold f_X0_isEven
  refine rw_iconst (c := 1) C dX0_isEven_0 ci_1 ?_
  refine rw_istore (lv' := [(4, .int 1), (0, .ref (κ.1 + 158)), (1, .int a1), (2, .int a2), (3, .int a3)]) C dX0_isEven_1 (by decide) rfl ?_
  refine rw_lv (lv' := [(0, .ref (κ.1 + 158)), (1, .int a1), (2, .int a2), (3, .int a3), (4, .int 1)]) [1, 2, 3, 4, 0] rfl ?_
  refine pv_lp1_ind (fun x1 xx => pv_R g κ pv_T pv_RF 6 0 0 (pv_QP g κ pv_ji M) 3 [(0, .ref (κ.1 + 158)), (1, .int a1), (2, .int a2), (3, .int a3), (4, .int x1)] [] M xx) (fun _ => rw_none) (fun rec1 hrec1 x1 => ?_) _ _
  unfold f_X0_isEven_L3
  refine rw_iload C dX0_isEven_3 4 rfl ?_
  refine rw_aload_n C dX0_isEven_5 rfl 0 rfl ?_
  refine rw_getR (k0 := 158) (k1 := 39) C dX0_isEven_6 fl_X0_44 rfl (by decide) sh_158 (by decide) rfl ?_
  refine rw_getI (k0 := 39) C dX0_isEven_9 fl_X0_62 rfl (by decide) sh_39 (by decide) (fun x2 => ?_)
  refine rw_icmp_ge (tgt := 60) C dX0_isEven_12 (by decide) ?_ ?_
  · refine rw_iconst (c := 1) C dX0_isEven_60 ci_1 ?_
    exact rw_zretP (Or.inr rfl) C dX0_isEven_61
  · refine rw_aload_n C dX0_isEven_15 rfl 0 rfl ?_
    refine rw_getR (k0 := 158) (k1 := 174) C dX0_isEven_16 fl_X0_41 rfl (by decide) sh_158 (by decide) rfl ?_
    refine rw_iload C dX0_isEven_19 4 rfl ?_
    refine rw_ldR C dX0_isEven_21 (fun k1 => ?_)
    refine rw_astore (lv' := [(5, .ref (κ.1 + k1)), (0, .ref (κ.1 + 158)), (1, .int a1), (2, .int a2), (3, .int a3), (4, .int x1)]) C dX0_isEven_22 (by decide) rfl ?_
    refine rw_iload_n C dX0_isEven_24 rfl 2 rfl ?_
    refine rw_aload C dX0_isEven_25 0 rfl ?_
    refine rw_iconst (c := 0) C dX0_isEven_27 ci_0 ?_
    refine rw_ldI C dX0_isEven_28 (fun x3 => ?_)
    refine rw_imul C dX0_isEven_29 ?_
    refine rw_iload_n C dX0_isEven_30 rfl 3 rfl ?_
    refine rw_aload C dX0_isEven_31 0 rfl ?_
    refine rw_iconst (c := 1) C dX0_isEven_33 ci_1 ?_
    refine rw_ldI C dX0_isEven_34 (fun x4 => ?_)
    refine rw_imul C dX0_isEven_35 ?_
    refine rw_iadd C dX0_isEven_36 ?_
    refine rw_iload_n C dX0_isEven_37 rfl 4 rfl ?_
    refine rw_aload C dX0_isEven_38 0 rfl ?_
    refine rw_iconst (c := 2) C dX0_isEven_40 ci_2 ?_
    refine rw_ldI C dX0_isEven_41 (fun x5 => ?_)
    refine rw_imul C dX0_isEven_42 ?_
    refine rw_iadd C dX0_isEven_43 ?_
    refine rw_aload C dX0_isEven_44 0 rfl ?_
    refine rw_iconst (c := 3) C dX0_isEven_46 ci_3 ?_
    refine rw_ldI C dX0_isEven_47 (fun x6 => ?_)
    refine rw_iadd C dX0_isEven_48 ?_
    refine rw_if_eq (tgt := 54) C dX0_isEven_49 (by decide) ?_ ?_
    · refine rw_iinc (c := 1) (lv' := [(4, .int (x1 + 1)), (5, .ref (κ.1 + k1)), (0, .ref (κ.1 + 158)), (1, .int a1), (2, .int a2), (3, .int a3)]) C dX0_isEven_54 5 rfl (by decide) (by decide) rfl ?_
      refine rw_goto (tgt := 3) C dX0_isEven_57 (by decide) ?_
      exact rw_lv [2, 3, 4, 5, 0] rfl (hrec1 (x1 + 1))
    · refine rw_iconst (c := 0) C dX0_isEven_52 ci_0 ?_
      exact rw_zretP (Or.inl rfl) C dX0_isEven_53
def f_X0_evenHolding_L32 (rec2 : Int32 → Int32 → Int32 → Option (Int32 × pv_M)) (x6 : Int32) (x3 : Int32) (M1 : pv_M) (rec3 : Int32 → Int32 → Int32 → Option (Int32 × pv_M)) (x7 : Int32) (x8 : Int32) (x9 : Int32) : Option (Int32 × pv_M) := (if 9 < x9 then rec2 x7 x8 (x6 + 1) else pv_nm ((x3 + x6) + x9) (fun x10 => pv_jn (pv_cap (f_X0_isEven x3 x6 x9 M1) (fun x11 => (if x11 = 0 then rec3 x7 x8 (x9 + 1) else pv_nm (((100 * x3) + (10 * x6)) + x9) (fun x12 => rec3 x12 x10 (x9 + 1))))) (fun j1 => (if x7 = ((-1)) then j1 else (if x10 < x8 then j1 else rec2 x7 x8 (x6 + 1))))))
def f_X0_evenHolding_L22 (rec1 : Int32 → Int32 → Int32 → Option (Int32 × pv_M)) (x3 : Int32) (M1 : pv_M) (rec2 : Int32 → Int32 → Int32 → Option (Int32 × pv_M)) (x4 : Int32) (x5 : Int32) (x6 : Int32) : Option (Int32 × pv_M) := (if 9 < x6 then rec1 x4 x5 (x3 + 1) else pv_lp3 (f_X0_evenHolding_L32 rec2 x6 x3 M1) pv_FU x4 x5 0)
def f_X0_evenHolding_L12 (M1 : pv_M) (rec1 : Int32 → Int32 → Int32 → Option (Int32 × pv_M)) (x1 : Int32) (x2 : Int32) (x3 : Int32) : Option (Int32 × pv_M) := (if 9 < x3 then some (x1, M1) else pv_lp3 (f_X0_evenHolding_L22 rec1 x3 M1) pv_FU x1 x2 0)
def f_X0_evenHolding (a1 : Int32) (M : pv_M) : Option (Int32 × pv_M) := pv_cal (f_X0_fillOdds a1 M) (fun u1 M1 => pv_lp3 (f_X0_evenHolding_L12 M1) pv_FU ((-1)) 0 0)
set_option maxHeartbeats 4000000 in
set_option maxRecDepth 100000 in
theorem k_X0_evenHolding (l : Launch) (κ : pv_K) (a1 : Int32) (M : pv_M) : pv_Mt l yX0_evenHolding cX0_evenHolding 8 (some .int) 2 κ [.ref (κ.1 + 158), .int a1] M pv_ji (f_X0_evenHolding a1 M) := by
  refine pv_enter (by decide +kernel) (Nat.le_of_ble_eq_true rfl) (fun g hl hR C => ?_)
  have C : pv_Ok g κ 8 cX0_evenHolding RX0 (some .int) := C
  show pv_R g κ pv_T pv_RF 8 0 0 (pv_QF g κ pv_ji) 0 [(0, .ref (κ.1 + 158)), (1, .int a1)] [] M (f_X0_evenHolding a1 M)
  unfold f_X0_evenHolding
  refine rw_iconst (c := (-1)) C dX0_evenHolding_0 ci_m1 ?_
  refine rw_istore_n (lv' := [(2, .int (-1)), (0, .ref (κ.1 + 158)), (1, .int a1)]) C dX0_evenHolding_1 rfl (by decide) rfl ?_
  refine rw_iconst (c := 0) C dX0_evenHolding_2 ci_0 ?_
  refine rw_istore_n (lv' := [(3, .int 0), (2, .int (-1)), (0, .ref (κ.1 + 158)), (1, .int a1)]) C dX0_evenHolding_3 rfl (by decide) rfl ?_
  refine rw_aload_n C dX0_evenHolding_4 rfl 2 rfl ?_
  refine rw_iload_n C dX0_evenHolding_5 rfl 3 rfl ?_
  refine rw_callVu (As := [.int a1]) (k0 := 158) C hR dX0_evenHolding_6 cv_X0_134 (k_X0_fillOdds g.2.1 κ a1 M) (by decide) (by decide) (by decide) sh_158 rfl rfl (Nat.le_of_ble_eq_true rfl) rfl (fun u1 M1 => ?_)
  refine rw_iconst (c := 0) C dX0_evenHolding_9 ci_0 ?_
  refine rw_istore (lv' := [(4, .int 0), (3, .int 0), (2, .int (-1)), (0, .ref (κ.1 + 158)), (1, .int a1)]) C dX0_evenHolding_10 (by decide) rfl ?_
  refine rw_lv (lv' := [(0, .ref (κ.1 + 158)), (2, .int (-1)), (3, .int 0), (4, .int 0)]) [3, 2, 1, 0] rfl ?_
  refine pv_lp3_ind (fun x1 x2 x3 xx => pv_R g κ pv_T pv_RF 8 0 0 (pv_QF g κ pv_ji) 12 [(0, .ref (κ.1 + 158)), (2, .int x1), (3, .int x2), (4, .int x3)] [] M1 xx) (fun _ _ _ => rw_none) (fun rec1 hrec1 x1 x2 x3 => ?_) _ _ _ _
  unfold f_X0_evenHolding_L12
  refine rw_iload C dX0_evenHolding_12 3 rfl ?_
  refine rw_bipush (c := 9) C dX0_evenHolding_14 (by decide) ?_
  refine rw_icmp_gt (tgt := 115) C dX0_evenHolding_16 (by decide) ?_ ?_
  · refine rw_iload_n C dX0_evenHolding_115 rfl 1 rfl ?_
    exact rw_iret C dX0_evenHolding_116
  · refine rw_iconst (c := 0) C dX0_evenHolding_19 ci_0 ?_
    refine rw_istore (lv' := [(5, .int 0), (0, .ref (κ.1 + 158)), (2, .int x1), (3, .int x2), (4, .int x3)]) C dX0_evenHolding_20 (by decide) rfl ?_
    refine rw_lv (lv' := [(0, .ref (κ.1 + 158)), (2, .int x1), (3, .int x2), (4, .int x3), (5, .int 0)]) [1, 2, 3, 4, 0] rfl ?_
    refine pv_lp3_ind (fun x4 x5 x6 xx => pv_R g κ pv_T pv_RF 8 0 0 (pv_QF g κ pv_ji) 22 [(0, .ref (κ.1 + 158)), (2, .int x4), (3, .int x5), (4, .int x3), (5, .int x6)] [] M1 xx) (fun _ _ _ => rw_none) (fun rec2 hrec2 x4 x5 x6 => ?_) _ _ _ _
    unfold f_X0_evenHolding_L22
    refine rw_iload C dX0_evenHolding_22 4 rfl ?_
    refine rw_bipush (c := 9) C dX0_evenHolding_24 (by decide) ?_
    refine rw_icmp_gt (tgt := 109) C dX0_evenHolding_26 (by decide) ?_ ?_
    · refine rw_iinc (c := 1) (lv' := [(4, .int (x3 + 1)), (0, .ref (κ.1 + 158)), (2, .int x4), (3, .int x5), (5, .int x6)]) C dX0_evenHolding_109 3 rfl (by decide) (by decide) rfl ?_
      refine rw_goto (tgt := 12) C dX0_evenHolding_112 (by decide) ?_
      exact rw_lv [1, 2, 3, 0] rfl (hrec1 x4 x5 (x3 + 1))
    · refine rw_iconst (c := 0) C dX0_evenHolding_29 ci_0 ?_
      refine rw_istore (lv' := [(6, .int 0), (0, .ref (κ.1 + 158)), (2, .int x4), (3, .int x5), (4, .int x3), (5, .int x6)]) C dX0_evenHolding_30 (by decide) rfl ?_
      refine rw_lv (lv' := [(0, .ref (κ.1 + 158)), (2, .int x4), (3, .int x5), (4, .int x3), (5, .int x6), (6, .int 0)]) [1, 2, 3, 4, 5, 0] rfl ?_
      refine pv_lp3_ind (fun x7 x8 x9 xx => pv_R g κ pv_T pv_RF 8 0 0 (pv_QF g κ pv_ji) 32 [(0, .ref (κ.1 + 158)), (2, .int x7), (3, .int x8), (4, .int x3), (5, .int x6), (6, .int x9)] [] M1 xx) (fun _ _ _ => rw_none) (fun rec3 hrec3 x7 x8 x9 => ?_) _ _ _ _
      unfold f_X0_evenHolding_L32
      refine rw_iload C dX0_evenHolding_32 5 rfl ?_
      refine rw_bipush (c := 9) C dX0_evenHolding_34 (by decide) ?_
      refine rw_icmp_gt (tgt := 103) C dX0_evenHolding_36 (by decide) ?_ ?_
      · refine rw_iinc (c := 1) (lv' := [(5, .int (x6 + 1)), (0, .ref (κ.1 + 158)), (2, .int x7), (3, .int x8), (4, .int x3), (6, .int x9)]) C dX0_evenHolding_103 4 rfl (by decide) (by decide) rfl ?_
        refine rw_goto (tgt := 22) C dX0_evenHolding_106 (by decide) ?_
        exact rw_lv [1, 2, 3, 4, 0] rfl (hrec2 x7 x8 (x6 + 1))
      · refine rw_iload C dX0_evenHolding_39 3 rfl ?_
        refine rw_iload C dX0_evenHolding_41 4 rfl ?_
        refine rw_iadd C dX0_evenHolding_43 ?_
        refine rw_iload C dX0_evenHolding_44 5 rfl ?_
        refine rw_iadd C dX0_evenHolding_46 ?_
        refine rw_nm (fun x10 => ?_)
        refine rw_istore (lv' := [(7, .int x10), (0, .ref (κ.1 + 158)), (2, .int x7), (3, .int x8), (4, .int x3), (5, .int x6), (6, .int x9)]) C dX0_evenHolding_47 (by decide) rfl ?_
        refine rw_iload_n C dX0_evenHolding_49 rfl 2 rfl ?_
        refine rw_iconst (c := (-1)) C dX0_evenHolding_50 ci_m1 ?_
        refine rw_jn (fun j1 => pv_R g κ pv_T pv_RF 8 0 0 (pv_QF g κ pv_ji) 63 [(0, .ref (κ.1 + 158)), (2, .int x7), (3, .int x8), (4, .int x3), (5, .int x6), (6, .int x9), (7, .int x10)] [] M1 (j1)) (?_) (fun j1 hj1 => ?_)
        · refine rw_aload_n C dX0_evenHolding_63 rfl 0 rfl ?_
          refine rw_iload C dX0_evenHolding_64 3 rfl ?_
          refine rw_iload C dX0_evenHolding_66 4 rfl ?_
          refine rw_iload C dX0_evenHolding_68 5 rfl ?_
          refine rw_callVPi (As := [.int x3, .int x6, .int x9]) (k0 := 158) C hR dX0_evenHolding_70 cv_X0_137 (k_X0_isEven g.2.1 κ x3 x6 x9 M1) (by decide) (by decide) (by decide) sh_158 rfl rfl (Nat.le_of_ble_eq_true rfl) rfl (fun x11 => ?_)
          refine rw_if_ne (tgt := 79) C dX0_evenHolding_73 (by decide) ?_ ?_
          · refine rw_bipush (c := 100) C dX0_evenHolding_79 (by decide) ?_
            refine rw_iload C dX0_evenHolding_81 3 rfl ?_
            refine rw_imul C dX0_evenHolding_83 ?_
            refine rw_bipush (c := 10) C dX0_evenHolding_84 (by decide) ?_
            refine rw_iload C dX0_evenHolding_86 4 rfl ?_
            refine rw_imul C dX0_evenHolding_88 ?_
            refine rw_iadd C dX0_evenHolding_89 ?_
            refine rw_iload C dX0_evenHolding_90 5 rfl ?_
            refine rw_iadd C dX0_evenHolding_92 ?_
            refine rw_nm (fun x12 => ?_)
            refine rw_istore_n (lv' := [(2, .int x12), (0, .ref (κ.1 + 158)), (3, .int x8), (4, .int x3), (5, .int x6), (6, .int x9), (7, .int x10)]) C dX0_evenHolding_93 rfl (by decide) rfl ?_
            refine rw_iload C dX0_evenHolding_94 6 rfl ?_
            refine rw_istore_n (lv' := [(3, .int x10), (2, .int x12), (0, .ref (κ.1 + 158)), (4, .int x3), (5, .int x6), (6, .int x9), (7, .int x10)]) C dX0_evenHolding_96 rfl (by decide) rfl ?_
            refine rw_iinc (c := 1) (lv' := [(6, .int (x9 + 1)), (3, .int x10), (2, .int x12), (0, .ref (κ.1 + 158)), (4, .int x3), (5, .int x6), (7, .int x10)]) C dX0_evenHolding_97 5 rfl (by decide) (by decide) rfl ?_
            refine rw_goto (tgt := 32) C dX0_evenHolding_100 (by decide) ?_
            exact rw_lv [3, 2, 1, 4, 5, 0] rfl (hrec3 x12 x10 (x9 + 1))
          · refine rw_goto (tgt := 97) C dX0_evenHolding_76 (by decide) ?_
            refine rw_iinc (c := 1) (lv' := [(6, .int (x9 + 1)), (0, .ref (κ.1 + 158)), (2, .int x7), (3, .int x8), (4, .int x3), (5, .int x6), (7, .int x10)]) C dX0_evenHolding_97 5 rfl (by decide) (by decide) rfl ?_
            refine rw_goto (tgt := 32) C dX0_evenHolding_100 (by decide) ?_
            exact rw_lv [1, 2, 3, 4, 5, 0] rfl (hrec3 x7 x8 (x9 + 1))
        · refine rw_icmp_eq (tgt := 63) C dX0_evenHolding_51 (by decide) ?_ ?_
          · exact rw_lv [1, 2, 3, 4, 5, 6, 0] rfl (hj1 )
          · refine rw_iload C dX0_evenHolding_54 0 rfl ?_
            refine rw_iload_n C dX0_evenHolding_56 rfl 3 rfl ?_
            refine rw_icmp_lt (tgt := 63) C dX0_evenHolding_57 (by decide) ?_ ?_
            · exact rw_lv [1, 2, 3, 4, 5, 6, 0] rfl (hj1 )
            · refine rw_goto (tgt := 103) C dX0_evenHolding_60 (by decide) ?_
              refine rw_iinc (c := 1) (lv' := [(5, .int (x6 + 1)), (7, .int x10), (0, .ref (κ.1 + 158)), (2, .int x7), (3, .int x8), (4, .int x3), (6, .int x9)]) C dX0_evenHolding_103 5 rfl (by decide) (by decide) rfl ?_
              refine rw_goto (tgt := 22) C dX0_evenHolding_106 (by decide) ?_
              exact rw_lv [2, 3, 4, 5, 0] rfl (hrec2 x7 x8 (x6 + 1))
def f_X1_winner (o : Nat) (a1 : Int32) (a2 : Int32) (M : pv_M) : Option Int32 := pv_ck (pv_isP o) (pv_ldR pv_T (o + 1) a1 (fun k1 => pv_ldI pv_T k1 a2 M (fun x1 => some x1)))
set_option maxHeartbeats 4000000 in
set_option maxRecDepth 100000 in
theorem k_X1_winner (l : Launch) (κ : pv_K) (o : Nat) (a1 : Int32) (a2 : Int32) (M : pv_M) : pv_MtP l yX1_winner cX1_winner 3 (some .int) 0 κ [.ref (κ.1 + o), .int a1, .int a2] M pv_ji (f_X1_winner o a1 a2 M) := by
  refine pv_enterP (by decide +kernel) (Nat.le_of_ble_eq_true rfl) (fun g hl hR C => ?_)
  have C : pv_Ok g κ 3 cX1_winner RX1 (some .int) := C
  show pv_R g κ pv_T pv_RF 3 0 0 (pv_QP g κ pv_ji M) 0 [(0, .ref (κ.1 + o)), (1, .int a1), (2, .int a2)] [] M (f_X1_winner o a1 a2 M)
  unfold f_X1_winner
  refine rw_ck (fun hc0 => ?_)
  refine rw_aload_n C dX1_winner_0 rfl 0 rfl ?_
  refine rw_getR (k0 := o) (k1 := (o + 1)) C dX1_winner_1 fl_X1_11 rfl (pv_isP_lt hc0) (pv_isP_sh hc0) (by decide) (pv_isP_r2 hc0) ?_
  refine rw_iload_n C dX1_winner_4 rfl 1 rfl ?_
  refine rw_ldR C dX1_winner_5 (fun k1 => ?_)
  refine rw_iload_n C dX1_winner_6 rfl 2 rfl ?_
  refine rw_ldI C dX1_winner_7 (fun x1 => ?_)
  exact rw_iretP C dX1_winner_8
def f_X1_greatness (o : Nat) (a1 : Int32) (a2 : Int32) (M : pv_M) : Option Int32 := pv_ck (pv_isP o) (pv_ldR pv_T (o + 12) a1 (fun k1 => pv_ldI pv_T k1 a2 M (fun x1 => some x1)))
set_option maxHeartbeats 4000000 in
set_option maxRecDepth 100000 in
theorem k_X1_greatness (l : Launch) (κ : pv_K) (o : Nat) (a1 : Int32) (a2 : Int32) (M : pv_M) : pv_MtP l yX1_greatness cX1_greatness 3 (some .int) 0 κ [.ref (κ.1 + o), .int a1, .int a2] M pv_ji (f_X1_greatness o a1 a2 M) := by
  refine pv_enterP (by decide +kernel) (Nat.le_of_ble_eq_true rfl) (fun g hl hR C => ?_)
  have C : pv_Ok g κ 3 cX1_greatness RX1 (some .int) := C
  show pv_R g κ pv_T pv_RF 3 0 0 (pv_QP g κ pv_ji M) 0 [(0, .ref (κ.1 + o)), (1, .int a1), (2, .int a2)] [] M (f_X1_greatness o a1 a2 M)
  unfold f_X1_greatness
  refine rw_ck (fun hc0 => ?_)
  refine rw_aload_n C dX1_greatness_0 rfl 0 rfl ?_
  refine rw_getR (k0 := o) (k1 := (o + 12)) C dX1_greatness_1 fl_X1_16 rfl (pv_isP_lt hc0) (pv_isP_sh hc0) (by decide) (pv_isP_r3 hc0) ?_
  refine rw_iload_n C dX1_greatness_4 rfl 1 rfl ?_
  refine rw_ldR C dX1_greatness_5 (fun k1 => ?_)
  refine rw_iload_n C dX1_greatness_6 rfl 2 rfl ?_
  refine rw_ldI C dX1_greatness_7 (fun x1 => ?_)
  exact rw_iretP C dX1_greatness_8
def f_X1_tally (o : Nat) (a1 : Int32) (a2 : Int32) (a3 : Int32) (M : pv_M) : Option Int32 := pv_ck (pv_isP o) (pv_ldR pv_T (o + 23) a1 (fun k1 => pv_ldI pv_T k1 ((a2 * 4) + a3) M (fun x1 => some x1)))
set_option maxHeartbeats 4000000 in
set_option maxRecDepth 100000 in
theorem k_X1_tally (l : Launch) (κ : pv_K) (o : Nat) (a1 : Int32) (a2 : Int32) (a3 : Int32) (M : pv_M) : pv_MtP l yX1_tally cX1_tally 4 (some .int) 0 κ [.ref (κ.1 + o), .int a1, .int a2, .int a3] M pv_ji (f_X1_tally o a1 a2 a3 M) := by
  refine pv_enterP (by decide +kernel) (Nat.le_of_ble_eq_true rfl) (fun g hl hR C => ?_)
  have C : pv_Ok g κ 4 cX1_tally RX1 (some .int) := C
  show pv_R g κ pv_T pv_RF 4 0 0 (pv_QP g κ pv_ji M) 0 [(0, .ref (κ.1 + o)), (1, .int a1), (2, .int a2), (3, .int a3)] [] M (f_X1_tally o a1 a2 a3 M)
  unfold f_X1_tally
  refine rw_ck (fun hc0 => ?_)
  refine rw_aload_n C dX1_tally_0 rfl 0 rfl ?_
  refine rw_getR (k0 := o) (k1 := (o + 23)) C dX1_tally_1 fl_X1_19 rfl (pv_isP_lt hc0) (pv_isP_sh hc0) (by decide) (pv_isP_r4 hc0) ?_
  refine rw_iload_n C dX1_tally_4 rfl 1 rfl ?_
  refine rw_ldR C dX1_tally_5 (fun k1 => ?_)
  refine rw_iload_n C dX1_tally_6 rfl 2 rfl ?_
  refine rw_iconst (c := 4) C dX1_tally_7 ci_4 ?_
  refine rw_imul C dX1_tally_8 ?_
  refine rw_iload_n C dX1_tally_9 rfl 3 rfl ?_
  refine rw_iadd C dX1_tally_10 ?_
  refine rw_ldI C dX1_tally_11 (fun x1 => ?_)
  exact rw_iretP C dX1_tally_12
def f_X1_leaveOpen (o : Nat) (a1 : Int32) (a2 : Int32) (M : pv_M) : Option (Unit × pv_M) := pv_ck (pv_isP o) (pv_ldR pv_T (o + 1) a1 (fun k1 => pv_stI pv_T k1 a2 ((-1)) M (fun M1 => pv_ldR pv_T (o + 12) a1 (fun k2 => pv_stI pv_T k2 a2 1 M1 (fun M2 => some ((), M2))))))
set_option maxHeartbeats 4000000 in
set_option maxRecDepth 100000 in
theorem k_X1_leaveOpen (l : Launch) (κ : pv_K) (o : Nat) (a1 : Int32) (a2 : Int32) (M : pv_M) : pv_Mt l yX1_leaveOpen cX1_leaveOpen 3 none 0 κ [.ref (κ.1 + o), .int a1, .int a2] M pv_ju (f_X1_leaveOpen o a1 a2 M) := by
  refine pv_enter (by decide +kernel) (Nat.le_of_ble_eq_true rfl) (fun g hl hR C => ?_)
  have C : pv_Ok g κ 3 cX1_leaveOpen RX1 none := C
  show pv_R g κ pv_T pv_RF 3 0 0 (pv_QF g κ pv_ju) 0 [(0, .ref (κ.1 + o)), (1, .int a1), (2, .int a2)] [] M (f_X1_leaveOpen o a1 a2 M)
  unfold f_X1_leaveOpen
  refine rw_ck (fun hc0 => ?_)
  refine rw_aload_n C dX1_leaveOpen_0 rfl 0 rfl ?_
  refine rw_getR (k0 := o) (k1 := (o + 1)) C dX1_leaveOpen_1 fl_X1_11 rfl (pv_isP_lt hc0) (pv_isP_sh hc0) (by decide) (pv_isP_r2 hc0) ?_
  refine rw_iload_n C dX1_leaveOpen_4 rfl 1 rfl ?_
  refine rw_ldR C dX1_leaveOpen_5 (fun k1 => ?_)
  refine rw_iload_n C dX1_leaveOpen_6 rfl 2 rfl ?_
  refine rw_iconst (c := (-1)) C dX1_leaveOpen_7 ci_m1 ?_
  refine rw_stI C dX1_leaveOpen_8 (fun M1 => ?_)
  refine rw_aload_n C dX1_leaveOpen_9 rfl 0 rfl ?_
  refine rw_getR (k0 := o) (k1 := (o + 12)) C dX1_leaveOpen_10 fl_X1_16 rfl (pv_isP_lt hc0) (pv_isP_sh hc0) (by decide) (pv_isP_r3 hc0) ?_
  refine rw_iload_n C dX1_leaveOpen_13 rfl 1 rfl ?_
  refine rw_ldR C dX1_leaveOpen_14 (fun k2 => ?_)
  refine rw_iload_n C dX1_leaveOpen_15 rfl 2 rfl ?_
  refine rw_iconst (c := 1) C dX1_leaveOpen_16 ci_1 ?_
  refine rw_stI C dX1_leaveOpen_17 (fun M2 => ?_)
  exact rw_vret C dX1_leaveOpen_18
def f_X1_approve_L36 (r1 : Nat) (a2 : Int32) (o : Nat) (x1 : Int32) (rec1 : Int32 → pv_M → Option (Unit × pv_M)) (x2 : Int32) (M1 : pv_M) : Option (Unit × pv_M) := pv_nm (M1.1 39 0) (fun x3 => (if x3 ≤ x2 then some ((), M1) else pv_jn (fun (x4 : Int32) => (if x4 = 0 then rec1 (x2 + 1) M1 else pv_ldI pv_T r1 x2 M1 (fun x5 => pv_stI pv_T r1 x2 (x5 + 1) M1 (fun M2 => rec1 (x2 + 1) M2)))) (fun j2 => (if a2 = ((-1)) then pv_ldI pv_T (o + 34) x2 M1 (fun x8 => pv_nm (M1.1 39 0) (fun x9 => (if (x8 * x9) < x1 then j2 0 else j2 1))) else pv_ldI pv_T (o + 34) x2 M1 (fun x6 => pv_ldI pv_T (o + 34) a2 M1 (fun x7 => (if x6 < x7 then j2 0 else j2 1)))))))
def f_X1_approve_L5 (M : pv_M) (j1 : Int32 → Option (Unit × pv_M)) (o : Nat) (rec2 : Int32 → Int32 → Option (Unit × pv_M)) (x10 : Int32) (x11 : Int32) : Option (Unit × pv_M) := pv_nm (M.1 39 0) (fun x12 => (if x12 ≤ x11 then j1 x10 else pv_ldI pv_T (o + 34) x11 M (fun x13 => pv_nm (x10 + x13) (fun x14 => rec2 x14 (x11 + 1)))))
def f_X1_approve (o : Nat) (r1 : Nat) (a2 : Int32) (M : pv_M) : Option (Unit × pv_M) := pv_ck (pv_isP o) (pv_jn (fun (x1 : Int32) => pv_lp2 (f_X1_approve_L36 r1 a2 o x1) pv_FU 0 M) (fun j1 => pv_lp2 (f_X1_approve_L5 M j1 o) pv_FU 0 0))
set_option maxHeartbeats 4000000 in
set_option maxRecDepth 100000 in
theorem k_X1_approve (l : Launch) (κ : pv_K) (o : Nat) (r1 : Nat) (a2 : Int32) (M : pv_M) : pv_Mt l yX1_approve cX1_approve 6 none 0 κ [.ref (κ.1 + o), .ref (κ.1 + r1), .int a2] M pv_ju (f_X1_approve o r1 a2 M) := by
  refine pv_enter (by decide +kernel) (Nat.le_of_ble_eq_true rfl) (fun g hl hR C => ?_)
  have C : pv_Ok g κ 6 cX1_approve RX1 none := C
  show pv_R g κ pv_T pv_RF 6 0 0 (pv_QF g κ pv_ju) 0 [(0, .ref (κ.1 + o)), (1, .ref (κ.1 + r1)), (2, .int a2)] [] M (f_X1_approve o r1 a2 M)
  unfold f_X1_approve
  refine rw_ck (fun hc0 => ?_)
  refine rw_iconst (c := 0) C dX1_approve_0 ci_0 ?_
  refine rw_istore_n (lv' := [(3, .int 0), (0, .ref (κ.1 + o)), (1, .ref (κ.1 + r1)), (2, .int a2)]) C dX1_approve_1 rfl (by decide) rfl ?_
  refine rw_iconst (c := 0) C dX1_approve_2 ci_0 ?_
  refine rw_istore (lv' := [(4, .int 0), (3, .int 0), (0, .ref (κ.1 + o)), (1, .ref (κ.1 + r1)), (2, .int a2)]) C dX1_approve_3 (by decide) rfl ?_
  refine rw_jn (fun j1 => ∀ (x1 : Int32), pv_R g κ pv_T pv_RF 6 0 0 (pv_QF g κ pv_ju) 33 [(0, .ref (κ.1 + o)), (1, .ref (κ.1 + r1)), (2, .int a2), (3, .int x1)] [] M (j1 x1)) (fun x1 => ?_) (fun j1 hj1 => ?_)
  · refine rw_iconst (c := 0) C dX1_approve_33 ci_0 ?_
    refine rw_istore (lv' := [(4, .int 0), (0, .ref (κ.1 + o)), (1, .ref (κ.1 + r1)), (2, .int a2), (3, .int x1)]) C dX1_approve_34 (by decide) rfl ?_
    refine rw_lv (lv' := [(0, .ref (κ.1 + o)), (1, .ref (κ.1 + r1)), (2, .int a2), (3, .int x1), (4, .int 0)]) [1, 2, 3, 4, 0] rfl ?_
    refine pv_lp2_ind (fun x2 M1 xx => pv_R g κ pv_T pv_RF 6 0 0 (pv_QF g κ pv_ju) 36 [(0, .ref (κ.1 + o)), (1, .ref (κ.1 + r1)), (2, .int a2), (3, .int x1), (4, .int x2)] [] M1 xx) (fun _ _ => rw_none) (fun rec1 hrec1 x2 M1 => ?_) _ _ _
    unfold f_X1_approve_L36
    refine rw_iload C dX1_approve_36 4 rfl ?_
    refine rw_aload_n C dX1_approve_38 rfl 0 rfl ?_
    refine rw_getR (k0 := o) (k1 := 39) C dX1_approve_39 fl_X1_26 rfl (pv_isP_lt hc0) (pv_isP_sh hc0) (by decide) (pv_isP_r0 hc0) ?_
    refine rw_getI (k0 := 39) C dX1_approve_42 fl_X1_40 rfl (by decide) sh_39 (by decide) (fun x3 => ?_)
    refine rw_icmp_ge (tgt := 122) C dX1_approve_45 (by decide) ?_ ?_
    · exact rw_vret C dX1_approve_122
    · refine rw_iload_n C dX1_approve_48 rfl 2 rfl ?_
      refine rw_iconst (c := (-1)) C dX1_approve_49 ci_m1 ?_
      refine rw_jn (fun j2 => ∀ (x4 : Int32), pv_R g κ pv_T pv_RF 6 0 0 (pv_QF g κ pv_ju) 101 [(0, .ref (κ.1 + o)), (1, .ref (κ.1 + r1)), (2, .int a2), (3, .int x1), (4, .int x2)] [.int x4] M1 (j2 x4)) (fun x4 => ?_) (fun j2 hj2 => ?_)
      · refine rw_istore (lv' := [(5, .int x4), (0, .ref (κ.1 + o)), (1, .ref (κ.1 + r1)), (2, .int a2), (3, .int x1), (4, .int x2)]) C dX1_approve_101 (by decide) rfl ?_
        refine rw_iload C dX1_approve_103 0 rfl ?_
        refine rw_if_eq (tgt := 116) C dX1_approve_105 (by decide) ?_ ?_
        · refine rw_iinc (c := 1) (lv' := [(4, .int (x2 + 1)), (5, .int x4), (0, .ref (κ.1 + o)), (1, .ref (κ.1 + r1)), (2, .int a2), (3, .int x1)]) C dX1_approve_116 5 rfl (by decide) (by decide) rfl ?_
          refine rw_goto (tgt := 36) C dX1_approve_119 (by decide) ?_
          exact rw_lv [2, 3, 4, 5, 0] rfl (hrec1 (x2 + 1) M1)
        · refine rw_aload_n C dX1_approve_108 rfl 2 rfl ?_
          refine rw_iload C dX1_approve_109 5 rfl ?_
          refine rw_dup2 C dX1_approve_111 rfl rfl ?_
          refine rw_ldI C dX1_approve_112 (fun x5 => ?_)
          refine rw_iconst (c := 1) C dX1_approve_113 ci_1 ?_
          refine rw_iadd C dX1_approve_114 ?_
          refine rw_stI C dX1_approve_115 (fun M2 => ?_)
          refine rw_iinc (c := 1) (lv' := [(4, .int (x2 + 1)), (5, .int x4), (0, .ref (κ.1 + o)), (1, .ref (κ.1 + r1)), (2, .int a2), (3, .int x1)]) C dX1_approve_116 5 rfl (by decide) (by decide) rfl ?_
          refine rw_goto (tgt := 36) C dX1_approve_119 (by decide) ?_
          exact rw_lv [2, 3, 4, 5, 0] rfl (hrec1 (x2 + 1) M2)
      · refine rw_icmp_ne (tgt := 80) C dX1_approve_50 (by decide) ?_ ?_
        · refine rw_aload_n C dX1_approve_80 rfl 0 rfl ?_
          refine rw_getR (k0 := o) (k1 := (o + 34)) C dX1_approve_81 fl_X1_22 rfl (pv_isP_lt hc0) (pv_isP_sh hc0) (by decide) (pv_isP_r5 hc0) ?_
          refine rw_iload C dX1_approve_84 4 rfl ?_
          refine rw_ldI C dX1_approve_86 (fun x6 => ?_)
          refine rw_aload_n C dX1_approve_87 rfl 0 rfl ?_
          refine rw_getR (k0 := o) (k1 := (o + 34)) C dX1_approve_88 fl_X1_22 rfl (pv_isP_lt hc0) (pv_isP_sh hc0) (by decide) (pv_isP_r5 hc0) ?_
          refine rw_iload_n C dX1_approve_91 rfl 2 rfl ?_
          refine rw_ldI C dX1_approve_92 (fun x7 => ?_)
          refine rw_icmp_lt (tgt := 100) C dX1_approve_93 (by decide) ?_ ?_
          · refine rw_iconst (c := 0) C dX1_approve_100 ci_0 ?_
            exact hj2 0
          · refine rw_iconst (c := 1) C dX1_approve_96 ci_1 ?_
            refine rw_goto (tgt := 101) C dX1_approve_97 (by decide) ?_
            exact hj2 1
        · refine rw_aload_n C dX1_approve_53 rfl 0 rfl ?_
          refine rw_getR (k0 := o) (k1 := (o + 34)) C dX1_approve_54 fl_X1_22 rfl (pv_isP_lt hc0) (pv_isP_sh hc0) (by decide) (pv_isP_r5 hc0) ?_
          refine rw_iload C dX1_approve_57 4 rfl ?_
          refine rw_ldI C dX1_approve_59 (fun x8 => ?_)
          refine rw_aload_n C dX1_approve_60 rfl 0 rfl ?_
          refine rw_getR (k0 := o) (k1 := 39) C dX1_approve_61 fl_X1_26 rfl (pv_isP_lt hc0) (pv_isP_sh hc0) (by decide) (pv_isP_r0 hc0) ?_
          refine rw_getI (k0 := 39) C dX1_approve_64 fl_X1_40 rfl (by decide) sh_39 (by decide) (fun x9 => ?_)
          refine rw_imul C dX1_approve_67 ?_
          refine rw_iload_n C dX1_approve_68 rfl 3 rfl ?_
          refine rw_icmp_lt (tgt := 76) C dX1_approve_69 (by decide) ?_ ?_
          · refine rw_iconst (c := 0) C dX1_approve_76 ci_0 ?_
            refine rw_goto (tgt := 101) C dX1_approve_77 (by decide) ?_
            exact hj2 0
          · refine rw_iconst (c := 1) C dX1_approve_72 ci_1 ?_
            refine rw_goto (tgt := 101) C dX1_approve_73 (by decide) ?_
            exact hj2 1
  · refine rw_lv (lv' := [(0, .ref (κ.1 + o)), (1, .ref (κ.1 + r1)), (2, .int a2), (3, .int 0), (4, .int 0)]) [2, 3, 4, 1, 0] rfl ?_
    refine pv_lp2_ind (fun x10 x11 xx => pv_R g κ pv_T pv_RF 6 0 0 (pv_QF g κ pv_ju) 5 [(0, .ref (κ.1 + o)), (1, .ref (κ.1 + r1)), (2, .int a2), (3, .int x10), (4, .int x11)] [] M xx) (fun _ _ => rw_none) (fun rec2 hrec2 x10 x11 => ?_) _ _ _
    unfold f_X1_approve_L5
    refine rw_iload C dX1_approve_5 4 rfl ?_
    refine rw_aload_n C dX1_approve_7 rfl 0 rfl ?_
    refine rw_getR (k0 := o) (k1 := 39) C dX1_approve_8 fl_X1_26 rfl (pv_isP_lt hc0) (pv_isP_sh hc0) (by decide) (pv_isP_r0 hc0) ?_
    refine rw_getI (k0 := 39) C dX1_approve_11 fl_X1_40 rfl (by decide) sh_39 (by decide) (fun x12 => ?_)
    refine rw_icmp_ge (tgt := 33) C dX1_approve_14 (by decide) ?_ ?_
    · exact rw_lv [0, 1, 2, 3] rfl (hj1 x10)
    · refine rw_iload_n C dX1_approve_17 rfl 3 rfl ?_
      refine rw_aload_n C dX1_approve_18 rfl 0 rfl ?_
      refine rw_getR (k0 := o) (k1 := (o + 34)) C dX1_approve_19 fl_X1_22 rfl (pv_isP_lt hc0) (pv_isP_sh hc0) (by decide) (pv_isP_r5 hc0) ?_
      refine rw_iload C dX1_approve_22 4 rfl ?_
      refine rw_ldI C dX1_approve_24 (fun x13 => ?_)
      refine rw_iadd C dX1_approve_25 ?_
      refine rw_nm (fun x14 => ?_)
      refine rw_istore_n (lv' := [(3, .int x14), (0, .ref (κ.1 + o)), (1, .ref (κ.1 + r1)), (2, .int a2), (4, .int x11)]) C dX1_approve_26 rfl (by decide) rfl ?_
      refine rw_iinc (c := 1) (lv' := [(4, .int (x11 + 1)), (3, .int x14), (0, .ref (κ.1 + o)), (1, .ref (κ.1 + r1)), (2, .int a2)]) C dX1_approve_27 4 rfl (by decide) (by decide) rfl ?_
      refine rw_goto (tgt := 5) C dX1_approve_30 (by decide) ?_
      exact rw_lv [2, 3, 4, 1, 0] rfl (hrec2 x14 (x11 + 1))
def f_X1_hold_J95 (x6 : Int32) (a1 : Int32) (o : Nat) (M5 : pv_M) (k1 : Nat) (x1 : Int32) (rec1 : Int32 → pv_M → Option (Unit × pv_M)) (x2 : Int32) : Option (Unit × pv_M) := pv_cal (f_X2_fillGains x6 a1 (o + 34) M5) (fun u1 M6 => pv_nm (M6.1 o 1) (fun x9 => (if x9 = 2 then pv_cal (f_X1_approve o k1 x1 M6) (fun u2 M8 => rec1 (x6 + 1) M8) else pv_nm (M6.1 39 0) (fun x10 => pv_cap (f_X8_greatest (o + 34) 0 x10 x1 M6) (fun x11 => pv_nm (x2 + x11) (fun x12 => pv_ldI pv_T k1 x12 M6 (fun x13 => pv_stI pv_T k1 x12 (x13 + 1) M6 (fun M7 => rec1 (x6 + 1) M7))))))))
def f_X1_hold_L59 (j3 : pv_M → Option (Unit × pv_M)) (o : Nat) (a1 : Int32) (k1 : Nat) (x1 : Int32) (x2 : Int32) (a2 : Int32) (rec1 : Int32 → pv_M → Option (Unit × pv_M)) (x6 : Int32) (M5 : pv_M) : Option (Unit × pv_M) := pv_nm (M5.1 39 1) (fun x7 => (if x7 ≤ x6 then j3 M5 else pv_nm (M5.1 o 1) (fun x8 => pv_jn (f_X1_hold_J95 x6 a1 o M5 k1 x1 rec1 x2) (fun j4 => (if x8 = 1 then pv_cap (f_X2_unitOf x6 M5) (fun x14 => (if x14 = a2 then j4 else rec1 (x6 + 1) M5)) else j4)))))
def f_X1_hold_L35 (j2 : pv_M → Option (Unit × pv_M)) (k1 : Nat) (x2 : Int32) (rec2 : Int32 → pv_M → Option (Unit × pv_M)) (x15 : Int32) (M9 : pv_M) : Option (Unit × pv_M) := (if 4 ≤ x15 then j2 M9 else pv_stI pv_T k1 (x2 + x15) 0 M9 (fun M10 => rec2 (x15 + 1) M10))
def f_X1_hold_J56 (k1 : Nat) (x2 : Int32) (x1 : Int32) (o : Nat) (a1 : Int32) (a2 : Int32) (M1 : pv_M) : Option (Unit × pv_M) := pv_jn (fun (M2 : pv_M) => pv_nm (M2.1 39 0) (fun x3 => pv_cap (f_X8_greatest k1 x2 x3 x1 M2) (fun x4 => pv_ldR pv_T (o + 1) a1 (fun k2 => pv_stI pv_T k2 a2 x4 M2 (fun M3 => pv_ldR pv_T (o + 12) a1 (fun k3 => pv_cap (f_X2_figure a1 x4 a2 M3) (fun x5 => pv_stI pv_T k3 a2 x5 M3 (fun M4 => some ((), M4))))))))) (fun j3 => pv_lp2 (f_X1_hold_L59 j3 o a1 k1 x1 x2 a2) pv_FU 0 M1)
def f_X1_hold (o : Nat) (a1 : Int32) (a2 : Int32) (M : pv_M) : Option (Unit × pv_M) := pv_ck (pv_isP o) (pv_jn (fun (x1 : Int32) => pv_ldR pv_T (o + 23) a1 (fun k1 => pv_nm (a2 * 4) (fun x2 => pv_jn (f_X1_hold_J56 k1 x2 x1 o a1 a2) (fun j2 => pv_lp2 (f_X1_hold_L35 j2 k1 x2) pv_FU 0 M)))) (fun j1 => (if a1 = 0 then j1 ((-1)) else pv_ldR pv_T (o + 1) (a1 - 1) (fun k4 => pv_ldI pv_T k4 a2 M (fun x16 => j1 x16)))))
set_option maxHeartbeats 4000000 in
set_option maxRecDepth 100000 in
theorem k_X1_hold (l : Launch) (κ : pv_K) (o : Nat) (a1 : Int32) (a2 : Int32) (M : pv_M) : pv_Mt l yX1_hold cX1_hold 7 none 2 κ [.ref (κ.1 + o), .int a1, .int a2] M pv_ju (f_X1_hold o a1 a2 M) := by
  refine pv_enter (by decide +kernel) (Nat.le_of_ble_eq_true rfl) (fun g hl hR C => ?_)
  have C : pv_Ok g κ 7 cX1_hold RX1 none := C
  show pv_R g κ pv_T pv_RF 7 0 0 (pv_QF g κ pv_ju) 0 [(0, .ref (κ.1 + o)), (1, .int a1), (2, .int a2)] [] M (f_X1_hold o a1 a2 M)
  unfold f_X1_hold
  refine rw_ck (fun hc0 => ?_)
  refine rw_iload_n C dX1_hold_0 rfl 1 rfl ?_
  refine rw_jn (fun j1 => ∀ (x1 : Int32), pv_R g κ pv_T pv_RF 7 0 0 (pv_QF g κ pv_ju) 18 [(0, .ref (κ.1 + o)), (1, .int a1), (2, .int a2)] [.int x1] M (j1 x1)) (fun x1 => ?_) (fun j1 hj1 => ?_)
  · refine rw_istore_n (lv' := [(3, .int x1), (0, .ref (κ.1 + o)), (1, .int a1), (2, .int a2)]) C dX1_hold_18 rfl (by decide) rfl ?_
    refine rw_aload_n C dX1_hold_19 rfl 1 rfl ?_
    refine rw_getR (k0 := o) (k1 := (o + 23)) C dX1_hold_20 fl_X1_19 rfl (pv_isP_lt hc0) (pv_isP_sh hc0) (by decide) (pv_isP_r4 hc0) ?_
    refine rw_iload_n C dX1_hold_23 rfl 2 rfl ?_
    refine rw_ldR C dX1_hold_24 (fun k1 => ?_)
    refine rw_astore (lv' := [(4, .ref (κ.1 + k1)), (3, .int x1), (0, .ref (κ.1 + o)), (1, .int a1), (2, .int a2)]) C dX1_hold_25 (by decide) rfl ?_
    refine rw_iload_n C dX1_hold_27 rfl 4 rfl ?_
    refine rw_iconst (c := 4) C dX1_hold_28 ci_4 ?_
    refine rw_imul C dX1_hold_29 ?_
    refine rw_nm (fun x2 => ?_)
    refine rw_istore (lv' := [(5, .int x2), (4, .ref (κ.1 + k1)), (3, .int x1), (0, .ref (κ.1 + o)), (1, .int a1), (2, .int a2)]) C dX1_hold_30 (by decide) rfl ?_
    refine rw_iconst (c := 0) C dX1_hold_32 ci_0 ?_
    refine rw_istore (lv' := [(6, .int 0), (5, .int x2), (4, .ref (κ.1 + k1)), (3, .int x1), (0, .ref (κ.1 + o)), (1, .int a1), (2, .int a2)]) C dX1_hold_33 (by decide) rfl ?_
    refine rw_jn (fun j2 => ∀ (M1 : pv_M), pv_R g κ pv_T pv_RF 7 0 0 (pv_QF g κ pv_ju) 56 [(0, .ref (κ.1 + o)), (1, .int a1), (2, .int a2), (3, .int x1), (4, .ref (κ.1 + k1)), (5, .int x2)] [] M1 (j2 M1)) (fun M1 => ?_) (fun j2 hj2 => ?_)
    · unfold f_X1_hold_J56
      refine rw_iconst (c := 0) C dX1_hold_56 ci_0 ?_
      refine rw_istore (lv' := [(6, .int 0), (0, .ref (κ.1 + o)), (1, .int a1), (2, .int a2), (3, .int x1), (4, .ref (κ.1 + k1)), (5, .int x2)]) C dX1_hold_57 (by decide) rfl ?_
      refine rw_jn (fun j3 => ∀ (M2 : pv_M), pv_R g κ pv_T pv_RF 7 0 0 (pv_QF g κ pv_ju) 159 [(0, .ref (κ.1 + o)), (1, .int a1), (2, .int a2), (3, .int x1), (4, .ref (κ.1 + k1)), (5, .int x2)] [] M2 (j3 M2)) (fun M2 => ?_) (fun j3 hj3 => ?_)
      · refine rw_aload C dX1_hold_159 4 rfl ?_
        refine rw_iload C dX1_hold_161 5 rfl ?_
        refine rw_aload_n C dX1_hold_163 rfl 0 rfl ?_
        refine rw_getR (k0 := o) (k1 := 39) C dX1_hold_164 fl_X1_26 rfl (pv_isP_lt hc0) (pv_isP_sh hc0) (by decide) (pv_isP_r0 hc0) ?_
        refine rw_getI (k0 := 39) C dX1_hold_167 fl_X1_40 rfl (by decide) sh_39 (by decide) (fun x3 => ?_)
        refine rw_iload_n C dX1_hold_170 rfl 3 rfl ?_
        refine rw_callNPi (As := [.ref (κ.1 + k1), .int x2, .int x3, .int x1]) C hR dX1_hold_171 cn_X1_68 (k_X8_greatest g.2.1 κ k1 x2 x3 x1 M2) (by decide) (by decide) rfl (Nat.le_of_ble_eq_true rfl) rfl (fun x4 => ?_)
        refine rw_istore (lv' := [(6, .int x4), (0, .ref (κ.1 + o)), (1, .int a1), (2, .int a2), (3, .int x1), (4, .ref (κ.1 + k1)), (5, .int x2)]) C dX1_hold_174 (by decide) rfl ?_
        refine rw_aload_n C dX1_hold_176 rfl 1 rfl ?_
        refine rw_getR (k0 := o) (k1 := (o + 1)) C dX1_hold_177 fl_X1_11 rfl (pv_isP_lt hc0) (pv_isP_sh hc0) (by decide) (pv_isP_r2 hc0) ?_
        refine rw_iload_n C dX1_hold_180 rfl 2 rfl ?_
        refine rw_ldR C dX1_hold_181 (fun k2 => ?_)
        refine rw_iload_n C dX1_hold_182 rfl 3 rfl ?_
        refine rw_iload C dX1_hold_183 0 rfl ?_
        refine rw_stI C dX1_hold_185 (fun M3 => ?_)
        refine rw_aload_n C dX1_hold_186 rfl 1 rfl ?_
        refine rw_getR (k0 := o) (k1 := (o + 12)) C dX1_hold_187 fl_X1_16 rfl (pv_isP_lt hc0) (pv_isP_sh hc0) (by decide) (pv_isP_r3 hc0) ?_
        refine rw_iload_n C dX1_hold_190 rfl 2 rfl ?_
        refine rw_ldR C dX1_hold_191 (fun k3 => ?_)
        refine rw_iload_n C dX1_hold_192 rfl 3 rfl ?_
        refine rw_aload_n C dX1_hold_193 rfl 1 rfl ?_
        refine rw_getR (k0 := o) (k1 := 39) C dX1_hold_194 fl_X1_26 rfl (pv_isP_lt hc0) (pv_isP_sh hc0) (by decide) (pv_isP_r0 hc0) ?_
        refine rw_iload_n C dX1_hold_197 rfl 2 rfl ?_
        refine rw_iload C dX1_hold_198 0 rfl ?_
        refine rw_iload_n C dX1_hold_200 rfl 3 rfl ?_
        refine rw_callVPi (As := [.int a1, .int x4, .int a2]) (k0 := 39) C hR dX1_hold_201 cv_X1_72 (k_X2_figure g.2.1 κ a1 x4 a2 M3) (by decide) (by decide) (by decide) sh_39 rfl rfl (Nat.le_of_ble_eq_true rfl) rfl (fun x5 => ?_)
        refine rw_stI C dX1_hold_204 (fun M4 => ?_)
        exact rw_vret C dX1_hold_205
      · refine rw_lv (lv' := [(0, .ref (κ.1 + o)), (1, .int a1), (2, .int a2), (3, .int x1), (4, .ref (κ.1 + k1)), (5, .int x2), (6, .int 0)]) [1, 2, 3, 4, 5, 6, 0] rfl ?_
        refine pv_lp2_ind (fun x6 M5 xx => pv_R g κ pv_T pv_RF 7 0 0 (pv_QF g κ pv_ju) 59 [(0, .ref (κ.1 + o)), (1, .int a1), (2, .int a2), (3, .int x1), (4, .ref (κ.1 + k1)), (5, .int x2), (6, .int x6)] [] M5 xx) (fun _ _ => rw_none) (fun rec1 hrec1 x6 M5 => ?_) _ _ _
        unfold f_X1_hold_L59
        refine rw_iload C dX1_hold_59 6 rfl ?_
        refine rw_aload_n C dX1_hold_61 rfl 0 rfl ?_
        refine rw_getR (k0 := o) (k1 := 39) C dX1_hold_62 fl_X1_26 rfl (pv_isP_lt hc0) (pv_isP_sh hc0) (by decide) (pv_isP_r0 hc0) ?_
        refine rw_getI (k0 := 39) C dX1_hold_65 fl_X1_53 rfl (by decide) sh_39 (by decide) (fun x7 => ?_)
        refine rw_icmp_ge (tgt := 159) C dX1_hold_68 (by decide) ?_ ?_
        · exact rw_lv [0, 1, 2, 3, 4, 5] rfl (hj3 M5)
        · refine rw_aload_n C dX1_hold_71 rfl 0 rfl ?_
          refine rw_getI (k0 := o) C dX1_hold_72 fl_X1_30 rfl (pv_isP_lt hc0) (pv_isP_sh hc0) (by decide) (fun x8 => ?_)
          refine rw_iconst (c := 1) C dX1_hold_75 ci_1 ?_
          refine rw_jn (fun j4 => pv_R g κ pv_T pv_RF 7 0 0 (pv_QF g κ pv_ju) 95 [(0, .ref (κ.1 + o)), (1, .int a1), (2, .int a2), (3, .int x1), (4, .ref (κ.1 + k1)), (5, .int x2), (6, .int x6)] [] M5 (j4)) (?_) (fun j4 hj4 => ?_)
          · unfold f_X1_hold_J95
            refine rw_aload_n C dX1_hold_95 rfl 0 rfl ?_
            refine rw_getR (k0 := o) (k1 := 39) C dX1_hold_96 fl_X1_26 rfl (pv_isP_lt hc0) (pv_isP_sh hc0) (by decide) (pv_isP_r0 hc0) ?_
            refine rw_iload C dX1_hold_99 6 rfl ?_
            refine rw_iload_n C dX1_hold_101 rfl 1 rfl ?_
            refine rw_aload_n C dX1_hold_102 rfl 0 rfl ?_
            refine rw_getR (k0 := o) (k1 := (o + 34)) C dX1_hold_103 fl_X1_22 rfl (pv_isP_lt hc0) (pv_isP_sh hc0) (by decide) (pv_isP_r5 hc0) ?_
            refine rw_callVu (As := [.int x6, .int a1, .ref (κ.1 + (o + 34))]) (k0 := 39) C hR dX1_hold_106 cv_X1_60 (k_X2_fillGains g.2.1 κ x6 a1 (o + 34) M5) (by decide) (by decide) (by decide) sh_39 rfl rfl (Nat.le_of_ble_eq_true rfl) rfl (fun u1 M6 => ?_)
            refine rw_aload_n C dX1_hold_109 rfl 0 rfl ?_
            refine rw_getI (k0 := o) C dX1_hold_110 fl_X1_30 rfl (pv_isP_lt hc0) (pv_isP_sh hc0) (by decide) (fun x9 => ?_)
            refine rw_iconst (c := 2) C dX1_hold_113 ci_2 ?_
            refine rw_icmp_ne (tgt := 127) C dX1_hold_114 (by decide) ?_ ?_
            · refine rw_aload C dX1_hold_127 4 rfl ?_
              refine rw_iload C dX1_hold_129 5 rfl ?_
              refine rw_aload_n C dX1_hold_131 rfl 0 rfl ?_
              refine rw_getR (k0 := o) (k1 := (o + 34)) C dX1_hold_132 fl_X1_22 rfl (pv_isP_lt hc0) (pv_isP_sh hc0) (by decide) (pv_isP_r5 hc0) ?_
              refine rw_iconst (c := 0) C dX1_hold_135 ci_0 ?_
              refine rw_aload_n C dX1_hold_136 rfl 0 rfl ?_
              refine rw_getR (k0 := o) (k1 := 39) C dX1_hold_137 fl_X1_26 rfl (pv_isP_lt hc0) (pv_isP_sh hc0) (by decide) (pv_isP_r0 hc0) ?_
              refine rw_getI (k0 := 39) C dX1_hold_140 fl_X1_40 rfl (by decide) sh_39 (by decide) (fun x10 => ?_)
              refine rw_iload_n C dX1_hold_143 rfl 3 rfl ?_
              refine rw_callNPi (As := [.ref (κ.1 + (o + 34)), .int 0, .int x10, .int x1]) C hR dX1_hold_144 cn_X1_68 (k_X8_greatest g.2.1 κ (o + 34) 0 x10 x1 M6) (by decide) (by decide) rfl (Nat.le_of_ble_eq_true rfl) rfl (fun x11 => ?_)
              refine rw_iadd C dX1_hold_147 ?_
              refine rw_nm (fun x12 => ?_)
              refine rw_dup2 C dX1_hold_148 rfl rfl ?_
              refine rw_ldI C dX1_hold_149 (fun x13 => ?_)
              refine rw_iconst (c := 1) C dX1_hold_150 ci_1 ?_
              refine rw_iadd C dX1_hold_151 ?_
              refine rw_stI C dX1_hold_152 (fun M7 => ?_)
              refine rw_iinc (c := 1) (lv' := [(6, .int (x6 + 1)), (0, .ref (κ.1 + o)), (1, .int a1), (2, .int a2), (3, .int x1), (4, .ref (κ.1 + k1)), (5, .int x2)]) C dX1_hold_153 6 rfl (by decide) (by decide) rfl ?_
              refine rw_goto (tgt := 59) C dX1_hold_156 (by decide) ?_
              exact rw_lv [1, 2, 3, 4, 5, 6, 0] rfl (hrec1 (x6 + 1) M7)
            · refine rw_aload_n C dX1_hold_117 rfl 0 rfl ?_
              refine rw_aload C dX1_hold_118 4 rfl ?_
              refine rw_iload_n C dX1_hold_120 rfl 3 rfl ?_
              refine rw_callVu (As := [.ref (κ.1 + k1), .int x1]) (k0 := o) C hR dX1_hold_121 cv_X1_64 (k_X1_approve g.2.1 κ o k1 x1 M6) (by decide) (by decide) (pv_isP_lt hc0) (pv_isP_sh hc0) rfl rfl (Nat.le_of_ble_eq_true rfl) rfl (fun u2 M8 => ?_)
              refine rw_goto (tgt := 153) C dX1_hold_124 (by decide) ?_
              refine rw_iinc (c := 1) (lv' := [(6, .int (x6 + 1)), (0, .ref (κ.1 + o)), (1, .int a1), (2, .int a2), (3, .int x1), (4, .ref (κ.1 + k1)), (5, .int x2)]) C dX1_hold_153 6 rfl (by decide) (by decide) rfl ?_
              refine rw_goto (tgt := 59) C dX1_hold_156 (by decide) ?_
              exact rw_lv [1, 2, 3, 4, 5, 6, 0] rfl (hrec1 (x6 + 1) M8)
          · refine rw_icmp_ne (tgt := 95) C dX1_hold_76 (by decide) ?_ ?_
            · exact hj4
            · refine rw_aload_n C dX1_hold_79 rfl 0 rfl ?_
              refine rw_getR (k0 := o) (k1 := 39) C dX1_hold_80 fl_X1_26 rfl (pv_isP_lt hc0) (pv_isP_sh hc0) (by decide) (pv_isP_r0 hc0) ?_
              refine rw_iload C dX1_hold_83 6 rfl ?_
              refine rw_callVPi (As := [.int x6]) (k0 := 39) C hR dX1_hold_85 cv_X1_56 (k_X2_unitOf g.2.1 κ x6 M5) (by decide) (by decide) (by decide) sh_39 rfl rfl (Nat.le_of_ble_eq_true rfl) rfl (fun x14 => ?_)
              refine rw_iload_n C dX1_hold_88 rfl 2 rfl ?_
              refine rw_icmp_eq (tgt := 95) C dX1_hold_89 (by decide) ?_ ?_
              · exact hj4
              · refine rw_goto (tgt := 153) C dX1_hold_92 (by decide) ?_
                refine rw_iinc (c := 1) (lv' := [(6, .int (x6 + 1)), (0, .ref (κ.1 + o)), (1, .int a1), (2, .int a2), (3, .int x1), (4, .ref (κ.1 + k1)), (5, .int x2)]) C dX1_hold_153 6 rfl (by decide) (by decide) rfl ?_
                refine rw_goto (tgt := 59) C dX1_hold_156 (by decide) ?_
                exact rw_lv [1, 2, 3, 4, 5, 6, 0] rfl (hrec1 (x6 + 1) M5)
    · refine rw_lv (lv' := [(0, .ref (κ.1 + o)), (1, .int a1), (2, .int a2), (3, .int x1), (4, .ref (κ.1 + k1)), (5, .int x2), (6, .int 0)]) [4, 5, 6, 3, 2, 1, 0] rfl ?_
      refine pv_lp2_ind (fun x15 M9 xx => pv_R g κ pv_T pv_RF 7 0 0 (pv_QF g κ pv_ju) 35 [(0, .ref (κ.1 + o)), (1, .int a1), (2, .int a2), (3, .int x1), (4, .ref (κ.1 + k1)), (5, .int x2), (6, .int x15)] [] M9 xx) (fun _ _ => rw_none) (fun rec2 hrec2 x15 M9 => ?_) _ _ _
      unfold f_X1_hold_L35
      refine rw_iload C dX1_hold_35 6 rfl ?_
      refine rw_iconst (c := 4) C dX1_hold_37 ci_4 ?_
      refine rw_icmp_ge (tgt := 56) C dX1_hold_38 (by decide) ?_ ?_
      · exact rw_lv [0, 1, 2, 3, 4, 5] rfl (hj2 M9)
      · refine rw_aload C dX1_hold_41 4 rfl ?_
        refine rw_iload C dX1_hold_43 5 rfl ?_
        refine rw_iload C dX1_hold_45 6 rfl ?_
        refine rw_iadd C dX1_hold_47 ?_
        refine rw_iconst (c := 0) C dX1_hold_48 ci_0 ?_
        refine rw_stI C dX1_hold_49 (fun M10 => ?_)
        refine rw_iinc (c := 1) (lv' := [(6, .int (x15 + 1)), (0, .ref (κ.1 + o)), (1, .int a1), (2, .int a2), (3, .int x1), (4, .ref (κ.1 + k1)), (5, .int x2)]) C dX1_hold_50 6 rfl (by decide) (by decide) rfl ?_
        refine rw_goto (tgt := 35) C dX1_hold_53 (by decide) ?_
        exact rw_lv [1, 2, 3, 4, 5, 6, 0] rfl (hrec2 (x15 + 1) M10)
  · refine rw_if_ne (tgt := 8) C dX1_hold_1 (by decide) ?_ ?_
    · refine rw_aload_n C dX1_hold_8 rfl 0 rfl ?_
      refine rw_getR (k0 := o) (k1 := (o + 1)) C dX1_hold_9 fl_X1_11 rfl (pv_isP_lt hc0) (pv_isP_sh hc0) (by decide) (pv_isP_r2 hc0) ?_
      refine rw_iload_n C dX1_hold_12 rfl 1 rfl ?_
      refine rw_iconst (c := 1) C dX1_hold_13 ci_1 ?_
      refine rw_isub C dX1_hold_14 ?_
      refine rw_ldR C dX1_hold_15 (fun k4 => ?_)
      refine rw_iload_n C dX1_hold_16 rfl 2 rfl ?_
      refine rw_ldI C dX1_hold_17 (fun x16 => ?_)
      exact hj1 x16
    · refine rw_iconst (c := (-1)) C dX1_hold_4 ci_m1 ?_
      refine rw_goto (tgt := 18) C dX1_hold_5 (by decide) ?_
      exact hj1 ((-1))
def f_X1_repeatFirst (o : Nat) (a1 : Int32) (a2 : Int32) (M : pv_M) : Option (Unit × pv_M) := pv_ck (pv_isP o) (pv_ldR pv_T (o + 1) a1 (fun k1 => pv_ldR pv_T (o + 1) a1 (fun k2 => pv_ldI pv_T k2 0 M (fun x1 => pv_stI pv_T k1 a2 x1 M (fun M1 => pv_ldR pv_T (o + 12) a1 (fun k3 => pv_ldR pv_T (o + 1) a1 (fun k4 => pv_ldI pv_T k4 0 M1 (fun x2 => pv_cap (f_X2_figure a1 x2 a2 M1) (fun x3 => pv_stI pv_T k3 a2 x3 M1 (fun M2 => pv_ldR pv_T (o + 23) a1 (fun k5 => pv_ldR pv_T (o + 23) a1 (fun k6 => pv_ck (pv_cpyb pv_T k5 0 k6 (a2 * 4) 4) (pv_nm (pv_cpy M2 k5 0 k6 (a2 * 4) 4) (fun M3 => some ((), M3)))))))))))))))
set_option maxHeartbeats 4000000 in
set_option maxRecDepth 100000 in
theorem k_X1_repeatFirst (l : Launch) (κ : pv_K) (o : Nat) (a1 : Int32) (a2 : Int32) (M : pv_M) : pv_Mt l yX1_repeatFirst cX1_repeatFirst 3 none 1 κ [.ref (κ.1 + o), .int a1, .int a2] M pv_ju (f_X1_repeatFirst o a1 a2 M) := by
  refine pv_enter (by decide +kernel) (Nat.le_of_ble_eq_true rfl) (fun g hl hR C => ?_)
  have C : pv_Ok g κ 3 cX1_repeatFirst RX1 none := C
  show pv_R g κ pv_T pv_RF 3 0 0 (pv_QF g κ pv_ju) 0 [(0, .ref (κ.1 + o)), (1, .int a1), (2, .int a2)] [] M (f_X1_repeatFirst o a1 a2 M)
  unfold f_X1_repeatFirst
  refine rw_ck (fun hc0 => ?_)
  refine rw_aload_n C dX1_repeatFirst_0 rfl 0 rfl ?_
  refine rw_getR (k0 := o) (k1 := (o + 1)) C dX1_repeatFirst_1 fl_X1_11 rfl (pv_isP_lt hc0) (pv_isP_sh hc0) (by decide) (pv_isP_r2 hc0) ?_
  refine rw_iload_n C dX1_repeatFirst_4 rfl 1 rfl ?_
  refine rw_ldR C dX1_repeatFirst_5 (fun k1 => ?_)
  refine rw_iload_n C dX1_repeatFirst_6 rfl 2 rfl ?_
  refine rw_aload_n C dX1_repeatFirst_7 rfl 0 rfl ?_
  refine rw_getR (k0 := o) (k1 := (o + 1)) C dX1_repeatFirst_8 fl_X1_11 rfl (pv_isP_lt hc0) (pv_isP_sh hc0) (by decide) (pv_isP_r2 hc0) ?_
  refine rw_iload_n C dX1_repeatFirst_11 rfl 1 rfl ?_
  refine rw_ldR C dX1_repeatFirst_12 (fun k2 => ?_)
  refine rw_iconst (c := 0) C dX1_repeatFirst_13 ci_0 ?_
  refine rw_ldI C dX1_repeatFirst_14 (fun x1 => ?_)
  refine rw_stI C dX1_repeatFirst_15 (fun M1 => ?_)
  refine rw_aload_n C dX1_repeatFirst_16 rfl 0 rfl ?_
  refine rw_getR (k0 := o) (k1 := (o + 12)) C dX1_repeatFirst_17 fl_X1_16 rfl (pv_isP_lt hc0) (pv_isP_sh hc0) (by decide) (pv_isP_r3 hc0) ?_
  refine rw_iload_n C dX1_repeatFirst_20 rfl 1 rfl ?_
  refine rw_ldR C dX1_repeatFirst_21 (fun k3 => ?_)
  refine rw_iload_n C dX1_repeatFirst_22 rfl 2 rfl ?_
  refine rw_aload_n C dX1_repeatFirst_23 rfl 0 rfl ?_
  refine rw_getR (k0 := o) (k1 := 39) C dX1_repeatFirst_24 fl_X1_26 rfl (pv_isP_lt hc0) (pv_isP_sh hc0) (by decide) (pv_isP_r0 hc0) ?_
  refine rw_iload_n C dX1_repeatFirst_27 rfl 1 rfl ?_
  refine rw_aload_n C dX1_repeatFirst_28 rfl 0 rfl ?_
  refine rw_getR (k0 := o) (k1 := (o + 1)) C dX1_repeatFirst_29 fl_X1_11 rfl (pv_isP_lt hc0) (pv_isP_sh hc0) (by decide) (pv_isP_r2 hc0) ?_
  refine rw_iload_n C dX1_repeatFirst_32 rfl 1 rfl ?_
  refine rw_ldR C dX1_repeatFirst_33 (fun k4 => ?_)
  refine rw_iconst (c := 0) C dX1_repeatFirst_34 ci_0 ?_
  refine rw_ldI C dX1_repeatFirst_35 (fun x2 => ?_)
  refine rw_iload_n C dX1_repeatFirst_36 rfl 2 rfl ?_
  refine rw_callVPi (As := [.int a1, .int x2, .int a2]) (k0 := 39) C hR dX1_repeatFirst_37 cv_X1_72 (k_X2_figure g.2.1 κ a1 x2 a2 M1) (by decide) (by decide) (by decide) sh_39 rfl rfl (Nat.le_of_ble_eq_true rfl) rfl (fun x3 => ?_)
  refine rw_stI C dX1_repeatFirst_40 (fun M2 => ?_)
  refine rw_aload_n C dX1_repeatFirst_41 rfl 0 rfl ?_
  refine rw_getR (k0 := o) (k1 := (o + 23)) C dX1_repeatFirst_42 fl_X1_19 rfl (pv_isP_lt hc0) (pv_isP_sh hc0) (by decide) (pv_isP_r4 hc0) ?_
  refine rw_iload_n C dX1_repeatFirst_45 rfl 1 rfl ?_
  refine rw_ldR C dX1_repeatFirst_46 (fun k5 => ?_)
  refine rw_iconst (c := 0) C dX1_repeatFirst_47 ci_0 ?_
  refine rw_aload_n C dX1_repeatFirst_48 rfl 0 rfl ?_
  refine rw_getR (k0 := o) (k1 := (o + 23)) C dX1_repeatFirst_49 fl_X1_19 rfl (pv_isP_lt hc0) (pv_isP_sh hc0) (by decide) (pv_isP_r4 hc0) ?_
  refine rw_iload_n C dX1_repeatFirst_52 rfl 1 rfl ?_
  refine rw_ldR C dX1_repeatFirst_53 (fun k6 => ?_)
  refine rw_iload_n C dX1_repeatFirst_54 rfl 2 rfl ?_
  refine rw_iconst (c := 4) C dX1_repeatFirst_55 ci_4 ?_
  refine rw_imul C dX1_repeatFirst_56 ?_
  refine rw_iconst (c := 4) C dX1_repeatFirst_57 ci_4 ?_
  refine rw_copy C hR dX1_repeatFirst_58 ⟨mw_335, mw_336, mw_337, mw_338⟩ (by decide) (Nat.le_of_ble_eq_true rfl) (fun M3 => ?_)
  exact rw_vret C dX1_repeatFirst_61
def f_X1_update_L36 (rec1 : Int32 → pv_M → Option (Unit × pv_M)) (x4 : Int32) (o : Nat) (rec2 : Int32 → pv_M → Option (Unit × pv_M)) (x5 : Int32) (M3 : pv_M) : Option (Unit × pv_M) := (if 3 ≤ x5 then rec1 (x4 + 1) M3 else pv_nm (M3.1 39 0) (fun x6 => (if x6 = 0 then pv_cal (f_X1_leaveOpen o x4 x5 M3) (fun u3 M6 => rec2 (x5 + 1) M6) else pv_jn (pv_cal (f_X1_hold o x4 x5 M3) (fun u1 M4 => rec2 (x5 + 1) M4)) (fun j1 => (if x5 = 0 then j1 else pv_nm (M3.1 o 1) (fun x7 => (if x7 = 1 then j1 else pv_cal (f_X1_repeatFirst o x4 x5 M3) (fun u2 M5 => rec2 (x5 + 1) M5))))))))
def f_X1_update_L28 (o : Nat) (rec1 : Int32 → pv_M → Option (Unit × pv_M)) (x4 : Int32) (M2 : pv_M) : Option (Unit × pv_M) := (if 10 ≤ x4 then some ((), M2) else pv_lp2 (f_X1_update_L36 rec1 x4 o) pv_FU 0 M2)
def f_X1_update (o : Nat) (M : pv_M) : Option (Unit × pv_M) := pv_ck (pv_isP o) (pv_nm (M.1 o 6) (fun x1 => pv_nm (M.1 39 2) (fun x2 => (if x1 = x2 then some ((), M) else pv_nm (M.1 39 2) (fun x3 => pv_nm (pv_u M.1 o 6 x3, M.2) (fun M1 => pv_lp2 (f_X1_update_L28 o) pv_FU 0 M1))))))
set_option maxHeartbeats 4000000 in
set_option maxRecDepth 100000 in
theorem k_X1_update (l : Launch) (κ : pv_K) (o : Nat) (M : pv_M) : pv_Mt l yX1_update cX1_update 3 none 3 κ [.ref (κ.1 + o)] M pv_ju (f_X1_update o M) := by
  refine pv_enter (by decide +kernel) (Nat.le_of_ble_eq_true rfl) (fun g hl hR C => ?_)
  have C : pv_Ok g κ 3 cX1_update RX1 none := C
  show pv_R g κ pv_T pv_RF 3 0 0 (pv_QF g κ pv_ju) 0 [(0, .ref (κ.1 + o))] [] M (f_X1_update o M)
  unfold f_X1_update
  refine rw_ck (fun hc0 => ?_)
  refine rw_aload_n C dX1_update_0 rfl 0 rfl ?_
  refine rw_getI (k0 := o) C dX1_update_1 fl_X1_34 rfl (pv_isP_lt hc0) (pv_isP_sh hc0) (by decide) (fun x1 => ?_)
  refine rw_aload_n C dX1_update_4 rfl 0 rfl ?_
  refine rw_getR (k0 := o) (k1 := 39) C dX1_update_5 fl_X1_26 rfl (pv_isP_lt hc0) (pv_isP_sh hc0) (by decide) (pv_isP_r0 hc0) ?_
  refine rw_getI (k0 := 39) C dX1_update_8 fl_X1_37 rfl (by decide) sh_39 (by decide) (fun x2 => ?_)
  refine rw_icmp_ne (tgt := 15) C dX1_update_11 (by decide) ?_ ?_
  · refine rw_aload_n C dX1_update_15 rfl 0 rfl ?_
    refine rw_aload_n C dX1_update_16 rfl 0 rfl ?_
    refine rw_getR (k0 := o) (k1 := 39) C dX1_update_17 fl_X1_26 rfl (pv_isP_lt hc0) (pv_isP_sh hc0) (by decide) (pv_isP_r0 hc0) ?_
    refine rw_getI (k0 := 39) C dX1_update_20 fl_X1_37 rfl (by decide) sh_39 (by decide) (fun x3 => ?_)
    refine rw_put (k0 := o) C dX1_update_23 fl_X1_34 ff_X1_6 rfl rfl rfl (pv_isP_lt hc0) (pv_isP_sh hc0) (by decide) (fun M1 => ?_)
    refine rw_iconst (c := 0) C dX1_update_26 ci_0 ?_
    refine rw_istore_n (lv' := [(1, .int 0), (0, .ref (κ.1 + o))]) C dX1_update_27 rfl (by decide) rfl ?_
    refine rw_lv (lv' := [(0, .ref (κ.1 + o)), (1, .int 0)]) [1, 0] rfl ?_
    refine pv_lp2_ind (fun x4 M2 xx => pv_R g κ pv_T pv_RF 3 0 0 (pv_QF g κ pv_ju) 28 [(0, .ref (κ.1 + o)), (1, .int x4)] [] M2 xx) (fun _ _ => rw_none) (fun rec1 hrec1 x4 M2 => ?_) _ _ _
    unfold f_X1_update_L28
    refine rw_iload_n C dX1_update_28 rfl 1 rfl ?_
    refine rw_bipush (c := 10) C dX1_update_29 (by decide) ?_
    refine rw_icmp_ge (tgt := 99) C dX1_update_31 (by decide) ?_ ?_
    · exact rw_vret C dX1_update_99
    · refine rw_iconst (c := 0) C dX1_update_34 ci_0 ?_
      refine rw_istore_n (lv' := [(2, .int 0), (0, .ref (κ.1 + o)), (1, .int x4)]) C dX1_update_35 rfl (by decide) rfl ?_
      refine rw_lv (lv' := [(0, .ref (κ.1 + o)), (1, .int x4), (2, .int 0)]) [1, 2, 0] rfl ?_
      refine pv_lp2_ind (fun x5 M3 xx => pv_R g κ pv_T pv_RF 3 0 0 (pv_QF g κ pv_ju) 36 [(0, .ref (κ.1 + o)), (1, .int x4), (2, .int x5)] [] M3 xx) (fun _ _ => rw_none) (fun rec2 hrec2 x5 M3 => ?_) _ _ _
      unfold f_X1_update_L36
      refine rw_iload_n C dX1_update_36 rfl 2 rfl ?_
      refine rw_iconst (c := 3) C dX1_update_37 ci_3 ?_
      refine rw_icmp_ge (tgt := 93) C dX1_update_38 (by decide) ?_ ?_
      · refine rw_iinc (c := 1) (lv' := [(1, .int (x4 + 1)), (0, .ref (κ.1 + o)), (2, .int x5)]) C dX1_update_93 1 rfl (by decide) (by decide) rfl ?_
        refine rw_goto (tgt := 28) C dX1_update_96 (by decide) ?_
        exact rw_lv [1, 0] rfl (hrec1 (x4 + 1) M3)
      · refine rw_aload_n C dX1_update_41 rfl 0 rfl ?_
        refine rw_getR (k0 := o) (k1 := 39) C dX1_update_42 fl_X1_26 rfl (pv_isP_lt hc0) (pv_isP_sh hc0) (by decide) (pv_isP_r0 hc0) ?_
        refine rw_getI (k0 := 39) C dX1_update_45 fl_X1_40 rfl (by decide) sh_39 (by decide) (fun x6 => ?_)
        refine rw_if_ne (tgt := 60) C dX1_update_48 (by decide) ?_ ?_
        · refine rw_iload_n C dX1_update_60 rfl 2 rfl ?_
          refine rw_jn (fun j1 => pv_R g κ pv_T pv_RF 3 0 0 (pv_QF g κ pv_ju) 72 [(0, .ref (κ.1 + o)), (1, .int x4), (2, .int x5)] [] M3 (j1)) (?_) (fun j1 hj1 => ?_)
          · refine rw_aload_n C dX1_update_72 rfl 0 rfl ?_
            refine rw_iload_n C dX1_update_73 rfl 1 rfl ?_
            refine rw_iload_n C dX1_update_74 rfl 2 rfl ?_
            refine rw_callVu (As := [.int x4, .int x5]) (k0 := o) C hR dX1_update_75 cv_X1_47 (k_X1_hold g.2.1 κ o x4 x5 M3) (by decide) (by decide) (pv_isP_lt hc0) (pv_isP_sh hc0) rfl rfl (Nat.le_of_ble_eq_true rfl) rfl (fun u1 M4 => ?_)
            refine rw_goto (tgt := 87) C dX1_update_78 (by decide) ?_
            refine rw_iinc (c := 1) (lv' := [(2, .int (x5 + 1)), (0, .ref (κ.1 + o)), (1, .int x4)]) C dX1_update_87 2 rfl (by decide) (by decide) rfl ?_
            refine rw_goto (tgt := 36) C dX1_update_90 (by decide) ?_
            exact rw_lv [1, 2, 0] rfl (hrec2 (x5 + 1) M4)
          · refine rw_if_eq (tgt := 72) C dX1_update_61 (by decide) ?_ ?_
            · exact hj1
            · refine rw_aload_n C dX1_update_64 rfl 0 rfl ?_
              refine rw_getI (k0 := o) C dX1_update_65 fl_X1_30 rfl (pv_isP_lt hc0) (pv_isP_sh hc0) (by decide) (fun x7 => ?_)
              refine rw_iconst (c := 1) C dX1_update_68 ci_1 ?_
              refine rw_icmp_ne (tgt := 81) C dX1_update_69 (by decide) ?_ ?_
              · refine rw_aload_n C dX1_update_81 rfl 0 rfl ?_
                refine rw_iload_n C dX1_update_82 rfl 1 rfl ?_
                refine rw_iload_n C dX1_update_83 rfl 2 rfl ?_
                refine rw_callVu (As := [.int x4, .int x5]) (k0 := o) C hR dX1_update_84 cv_X1_50 (k_X1_repeatFirst g.2.1 κ o x4 x5 M3) (by decide) (by decide) (pv_isP_lt hc0) (pv_isP_sh hc0) rfl rfl (Nat.le_of_ble_eq_true rfl) rfl (fun u2 M5 => ?_)
                refine rw_iinc (c := 1) (lv' := [(2, .int (x5 + 1)), (0, .ref (κ.1 + o)), (1, .int x4)]) C dX1_update_87 2 rfl (by decide) (by decide) rfl ?_
                refine rw_goto (tgt := 36) C dX1_update_90 (by decide) ?_
                exact rw_lv [1, 2, 0] rfl (hrec2 (x5 + 1) M5)
              · exact hj1
        · refine rw_aload_n C dX1_update_51 rfl 0 rfl ?_
          refine rw_iload_n C dX1_update_52 rfl 1 rfl ?_
          refine rw_iload_n C dX1_update_53 rfl 2 rfl ?_
          refine rw_callVu (As := [.int x4, .int x5]) (k0 := o) C hR dX1_update_54 cv_X1_43 (k_X1_leaveOpen g.2.1 κ o x4 x5 M3) (by decide) (by decide) (pv_isP_lt hc0) (pv_isP_sh hc0) rfl rfl (Nat.le_of_ble_eq_true rfl) rfl (fun u3 M6 => ?_)
          refine rw_goto (tgt := 87) C dX1_update_57 (by decide) ?_
          refine rw_iinc (c := 1) (lv' := [(2, .int (x5 + 1)), (0, .ref (κ.1 + o)), (1, .int x4)]) C dX1_update_87 2 rfl (by decide) (by decide) rfl ?_
          refine rw_goto (tgt := 36) C dX1_update_90 (by decide) ?_
          exact rw_lv [1, 2, 0] rfl (hrec2 (x5 + 1) M6)
  · exact rw_vret C dX1_update_14
def f_X5_fits (o : Nat) (a1 : Int32) (M : pv_M) : Option Int32 := pv_ck (pv_isT o) (pv_ldI pv_T (o + 1) a1 M (fun x1 => pv_nm (a1 - a1 / 4 * 4) (fun x2 => (if x2 = 3 then (if x1 = 59 then some 1 else some 0) else pv_jn ((if x1 < 49 then some 0 else (if 57 < x1 then some 0 else some 1))) (fun j1 => (if x2 = 2 then j1 else pv_nm (M.1 o 0) (fun x3 => (if x3 = 0 then j1 else pv_nm (M.1 o 0) (fun x4 => (if x4 = 1 then (if x2 = 0 then (if x1 < 97 then some 0 else (if 99 < x1 then some 0 else some 1)) else (if x1 = 43 then some 1 else (if x1 = 45 then some 1 else some 0))) else (if x1 < 97 then some 0 else (if 102 < x1 then some 0 else (if x2 = 0 then some 1 else pv_ldI pv_T (o + 1) (a1 - 1) M (fun x5 => (if x1 = x5 then some 0 else some 1)))))))))))))))
set_option maxHeartbeats 4000000 in
set_option maxRecDepth 100000 in
theorem k_X5_fits (l : Launch) (κ : pv_K) (o : Nat) (a1 : Int32) (M : pv_M) : pv_MtP l yX5_fits cX5_fits 4 (some .boolean) 0 κ [.ref (κ.1 + o), .int a1] M pv_ji (f_X5_fits o a1 M) := by
  refine pv_enterP (by decide +kernel) (Nat.le_of_ble_eq_true rfl) (fun g hl hR C => ?_)
  have C : pv_Ok g κ 4 cX5_fits RX5 (some .boolean) := C
  show pv_R g κ pv_T pv_RF 4 0 0 (pv_QP g κ pv_ji M) 0 [(0, .ref (κ.1 + o)), (1, .int a1)] [] M (f_X5_fits o a1 M)
  unfold f_X5_fits
  refine rw_ck (fun hc0 => ?_)
  refine rw_aload_n C dX5_fits_0 rfl 0 rfl ?_
  refine rw_getR (k0 := o) (k1 := (o + 1)) C dX5_fits_1 fl_X5_15 rfl (pv_isT_lt hc0) (pv_isT_sh hc0) (by decide) (pv_isT_r1 hc0) ?_
  refine rw_iload_n C dX5_fits_4 rfl 1 rfl ?_
  refine rw_ldI C dX5_fits_5 (fun x1 => ?_)
  refine rw_istore_n (lv' := [(2, .int x1), (0, .ref (κ.1 + o)), (1, .int a1)]) C dX5_fits_6 rfl (by decide) rfl ?_
  refine rw_iload_n C dX5_fits_7 rfl 2 rfl ?_
  refine rw_iconst (c := 4) C dX5_fits_8 ci_4 ?_
  refine rw_irem C dX5_fits_9 (by decide) ?_
  refine rw_nm (fun x2 => ?_)
  refine rw_istore_n (lv' := [(3, .int x2), (2, .int x1), (0, .ref (κ.1 + o)), (1, .int a1)]) C dX5_fits_10 rfl (by decide) rfl ?_
  refine rw_iload_n C dX5_fits_11 rfl 0 rfl ?_
  refine rw_iconst (c := 3) C dX5_fits_12 ci_3 ?_
  refine rw_icmp_ne (tgt := 28) C dX5_fits_13 (by decide) ?_ ?_
  · refine rw_iload_n C dX5_fits_28 rfl 0 rfl ?_
    refine rw_iconst (c := 2) C dX5_fits_29 ci_2 ?_
    refine rw_jn (fun j1 => pv_R g κ pv_T pv_RF 4 0 0 (pv_QP g κ pv_ji M) 40 [(2, .int x1)] [] M (j1)) (?_) (fun j1 hj1 => ?_)
    · refine rw_iload_n C dX5_fits_40 rfl 0 rfl ?_
      refine rw_bipush (c := 49) C dX5_fits_41 (by decide) ?_
      refine rw_icmp_lt (tgt := 56) C dX5_fits_43 (by decide) ?_ ?_
      · refine rw_iconst (c := 0) C dX5_fits_56 ci_0 ?_
        exact rw_zretP (Or.inl rfl) C dX5_fits_57
      · refine rw_iload_n C dX5_fits_46 rfl 0 rfl ?_
        refine rw_bipush (c := 57) C dX5_fits_47 (by decide) ?_
        refine rw_icmp_gt (tgt := 56) C dX5_fits_49 (by decide) ?_ ?_
        · refine rw_iconst (c := 0) C dX5_fits_56 ci_0 ?_
          exact rw_zretP (Or.inl rfl) C dX5_fits_57
        · refine rw_iconst (c := 1) C dX5_fits_52 ci_1 ?_
          refine rw_goto (tgt := 57) C dX5_fits_53 (by decide) ?_
          exact rw_zretP (Or.inr rfl) C dX5_fits_57
    · refine rw_icmp_eq (tgt := 40) C dX5_fits_30 (by decide) ?_ ?_
      · exact rw_lv [1] rfl (hj1 )
      · refine rw_aload_n C dX5_fits_33 rfl 2 rfl ?_
        refine rw_getI (k0 := o) C dX5_fits_34 fl_X5_9 rfl (pv_isT_lt hc0) (pv_isT_sh hc0) (by decide) (fun x3 => ?_)
        refine rw_if_ne (tgt := 58) C dX5_fits_37 (by decide) ?_ ?_
        · refine rw_aload_n C dX5_fits_58 rfl 2 rfl ?_
          refine rw_getI (k0 := o) C dX5_fits_59 fl_X5_9 rfl (pv_isT_lt hc0) (pv_isT_sh hc0) (by decide) (fun x4 => ?_)
          refine rw_iconst (c := 1) C dX5_fits_62 ci_1 ?_
          refine rw_icmp_ne (tgt := 108) C dX5_fits_63 (by decide) ?_ ?_
          · refine rw_iload_n C dX5_fits_108 rfl 1 rfl ?_
            refine rw_bipush (c := 97) C dX5_fits_109 (by decide) ?_
            refine rw_icmp_lt (tgt := 140) C dX5_fits_111 (by decide) ?_ ?_
            · refine rw_iconst (c := 0) C dX5_fits_140 ci_0 ?_
              exact rw_zretP (Or.inl rfl) C dX5_fits_141
            · refine rw_iload_n C dX5_fits_114 rfl 1 rfl ?_
              refine rw_bipush (c := 102) C dX5_fits_115 (by decide) ?_
              refine rw_icmp_gt (tgt := 140) C dX5_fits_117 (by decide) ?_ ?_
              · refine rw_iconst (c := 0) C dX5_fits_140 ci_0 ?_
                exact rw_zretP (Or.inl rfl) C dX5_fits_141
              · refine rw_iload_n C dX5_fits_120 rfl 0 rfl ?_
                refine rw_if_eq (tgt := 136) C dX5_fits_121 (by decide) ?_ ?_
                · refine rw_iconst (c := 1) C dX5_fits_136 ci_1 ?_
                  refine rw_goto (tgt := 141) C dX5_fits_137 (by decide) ?_
                  exact rw_zretP (Or.inr rfl) C dX5_fits_141
                · refine rw_iload_n C dX5_fits_124 rfl 1 rfl ?_
                  refine rw_aload_n C dX5_fits_125 rfl 2 rfl ?_
                  refine rw_getR (k0 := o) (k1 := (o + 1)) C dX5_fits_126 fl_X5_15 rfl (pv_isT_lt hc0) (pv_isT_sh hc0) (by decide) (pv_isT_r1 hc0) ?_
                  refine rw_iload_n C dX5_fits_129 rfl 3 rfl ?_
                  refine rw_iconst (c := 1) C dX5_fits_130 ci_1 ?_
                  refine rw_isub C dX5_fits_131 ?_
                  refine rw_ldI C dX5_fits_132 (fun x5 => ?_)
                  refine rw_icmp_eq (tgt := 140) C dX5_fits_133 (by decide) ?_ ?_
                  · refine rw_iconst (c := 0) C dX5_fits_140 ci_0 ?_
                    exact rw_zretP (Or.inl rfl) C dX5_fits_141
                  · refine rw_iconst (c := 1) C dX5_fits_136 ci_1 ?_
                    refine rw_goto (tgt := 141) C dX5_fits_137 (by decide) ?_
                    exact rw_zretP (Or.inr rfl) C dX5_fits_141
          · refine rw_iload_n C dX5_fits_66 rfl 0 rfl ?_
            refine rw_if_ne (tgt := 90) C dX5_fits_67 (by decide) ?_ ?_
            · refine rw_iload_n C dX5_fits_90 rfl 1 rfl ?_
              refine rw_bipush (c := 43) C dX5_fits_91 (by decide) ?_
              refine rw_icmp_eq (tgt := 102) C dX5_fits_93 (by decide) ?_ ?_
              · refine rw_iconst (c := 1) C dX5_fits_102 ci_1 ?_
                refine rw_goto (tgt := 107) C dX5_fits_103 (by decide) ?_
                exact rw_zretP (Or.inr rfl) C dX5_fits_107
              · refine rw_iload_n C dX5_fits_96 rfl 1 rfl ?_
                refine rw_bipush (c := 45) C dX5_fits_97 (by decide) ?_
                refine rw_icmp_ne (tgt := 106) C dX5_fits_99 (by decide) ?_ ?_
                · refine rw_iconst (c := 0) C dX5_fits_106 ci_0 ?_
                  exact rw_zretP (Or.inl rfl) C dX5_fits_107
                · refine rw_iconst (c := 1) C dX5_fits_102 ci_1 ?_
                  refine rw_goto (tgt := 107) C dX5_fits_103 (by decide) ?_
                  exact rw_zretP (Or.inr rfl) C dX5_fits_107
            · refine rw_iload_n C dX5_fits_70 rfl 1 rfl ?_
              refine rw_bipush (c := 97) C dX5_fits_71 (by decide) ?_
              refine rw_icmp_lt (tgt := 86) C dX5_fits_73 (by decide) ?_ ?_
              · refine rw_iconst (c := 0) C dX5_fits_86 ci_0 ?_
                refine rw_goto (tgt := 107) C dX5_fits_87 (by decide) ?_
                exact rw_zretP (Or.inl rfl) C dX5_fits_107
              · refine rw_iload_n C dX5_fits_76 rfl 1 rfl ?_
                refine rw_bipush (c := 99) C dX5_fits_77 (by decide) ?_
                refine rw_icmp_gt (tgt := 86) C dX5_fits_79 (by decide) ?_ ?_
                · refine rw_iconst (c := 0) C dX5_fits_86 ci_0 ?_
                  refine rw_goto (tgt := 107) C dX5_fits_87 (by decide) ?_
                  exact rw_zretP (Or.inl rfl) C dX5_fits_107
                · refine rw_iconst (c := 1) C dX5_fits_82 ci_1 ?_
                  refine rw_goto (tgt := 107) C dX5_fits_83 (by decide) ?_
                  exact rw_zretP (Or.inr rfl) C dX5_fits_107
        · exact rw_lv [1] rfl (hj1 )
  · refine rw_iload_n C dX5_fits_16 rfl 1 rfl ?_
    refine rw_bipush (c := 59) C dX5_fits_17 (by decide) ?_
    refine rw_icmp_ne (tgt := 26) C dX5_fits_19 (by decide) ?_ ?_
    · refine rw_iconst (c := 0) C dX5_fits_26 ci_0 ?_
      exact rw_zretP (Or.inl rfl) C dX5_fits_27
    · refine rw_iconst (c := 1) C dX5_fits_22 ci_1 ?_
      refine rw_goto (tgt := 27) C dX5_fits_23 (by decide) ?_
      exact rw_zretP (Or.inr rfl) C dX5_fits_27
def f_X5_faultPlace_L2 (M : pv_M) (o : Nat) (j1 : Option Int32) (rec1 : Int32 → Option Int32) (x4 : Int32) : Option Int32 := pv_nm (M.1 o 2) (fun x5 => (if x5 ≤ x4 then j1 else pv_cap (f_X5_fits o x4 M) (fun x6 => (if x6 = 0 then some x4 else rec1 (x4 + 1)))))
def f_X5_faultPlace (o : Nat) (M : pv_M) : Option Int32 := pv_ck (pv_isT o) (pv_jn (pv_nm (M.1 o 2) (fun x1 => (if x1 = 0 then some ((-1)) else pv_nm (M.1 o 2) (fun x2 => (if (x2 - x2 / 4 * 4) = 3 then some ((-1)) else pv_nm (M.1 o 2) (fun x3 => some x3)))))) (fun j1 => pv_lp1 (f_X5_faultPlace_L2 M o j1) pv_FU 0))
set_option maxHeartbeats 4000000 in
set_option maxRecDepth 100000 in
theorem k_X5_faultPlace (l : Launch) (κ : pv_K) (o : Nat) (M : pv_M) : pv_MtP l yX5_faultPlace cX5_faultPlace 2 (some .int) 1 κ [.ref (κ.1 + o)] M pv_ji (f_X5_faultPlace o M) := by
  refine pv_enterP (by decide +kernel) (Nat.le_of_ble_eq_true rfl) (fun g hl hR C => ?_)
  have C : pv_Ok g κ 2 cX5_faultPlace RX5 (some .int) := C
  show pv_R g κ pv_T pv_RF 2 0 0 (pv_QP g κ pv_ji M) 0 [(0, .ref (κ.1 + o))] [] M (f_X5_faultPlace o M)
  unfold f_X5_faultPlace
  refine rw_ck (fun hc0 => ?_)
  refine rw_iconst (c := 0) C dX5_faultPlace_0 ci_0 ?_
  refine rw_istore_n (lv' := [(1, .int 0), (0, .ref (κ.1 + o))]) C dX5_faultPlace_1 rfl (by decide) rfl ?_
  refine rw_jn (fun j1 => pv_R g κ pv_T pv_RF 2 0 0 (pv_QP g κ pv_ji M) 26 [(0, .ref (κ.1 + o))] [] M (j1)) (?_) (fun j1 hj1 => ?_)
  · refine rw_aload_n C dX5_faultPlace_26 rfl 0 rfl ?_
    refine rw_getI (k0 := o) C dX5_faultPlace_27 fl_X5_19 rfl (pv_isT_lt hc0) (pv_isT_sh hc0) (by decide) (fun x1 => ?_)
    refine rw_if_eq (tgt := 43) C dX5_faultPlace_30 (by decide) ?_ ?_
    · refine rw_iconst (c := (-1)) C dX5_faultPlace_43 ci_m1 ?_
      refine rw_goto (tgt := 51) C dX5_faultPlace_44 (by decide) ?_
      exact rw_iretP C dX5_faultPlace_51
    · refine rw_aload_n C dX5_faultPlace_33 rfl 0 rfl ?_
      refine rw_getI (k0 := o) C dX5_faultPlace_34 fl_X5_19 rfl (pv_isT_lt hc0) (pv_isT_sh hc0) (by decide) (fun x2 => ?_)
      refine rw_iconst (c := 4) C dX5_faultPlace_37 ci_4 ?_
      refine rw_irem C dX5_faultPlace_38 (by decide) ?_
      refine rw_iconst (c := 3) C dX5_faultPlace_39 ci_3 ?_
      refine rw_icmp_ne (tgt := 47) C dX5_faultPlace_40 (by decide) ?_ ?_
      · refine rw_aload_n C dX5_faultPlace_47 rfl 0 rfl ?_
        refine rw_getI (k0 := o) C dX5_faultPlace_48 fl_X5_19 rfl (pv_isT_lt hc0) (pv_isT_sh hc0) (by decide) (fun x3 => ?_)
        exact rw_iretP C dX5_faultPlace_51
      · refine rw_iconst (c := (-1)) C dX5_faultPlace_43 ci_m1 ?_
        refine rw_goto (tgt := 51) C dX5_faultPlace_44 (by decide) ?_
        exact rw_iretP C dX5_faultPlace_51
  · refine rw_lv (lv' := [(0, .ref (κ.1 + o)), (1, .int 0)]) [1, 0] rfl ?_
    refine pv_lp1_ind (fun x4 xx => pv_R g κ pv_T pv_RF 2 0 0 (pv_QP g κ pv_ji M) 2 [(0, .ref (κ.1 + o)), (1, .int x4)] [] M xx) (fun _ => rw_none) (fun rec1 hrec1 x4 => ?_) _ _
    unfold f_X5_faultPlace_L2
    refine rw_iload_n C dX5_faultPlace_2 rfl 1 rfl ?_
    refine rw_aload_n C dX5_faultPlace_3 rfl 0 rfl ?_
    refine rw_getI (k0 := o) C dX5_faultPlace_4 fl_X5_19 rfl (pv_isT_lt hc0) (pv_isT_sh hc0) (by decide) (fun x5 => ?_)
    refine rw_icmp_ge (tgt := 26) C dX5_faultPlace_7 (by decide) ?_ ?_
    · exact rw_lv [0] rfl (hj1 )
    · refine rw_aload_n C dX5_faultPlace_10 rfl 0 rfl ?_
      refine rw_iload_n C dX5_faultPlace_11 rfl 1 rfl ?_
      refine rw_callVPi (As := [.int x4]) (k0 := o) C hR dX5_faultPlace_12 cv_X5_26 (k_X5_fits g.2.1 κ o x4 M) (by decide) (by decide) (pv_isT_lt hc0) (pv_isT_sh hc0) rfl rfl (Nat.le_of_ble_eq_true rfl) rfl (fun x6 => ?_)
      refine rw_if_ne (tgt := 20) C dX5_faultPlace_15 (by decide) ?_ ?_
      · refine rw_iinc (c := 1) (lv' := [(1, .int (x4 + 1)), (0, .ref (κ.1 + o))]) C dX5_faultPlace_20 1 rfl (by decide) (by decide) rfl ?_
        refine rw_goto (tgt := 2) C dX5_faultPlace_23 (by decide) ?_
        exact rw_lv [1, 0] rfl (hrec1 (x4 + 1))
      · refine rw_iload_n C dX5_faultPlace_18 rfl 1 rfl ?_
        exact rw_iretP C dX5_faultPlace_19
def f_X5_items (o : Nat) (M : pv_M) : Option Int32 := pv_ck (pv_isT o) (pv_cap (f_X5_faultPlace o M) (fun x1 => (if x1 = ((-1)) then pv_nm (M.1 o 2) (fun x2 => some ((x2 + 1) / 4)) else some 0)))
set_option maxHeartbeats 4000000 in
set_option maxRecDepth 100000 in
theorem k_X5_items (l : Launch) (κ : pv_K) (o : Nat) (M : pv_M) : pv_MtP l yX5_items cX5_items 1 (some .int) 2 κ [.ref (κ.1 + o)] M pv_ji (f_X5_items o M) := by
  refine pv_enterP (by decide +kernel) (Nat.le_of_ble_eq_true rfl) (fun g hl hR C => ?_)
  have C : pv_Ok g κ 1 cX5_items RX5 (some .int) := C
  show pv_R g κ pv_T pv_RF 1 0 0 (pv_QP g κ pv_ji M) 0 [(0, .ref (κ.1 + o))] [] M (f_X5_items o M)
  unfold f_X5_items
  refine rw_ck (fun hc0 => ?_)
  refine rw_aload_n C dX5_items_0 rfl 0 rfl ?_
  refine rw_callVPi (As := []) (k0 := o) C hR dX5_items_1 cv_X5_30 (k_X5_faultPlace g.2.1 κ o M) (by decide) (by decide) (pv_isT_lt hc0) (pv_isT_sh hc0) rfl rfl (Nat.le_of_ble_eq_true rfl) rfl (fun x1 => ?_)
  refine rw_iconst (c := (-1)) C dX5_items_4 ci_m1 ?_
  refine rw_icmp_ne (tgt := 19) C dX5_items_5 (by decide) ?_ ?_
  · refine rw_iconst (c := 0) C dX5_items_19 ci_0 ?_
    exact rw_iretP C dX5_items_20
  · refine rw_aload_n C dX5_items_8 rfl 0 rfl ?_
    refine rw_getI (k0 := o) C dX5_items_9 fl_X5_19 rfl (pv_isT_lt hc0) (pv_isT_sh hc0) (by decide) (fun x2 => ?_)
    refine rw_iconst (c := 1) C dX5_items_12 ci_1 ?_
    refine rw_iadd C dX5_items_13 ?_
    refine rw_iconst (c := 4) C dX5_items_14 ci_4 ?_
    refine rw_idiv C dX5_items_15 (by decide) ?_
    refine rw_goto (tgt := 20) C dX5_items_16 (by decide) ?_
    exact rw_iretP C dX5_items_20
def f_X5_byteOf (o : Nat) (a1 : Int32) (a2 : Int32) (M : pv_M) : Option Int32 := pv_ck (pv_isT o) (pv_ldI pv_T (o + 1) ((4 * a1) + a2) M (fun x1 => some x1))
set_option maxHeartbeats 4000000 in
set_option maxRecDepth 100000 in
theorem k_X5_byteOf (l : Launch) (κ : pv_K) (o : Nat) (a1 : Int32) (a2 : Int32) (M : pv_M) : pv_MtP l yX5_byteOf cX5_byteOf 3 (some .int) 0 κ [.ref (κ.1 + o), .int a1, .int a2] M pv_ji (f_X5_byteOf o a1 a2 M) := by
  refine pv_enterP (by decide +kernel) (Nat.le_of_ble_eq_true rfl) (fun g hl hR C => ?_)
  have C : pv_Ok g κ 3 cX5_byteOf RX5 (some .int) := C
  show pv_R g κ pv_T pv_RF 3 0 0 (pv_QP g κ pv_ji M) 0 [(0, .ref (κ.1 + o)), (1, .int a1), (2, .int a2)] [] M (f_X5_byteOf o a1 a2 M)
  unfold f_X5_byteOf
  refine rw_ck (fun hc0 => ?_)
  refine rw_aload_n C dX5_byteOf_0 rfl 0 rfl ?_
  refine rw_getR (k0 := o) (k1 := (o + 1)) C dX5_byteOf_1 fl_X5_15 rfl (pv_isT_lt hc0) (pv_isT_sh hc0) (by decide) (pv_isT_r1 hc0) ?_
  refine rw_iconst (c := 4) C dX5_byteOf_4 ci_4 ?_
  refine rw_iload_n C dX5_byteOf_5 rfl 1 rfl ?_
  refine rw_imul C dX5_byteOf_6 ?_
  refine rw_iload_n C dX5_byteOf_7 rfl 2 rfl ?_
  refine rw_iadd C dX5_byteOf_8 ?_
  refine rw_ldI C dX5_byteOf_9 (fun x1 => ?_)
  exact rw_iretP C dX5_byteOf_10
def f_X2_carry_L13 (rec1 : Int32 → pv_M → Option (Unit × pv_M)) (x1 : Int32) (a1 : Int32) (r2 : Nat) (rec2 : Int32 → pv_M → Option (Unit × pv_M)) (x3 : Int32) (M2 : pv_M) : Option (Unit × pv_M) := (if 3 ≤ x3 then rec1 (x1 + 1) M2 else pv_ldR pv_T 40 a1 (fun k1 => pv_jn (fun (x4 : Int32) => pv_stI pv_T k1 ((x1 * 3) + x3) x4 M2 (fun M3 => rec2 (x3 + 1) M3)) (fun j1 => (if a1 = 0 then pv_cap (f_X5_byteOf r2 x1 x3 M2) (fun x6 => j1 (x6 - 48)) else pv_cap (f_X2_figure (a1 - 1) x1 x3 M2) (fun x5 => j1 x5)))))
def f_X2_carry_L2 (a1 : Int32) (r2 : Nat) (rec1 : Int32 → pv_M → Option (Unit × pv_M)) (x1 : Int32) (M1 : pv_M) : Option (Unit × pv_M) := pv_nm (M1.1 39 0) (fun x2 => (if x2 ≤ x1 then some ((), M1) else pv_lp2 (f_X2_carry_L13 rec1 x1 a1 r2) pv_FU 0 M1))
def f_X2_carry (a1 : Int32) (r2 : Nat) (M : pv_M) : Option (Unit × pv_M) := pv_ck (pv_isT r2) (pv_lp2 (f_X2_carry_L2 a1 r2) pv_FU 0 M)
set_option maxHeartbeats 4000000 in
set_option maxRecDepth 100000 in
theorem k_X2_carry (l : Launch) (κ : pv_K) (a1 : Int32) (r2 : Nat) (M : pv_M) : pv_Mt l yX2_carry cX2_carry 5 none 1 κ [.ref (κ.1 + 39), .int a1, .ref (κ.1 + r2)] M pv_ju (f_X2_carry a1 r2 M) := by
  refine pv_enter (by decide +kernel) (Nat.le_of_ble_eq_true rfl) (fun g hl hR C => ?_)
  have C : pv_Ok g κ 5 cX2_carry RX2 none := C
  show pv_R g κ pv_T pv_RF 5 0 0 (pv_QF g κ pv_ju) 0 [(0, .ref (κ.1 + 39)), (1, .int a1), (2, .ref (κ.1 + r2))] [] M (f_X2_carry a1 r2 M)
  unfold f_X2_carry
  refine rw_ck (fun hc2 => ?_)
  refine rw_iconst (c := 0) C dX2_carry_0 ci_0 ?_
  refine rw_istore_n (lv' := [(3, .int 0), (0, .ref (κ.1 + 39)), (1, .int a1), (2, .ref (κ.1 + r2))]) C dX2_carry_1 rfl (by decide) rfl ?_
  refine rw_lv (lv' := [(0, .ref (κ.1 + 39)), (1, .int a1), (2, .ref (κ.1 + r2)), (3, .int 0)]) [1, 2, 3, 0] rfl ?_
  refine pv_lp2_ind (fun x1 M1 xx => pv_R g κ pv_T pv_RF 5 0 0 (pv_QF g κ pv_ju) 2 [(0, .ref (κ.1 + 39)), (1, .int a1), (2, .ref (κ.1 + r2)), (3, .int x1)] [] M1 xx) (fun _ _ => rw_none) (fun rec1 hrec1 x1 M1 => ?_) _ _ _
  unfold f_X2_carry_L2
  refine rw_iload_n C dX2_carry_2 rfl 3 rfl ?_
  refine rw_aload_n C dX2_carry_3 rfl 0 rfl ?_
  refine rw_getI (k0 := 39) C dX2_carry_4 fl_X2_33 rfl (by decide) sh_39 (by decide) (fun x2 => ?_)
  refine rw_icmp_ge (tgt := 71) C dX2_carry_7 (by decide) ?_ ?_
  · exact rw_vret C dX2_carry_71
  · refine rw_iconst (c := 0) C dX2_carry_10 ci_0 ?_
    refine rw_istore (lv' := [(4, .int 0), (0, .ref (κ.1 + 39)), (1, .int a1), (2, .ref (κ.1 + r2)), (3, .int x1)]) C dX2_carry_11 (by decide) rfl ?_
    refine rw_lv (lv' := [(0, .ref (κ.1 + 39)), (1, .int a1), (2, .ref (κ.1 + r2)), (3, .int x1), (4, .int 0)]) [1, 2, 3, 4, 0] rfl ?_
    refine pv_lp2_ind (fun x3 M2 xx => pv_R g κ pv_T pv_RF 5 0 0 (pv_QF g κ pv_ju) 13 [(0, .ref (κ.1 + 39)), (1, .int a1), (2, .ref (κ.1 + r2)), (3, .int x1), (4, .int x3)] [] M2 xx) (fun _ _ => rw_none) (fun rec2 hrec2 x3 M2 => ?_) _ _ _
    unfold f_X2_carry_L13
    refine rw_iload C dX2_carry_13 4 rfl ?_
    refine rw_iconst (c := 3) C dX2_carry_15 ci_3 ?_
    refine rw_icmp_ge (tgt := 65) C dX2_carry_16 (by decide) ?_ ?_
    · refine rw_iinc (c := 1) (lv' := [(3, .int (x1 + 1)), (0, .ref (κ.1 + 39)), (1, .int a1), (2, .ref (κ.1 + r2)), (4, .int x3)]) C dX2_carry_65 3 rfl (by decide) (by decide) rfl ?_
      refine rw_goto (tgt := 2) C dX2_carry_68 (by decide) ?_
      exact rw_lv [1, 2, 3, 0] rfl (hrec1 (x1 + 1) M2)
    · refine rw_aload_n C dX2_carry_19 rfl 0 rfl ?_
      refine rw_getR (k0 := 39) (k1 := 40) C dX2_carry_20 fl_X2_11 rfl (by decide) sh_39 (by decide) rfl ?_
      refine rw_iload_n C dX2_carry_23 rfl 1 rfl ?_
      refine rw_ldR C dX2_carry_24 (fun k1 => ?_)
      refine rw_iload_n C dX2_carry_25 rfl 3 rfl ?_
      refine rw_iconst (c := 3) C dX2_carry_26 ci_3 ?_
      refine rw_imul C dX2_carry_27 ?_
      refine rw_iload C dX2_carry_28 4 rfl ?_
      refine rw_iadd C dX2_carry_30 ?_
      refine rw_iload_n C dX2_carry_31 rfl 1 rfl ?_
      refine rw_jn (fun j1 => ∀ (x4 : Int32), pv_R g κ pv_T pv_RF 5 0 0 (pv_QF g κ pv_ju) 58 [(0, .ref (κ.1 + 39)), (1, .int a1), (2, .ref (κ.1 + r2)), (3, .int x1), (4, .int x3)] [.int x4, .int ((x1 * 3) + x3), .ref (κ.1 + k1)] M2 (j1 x4)) (fun x4 => ?_) (fun j1 hj1 => ?_)
      · refine rw_stI C dX2_carry_58 (fun M3 => ?_)
        refine rw_iinc (c := 1) (lv' := [(4, .int (x3 + 1)), (0, .ref (κ.1 + 39)), (1, .int a1), (2, .ref (κ.1 + r2)), (3, .int x1)]) C dX2_carry_59 4 rfl (by decide) (by decide) rfl ?_
        refine rw_goto (tgt := 13) C dX2_carry_62 (by decide) ?_
        exact rw_lv [1, 2, 3, 4, 0] rfl (hrec2 (x3 + 1) M3)
      · refine rw_if_ne (tgt := 48) C dX2_carry_32 (by decide) ?_ ?_
        · refine rw_aload_n C dX2_carry_48 rfl 0 rfl ?_
          refine rw_iload_n C dX2_carry_49 rfl 1 rfl ?_
          refine rw_iconst (c := 1) C dX2_carry_50 ci_1 ?_
          refine rw_isub C dX2_carry_51 ?_
          refine rw_iload_n C dX2_carry_52 rfl 3 rfl ?_
          refine rw_iload C dX2_carry_53 4 rfl ?_
          refine rw_callVPi (As := [.int (a1 - 1), .int x1, .int x3]) (k0 := 39) C hR dX2_carry_55 cv_X2_51 (k_X2_figure g.2.1 κ (a1 - 1) x1 x3 M2) (by decide) (by decide) (by decide) sh_39 rfl rfl (Nat.le_of_ble_eq_true rfl) rfl (fun x5 => ?_)
          exact hj1 x5
        · refine rw_aload_n C dX2_carry_35 rfl 2 rfl ?_
          refine rw_iload_n C dX2_carry_36 rfl 3 rfl ?_
          refine rw_iload C dX2_carry_37 4 rfl ?_
          refine rw_callVPi (As := [.int x1, .int x3]) (k0 := r2) C hR dX2_carry_39 cv_X2_39 (k_X5_byteOf g.2.1 κ r2 x1 x3 M2) (by decide) (by decide) (pv_isT_lt hc2) (pv_isT_sh hc2) rfl rfl (Nat.le_of_ble_eq_true rfl) rfl (fun x6 => ?_)
          refine rw_bipush (c := 48) C dX2_carry_42 (by decide) ?_
          refine rw_isub C dX2_carry_44 ?_
          refine rw_goto (tgt := 58) C dX2_carry_45 (by decide) ?_
          exact hj1 (x6 - 48)
def f_X2_alter_L2 (r2 : Nat) (a1 : Int32) (rec1 : Int32 → pv_M → Option (Unit × pv_M)) (x1 : Int32) (M1 : pv_M) : Option (Unit × pv_M) := pv_nm (M1.1 r2 1) (fun x2 => (if x2 ≤ x1 then some ((), M1) else pv_ldR pv_T (r2 + 1) x1 (fun k1 => pv_ldI pv_T k1 0 M1 (fun x3 => (if x3 = a1 then pv_ldR pv_T 40 a1 (fun k2 => pv_ldI pv_T k1 1 M1 (fun x4 => pv_ldI pv_T k1 2 M1 (fun x5 => pv_ldI pv_T k1 3 M1 (fun x6 => pv_stI pv_T k2 ((x4 * 3) + x5) x6 M1 (fun M2 => rec1 (x1 + 1) M2))))) else rec1 (x1 + 1) M1)))))
def f_X2_alter (a1 : Int32) (r2 : Nat) (M : pv_M) : Option (Unit × pv_M) := pv_ck (pv_isW r2) (pv_lp2 (f_X2_alter_L2 r2 a1) pv_FU 0 M)
set_option maxHeartbeats 4000000 in
set_option maxRecDepth 100000 in
theorem k_X2_alter (l : Launch) (κ : pv_K) (a1 : Int32) (r2 : Nat) (M : pv_M) : pv_Mt l yX2_alter cX2_alter 5 none 0 κ [.ref (κ.1 + 39), .int a1, .ref (κ.1 + r2)] M pv_ju (f_X2_alter a1 r2 M) := by
  refine pv_enter (by decide +kernel) (Nat.le_of_ble_eq_true rfl) (fun g hl hR C => ?_)
  have C : pv_Ok g κ 5 cX2_alter RX2 none := C
  show pv_R g κ pv_T pv_RF 5 0 0 (pv_QF g κ pv_ju) 0 [(0, .ref (κ.1 + 39)), (1, .int a1), (2, .ref (κ.1 + r2))] [] M (f_X2_alter a1 r2 M)
  unfold f_X2_alter
  refine rw_ck (fun hc2 => ?_)
  refine rw_iconst (c := 0) C dX2_alter_0 ci_0 ?_
  refine rw_istore_n (lv' := [(3, .int 0), (0, .ref (κ.1 + 39)), (1, .int a1), (2, .ref (κ.1 + r2))]) C dX2_alter_1 rfl (by decide) rfl ?_
  refine rw_lv (lv' := [(0, .ref (κ.1 + 39)), (1, .int a1), (2, .ref (κ.1 + r2)), (3, .int 0)]) [1, 2, 3, 0] rfl ?_
  refine pv_lp2_ind (fun x1 M1 xx => pv_R g κ pv_T pv_RF 5 0 0 (pv_QF g κ pv_ju) 2 [(0, .ref (κ.1 + 39)), (1, .int a1), (2, .ref (κ.1 + r2)), (3, .int x1)] [] M1 xx) (fun _ _ => rw_none) (fun rec1 hrec1 x1 M1 => ?_) _ _ _
  unfold f_X2_alter_L2
  refine rw_iload_n C dX2_alter_2 rfl 3 rfl ?_
  refine rw_aload_n C dX2_alter_3 rfl 2 rfl ?_
  refine rw_getI (k0 := r2) C dX2_alter_4 fl_X2_55 rfl (pv_isW_lt hc2) (pv_isW_sh hc2) (by decide) (fun x2 => ?_)
  refine rw_icmp_ge (tgt := 57) C dX2_alter_7 (by decide) ?_ ?_
  · exact rw_vret C dX2_alter_57
  · refine rw_aload_n C dX2_alter_10 rfl 2 rfl ?_
    refine rw_getR (k0 := r2) (k1 := (r2 + 1)) C dX2_alter_11 fl_X2_60 rfl (pv_isW_lt hc2) (pv_isW_sh hc2) (by decide) (pv_isW_r0 hc2) ?_
    refine rw_iload_n C dX2_alter_14 rfl 3 rfl ?_
    refine rw_ldR C dX2_alter_15 (fun k1 => ?_)
    refine rw_astore (lv' := [(4, .ref (κ.1 + k1)), (0, .ref (κ.1 + 39)), (1, .int a1), (2, .ref (κ.1 + r2)), (3, .int x1)]) C dX2_alter_16 (by decide) rfl ?_
    refine rw_aload C dX2_alter_18 0 rfl ?_
    refine rw_iconst (c := 0) C dX2_alter_20 ci_0 ?_
    refine rw_ldI C dX2_alter_21 (fun x3 => ?_)
    refine rw_iload_n C dX2_alter_22 rfl 2 rfl ?_
    refine rw_icmp_eq (tgt := 29) C dX2_alter_23 (by decide) ?_ ?_
    · refine rw_aload_n C dX2_alter_29 rfl 1 rfl ?_
      refine rw_getR (k0 := 39) (k1 := 40) C dX2_alter_30 fl_X2_11 rfl (by decide) sh_39 (by decide) rfl ?_
      refine rw_iload_n C dX2_alter_33 rfl 2 rfl ?_
      refine rw_ldR C dX2_alter_34 (fun k2 => ?_)
      refine rw_aload C dX2_alter_35 0 rfl ?_
      refine rw_iconst (c := 1) C dX2_alter_37 ci_1 ?_
      refine rw_ldI C dX2_alter_38 (fun x4 => ?_)
      refine rw_iconst (c := 3) C dX2_alter_39 ci_3 ?_
      refine rw_imul C dX2_alter_40 ?_
      refine rw_aload C dX2_alter_41 0 rfl ?_
      refine rw_iconst (c := 2) C dX2_alter_43 ci_2 ?_
      refine rw_ldI C dX2_alter_44 (fun x5 => ?_)
      refine rw_iadd C dX2_alter_45 ?_
      refine rw_aload C dX2_alter_46 0 rfl ?_
      refine rw_iconst (c := 3) C dX2_alter_48 ci_3 ?_
      refine rw_ldI C dX2_alter_49 (fun x6 => ?_)
      refine rw_stI C dX2_alter_50 (fun M2 => ?_)
      refine rw_iinc (c := 1) (lv' := [(3, .int (x1 + 1)), (4, .ref (κ.1 + k1)), (0, .ref (κ.1 + 39)), (1, .int a1), (2, .ref (κ.1 + r2))]) C dX2_alter_51 4 rfl (by decide) (by decide) rfl ?_
      refine rw_goto (tgt := 2) C dX2_alter_54 (by decide) ?_
      exact rw_lv [2, 3, 4, 0] rfl (hrec1 (x1 + 1) M2)
    · refine rw_goto (tgt := 51) C dX2_alter_26 (by decide) ?_
      refine rw_iinc (c := 1) (lv' := [(3, .int (x1 + 1)), (4, .ref (κ.1 + k1)), (0, .ref (κ.1 + 39)), (1, .int a1), (2, .ref (κ.1 + r2))]) C dX2_alter_51 4 rfl (by decide) (by decide) rfl ?_
      refine rw_goto (tgt := 2) C dX2_alter_54 (by decide) ?_
      exact rw_lv [2, 3, 4, 0] rfl (hrec1 (x1 + 1) M1)
def f_X2_take_L103 (r1 : Nat) (r3 : Nat) (rec1 : Int32 → pv_M → Option (Unit × pv_M)) (x4 : Int32) (M5 : pv_M) : Option (Unit × pv_M) := (if 10 ≤ x4 then some ((), M5) else pv_cal (f_X2_carry x4 r1 M5) (fun u1 M6 => pv_cal (f_X2_alter x4 r3 M6) (fun u2 M7 => rec1 (x4 + 1) M7)))
def f_X2_take_L29 (j1 : pv_M → Option (Unit × pv_M)) (r2 : Nat) (rec2 : Int32 → pv_M → Option (Unit × pv_M)) (x5 : Int32) (M8 : pv_M) : Option (Unit × pv_M) := pv_nm (M8.1 39 1) (fun x6 => (if x6 ≤ x5 then j1 M8 else pv_cap (f_X5_byteOf r2 x5 0 M8) (fun x7 => pv_stI pv_T 51 x5 (x7 - 97) M8 (fun M9 => pv_cap (f_X5_byteOf r2 x5 2 M9) (fun x8 => pv_nm (x8 - 48) (fun x9 => pv_cap (f_X5_byteOf r2 x5 1 M9) (fun x10 => pv_jn (fun (x11 : Int32) => pv_stI pv_T 52 x5 x11 M9 (fun M10 => rec2 (x5 + 1) M10)) (fun j2 => (if x10 = 43 then j2 x9 else j2 (-x9))))))))))
def f_X2_take (r1 : Nat) (r2 : Nat) (r3 : Nat) (M : pv_M) : Option (Unit × pv_M) := pv_ck (pv_isT r1) (pv_ck (pv_isT r2) (pv_ck (pv_isW r3) (pv_nm (M.1 39 2) (fun x1 => pv_nm (pv_u M.1 39 2 (x1 + 1), M.2) (fun M1 => pv_cap (f_X5_items r1 M1) (fun x2 => pv_nm (pv_u M1.1 39 0 x2, M1.2) (fun M2 => pv_cap (f_X5_items r2 M2) (fun x3 => pv_nm (pv_u M2.1 39 1 x3, M2.2) (fun M3 => pv_jn (fun (M4 : pv_M) => pv_lp2 (f_X2_take_L103 r1 r3) pv_FU 0 M4) (fun j1 => pv_lp2 (f_X2_take_L29 j1 r2) pv_FU 0 M3))))))))))
set_option maxHeartbeats 4000000 in
set_option maxRecDepth 100000 in
theorem k_X2_take (l : Launch) (κ : pv_K) (r1 : Nat) (r2 : Nat) (r3 : Nat) (M : pv_M) : pv_Mt l yX2_take cX2_take 6 none 3 κ [.ref (κ.1 + 39), .ref (κ.1 + r1), .ref (κ.1 + r2), .ref (κ.1 + r3)] M pv_ju (f_X2_take r1 r2 r3 M) := by
  refine pv_enter (by decide +kernel) (Nat.le_of_ble_eq_true rfl) (fun g hl hR C => ?_)
  have C : pv_Ok g κ 6 cX2_take RX2 none := C
  show pv_R g κ pv_T pv_RF 6 0 0 (pv_QF g κ pv_ju) 0 [(0, .ref (κ.1 + 39)), (1, .ref (κ.1 + r1)), (2, .ref (κ.1 + r2)), (3, .ref (κ.1 + r3))] [] M (f_X2_take r1 r2 r3 M)
  unfold f_X2_take
  refine rw_ck (fun hc1 => ?_)
  refine rw_ck (fun hc2 => ?_)
  refine rw_ck (fun hc3 => ?_)
  refine rw_aload_n C dX2_take_0 rfl 0 rfl ?_
  refine rw_dup C dX2_take_1 rfl ?_
  refine rw_getI (k0 := 39) C dX2_take_2 fl_X2_23 rfl (by decide) sh_39 (by decide) (fun x1 => ?_)
  refine rw_iconst (c := 1) C dX2_take_5 ci_1 ?_
  refine rw_iadd C dX2_take_6 ?_
  refine rw_put (k0 := 39) C dX2_take_7 fl_X2_23 ff_X2_2 rfl rfl rfl (by decide) sh_39 (by decide) (fun M1 => ?_)
  refine rw_aload_n C dX2_take_10 rfl 0 rfl ?_
  refine rw_aload_n C dX2_take_11 rfl 1 rfl ?_
  refine rw_callVPi (As := []) (k0 := r1) C hR dX2_take_12 cv_X2_27 (k_X5_items g.2.1 κ r1 M1) (by decide) (by decide) (pv_isT_lt hc1) (pv_isT_sh hc1) rfl rfl (Nat.le_of_ble_eq_true rfl) rfl (fun x2 => ?_)
  refine rw_put (k0 := 39) C dX2_take_15 fl_X2_33 ff_X2_0 rfl rfl rfl (by decide) sh_39 (by decide) (fun M2 => ?_)
  refine rw_aload_n C dX2_take_18 rfl 0 rfl ?_
  refine rw_aload_n C dX2_take_19 rfl 2 rfl ?_
  refine rw_callVPi (As := []) (k0 := r2) C hR dX2_take_20 cv_X2_27 (k_X5_items g.2.1 κ r2 M2) (by decide) (by decide) (pv_isT_lt hc2) (pv_isT_sh hc2) rfl rfl (Nat.le_of_ble_eq_true rfl) rfl (fun x3 => ?_)
  refine rw_put (k0 := 39) C dX2_take_23 fl_X2_36 ff_X2_1 rfl rfl rfl (by decide) sh_39 (by decide) (fun M3 => ?_)
  refine rw_iconst (c := 0) C dX2_take_26 ci_0 ?_
  refine rw_istore (lv' := [(4, .int 0), (0, .ref (κ.1 + 39)), (1, .ref (κ.1 + r1)), (2, .ref (κ.1 + r2)), (3, .ref (κ.1 + r3))]) C dX2_take_27 (by decide) rfl ?_
  refine rw_jn (fun j1 => ∀ (M4 : pv_M), pv_R g κ pv_T pv_RF 6 0 0 (pv_QF g κ pv_ju) 100 [(0, .ref (κ.1 + 39)), (1, .ref (κ.1 + r1)), (3, .ref (κ.1 + r3))] [] M4 (j1 M4)) (fun M4 => ?_) (fun j1 hj1 => ?_)
  · refine rw_iconst (c := 0) C dX2_take_100 ci_0 ?_
    refine rw_istore (lv' := [(4, .int 0), (0, .ref (κ.1 + 39)), (1, .ref (κ.1 + r1)), (3, .ref (κ.1 + r3))]) C dX2_take_101 (by decide) rfl ?_
    refine rw_lv (lv' := [(0, .ref (κ.1 + 39)), (1, .ref (κ.1 + r1)), (3, .ref (κ.1 + r3)), (4, .int 0)]) [1, 2, 3, 0] rfl ?_
    refine pv_lp2_ind (fun x4 M5 xx => pv_R g κ pv_T pv_RF 6 0 0 (pv_QF g κ pv_ju) 103 [(0, .ref (κ.1 + 39)), (1, .ref (κ.1 + r1)), (3, .ref (κ.1 + r3)), (4, .int x4)] [] M5 xx) (fun _ _ => rw_none) (fun rec1 hrec1 x4 M5 => ?_) _ _ _
    unfold f_X2_take_L103
    refine rw_iload C dX2_take_103 3 rfl ?_
    refine rw_bipush (c := 10) C dX2_take_105 (by decide) ?_
    refine rw_icmp_ge (tgt := 130) C dX2_take_107 (by decide) ?_ ?_
    · exact rw_vret C dX2_take_130
    · refine rw_aload_n C dX2_take_110 rfl 0 rfl ?_
      refine rw_iload C dX2_take_111 3 rfl ?_
      refine rw_aload_n C dX2_take_113 rfl 1 rfl ?_
      refine rw_callVu (As := [.int x4, .ref (κ.1 + r1)]) (k0 := 39) C hR dX2_take_114 cv_X2_43 (k_X2_carry g.2.1 κ x4 r1 M5) (by decide) (by decide) (by decide) sh_39 rfl rfl (Nat.le_of_ble_eq_true rfl) rfl (fun u1 M6 => ?_)
      refine rw_aload_n C dX2_take_117 rfl 0 rfl ?_
      refine rw_iload C dX2_take_118 3 rfl ?_
      refine rw_aload_n C dX2_take_120 rfl 2 rfl ?_
      refine rw_callVu (As := [.int x4, .ref (κ.1 + r3)]) (k0 := 39) C hR dX2_take_121 cv_X2_47 (k_X2_alter g.2.1 κ x4 r3 M6) (by decide) (by decide) (by decide) sh_39 rfl rfl (Nat.le_of_ble_eq_true rfl) rfl (fun u2 M7 => ?_)
      refine rw_iinc (c := 1) (lv' := [(4, .int (x4 + 1)), (0, .ref (κ.1 + 39)), (1, .ref (κ.1 + r1)), (3, .ref (κ.1 + r3))]) C dX2_take_124 3 rfl (by decide) (by decide) rfl ?_
      refine rw_goto (tgt := 103) C dX2_take_127 (by decide) ?_
      exact rw_lv [1, 2, 3, 0] rfl (hrec1 (x4 + 1) M7)
  · refine rw_lv (lv' := [(0, .ref (κ.1 + 39)), (1, .ref (κ.1 + r1)), (2, .ref (κ.1 + r2)), (3, .ref (κ.1 + r3)), (4, .int 0)]) [1, 2, 3, 4, 0] rfl ?_
    refine pv_lp2_ind (fun x5 M8 xx => pv_R g κ pv_T pv_RF 6 0 0 (pv_QF g κ pv_ju) 29 [(0, .ref (κ.1 + 39)), (1, .ref (κ.1 + r1)), (2, .ref (κ.1 + r2)), (3, .ref (κ.1 + r3)), (4, .int x5)] [] M8 xx) (fun _ _ => rw_none) (fun rec2 hrec2 x5 M8 => ?_) _ _ _
    unfold f_X2_take_L29
    refine rw_iload C dX2_take_29 4 rfl ?_
    refine rw_aload_n C dX2_take_31 rfl 0 rfl ?_
    refine rw_getI (k0 := 39) C dX2_take_32 fl_X2_36 rfl (by decide) sh_39 (by decide) (fun x6 => ?_)
    refine rw_icmp_ge (tgt := 100) C dX2_take_35 (by decide) ?_ ?_
    · exact rw_lv [0, 1, 3] rfl (hj1 M8)
    · refine rw_aload_n C dX2_take_38 rfl 0 rfl ?_
      refine rw_getR (k0 := 39) (k1 := 51) C dX2_take_39 fl_X2_16 rfl (by decide) sh_39 (by decide) rfl ?_
      refine rw_iload C dX2_take_42 4 rfl ?_
      refine rw_aload_n C dX2_take_44 rfl 2 rfl ?_
      refine rw_iload C dX2_take_45 4 rfl ?_
      refine rw_iconst (c := 0) C dX2_take_47 ci_0 ?_
      refine rw_callVPi (As := [.int x5, .int 0]) (k0 := r2) C hR dX2_take_48 cv_X2_39 (k_X5_byteOf g.2.1 κ r2 x5 0 M8) (by decide) (by decide) (pv_isT_lt hc2) (pv_isT_sh hc2) rfl rfl (Nat.le_of_ble_eq_true rfl) rfl (fun x7 => ?_)
      refine rw_bipush (c := 97) C dX2_take_51 (by decide) ?_
      refine rw_isub C dX2_take_53 ?_
      refine rw_stI C dX2_take_54 (fun M9 => ?_)
      refine rw_aload_n C dX2_take_55 rfl 2 rfl ?_
      refine rw_iload C dX2_take_56 4 rfl ?_
      refine rw_iconst (c := 2) C dX2_take_58 ci_2 ?_
      refine rw_callVPi (As := [.int x5, .int 2]) (k0 := r2) C hR dX2_take_59 cv_X2_39 (k_X5_byteOf g.2.1 κ r2 x5 2 M9) (by decide) (by decide) (pv_isT_lt hc2) (pv_isT_sh hc2) rfl rfl (Nat.le_of_ble_eq_true rfl) rfl (fun x8 => ?_)
      refine rw_bipush (c := 48) C dX2_take_62 (by decide) ?_
      refine rw_isub C dX2_take_64 ?_
      refine rw_nm (fun x9 => ?_)
      refine rw_istore (lv' := [(5, .int x9), (0, .ref (κ.1 + 39)), (1, .ref (κ.1 + r1)), (2, .ref (κ.1 + r2)), (3, .ref (κ.1 + r3)), (4, .int x5)]) C dX2_take_65 (by decide) rfl ?_
      refine rw_aload_n C dX2_take_67 rfl 1 rfl ?_
      refine rw_getR (k0 := 39) (k1 := 52) C dX2_take_68 fl_X2_20 rfl (by decide) sh_39 (by decide) rfl ?_
      refine rw_iload C dX2_take_71 5 rfl ?_
      refine rw_aload_n C dX2_take_73 rfl 3 rfl ?_
      refine rw_iload C dX2_take_74 5 rfl ?_
      refine rw_iconst (c := 1) C dX2_take_76 ci_1 ?_
      refine rw_callVPi (As := [.int x5, .int 1]) (k0 := r2) C hR dX2_take_77 cv_X2_39 (k_X5_byteOf g.2.1 κ r2 x5 1 M9) (by decide) (by decide) (pv_isT_lt hc2) (pv_isT_sh hc2) rfl rfl (Nat.le_of_ble_eq_true rfl) rfl (fun x10 => ?_)
      refine rw_bipush (c := 43) C dX2_take_80 (by decide) ?_
      refine rw_jn (fun j2 => ∀ (x11 : Int32), pv_R g κ pv_T pv_RF 6 0 0 (pv_QF g κ pv_ju) 93 [(0, .ref (κ.1 + 39)), (1, .ref (κ.1 + r1)), (2, .ref (κ.1 + r2)), (3, .ref (κ.1 + r3)), (4, .int x5)] [.int x11, .int x5, .ref (κ.1 + 52)] M9 (j2 x11)) (fun x11 => ?_) (fun j2 hj2 => ?_)
      · refine rw_stI C dX2_take_93 (fun M10 => ?_)
        refine rw_iinc (c := 1) (lv' := [(4, .int (x5 + 1)), (0, .ref (κ.1 + 39)), (1, .ref (κ.1 + r1)), (2, .ref (κ.1 + r2)), (3, .ref (κ.1 + r3))]) C dX2_take_94 4 rfl (by decide) (by decide) rfl ?_
        refine rw_goto (tgt := 29) C dX2_take_97 (by decide) ?_
        exact rw_lv [1, 2, 3, 4, 0] rfl (hrec2 (x5 + 1) M10)
      · refine rw_icmp_ne (tgt := 90) C dX2_take_82 (by decide) ?_ ?_
        · refine rw_iload C dX2_take_90 0 rfl ?_
          refine rw_ineg C dX2_take_92 ?_
          exact rw_lv [1, 2, 3, 4, 5] rfl (hj2 (-x9))
        · refine rw_iload C dX2_take_85 0 rfl ?_
          refine rw_goto (tgt := 93) C dX2_take_87 (by decide) ?_
          exact rw_lv [1, 2, 3, 4, 5] rfl (hj2 x9)
def f_X3_isFull (o : Nat) (M : pv_M) : Option Int32 := pv_ck (pv_isW o) (pv_nm (M.1 o 1) (fun x1 => pv_len pv_T (o + 1) (fun x2 => (if x1 < x2 then some 0 else some 1))))
set_option maxHeartbeats 4000000 in
set_option maxRecDepth 100000 in
theorem k_X3_isFull (l : Launch) (κ : pv_K) (o : Nat) (M : pv_M) : pv_MtP l yX3_isFull cX3_isFull 1 (some .boolean) 0 κ [.ref (κ.1 + o)] M pv_ji (f_X3_isFull o M) := by
  refine pv_enterP (by decide +kernel) (Nat.le_of_ble_eq_true rfl) (fun g hl hR C => ?_)
  have C : pv_Ok g κ 1 cX3_isFull RX3 (some .boolean) := C
  show pv_R g κ pv_T pv_RF 1 0 0 (pv_QP g κ pv_ji M) 0 [(0, .ref (κ.1 + o))] [] M (f_X3_isFull o M)
  unfold f_X3_isFull
  refine rw_ck (fun hc0 => ?_)
  refine rw_aload_n C dX3_isFull_0 rfl 0 rfl ?_
  refine rw_getI (k0 := o) C dX3_isFull_1 fl_X3_14 rfl (pv_isW_lt hc0) (pv_isW_sh hc0) (by decide) (fun x1 => ?_)
  refine rw_aload_n C dX3_isFull_4 rfl 0 rfl ?_
  refine rw_getR (k0 := o) (k1 := (o + 1)) C dX3_isFull_5 fl_X3_9 rfl (pv_isW_lt hc0) (pv_isW_sh hc0) (by decide) (pv_isW_r0 hc0) ?_
  refine rw_len C dX3_isFull_8 (fun x2 => ?_)
  refine rw_icmp_lt (tgt := 16) C dX3_isFull_9 (by decide) ?_ ?_
  · refine rw_iconst (c := 0) C dX3_isFull_16 ci_0 ?_
    exact rw_zretP (Or.inl rfl) C dX3_isFull_17
  · refine rw_iconst (c := 1) C dX3_isFull_12 ci_1 ?_
    refine rw_goto (tgt := 17) C dX3_isFull_13 (by decide) ?_
    exact rw_zretP (Or.inr rfl) C dX3_isFull_17
def f_X3_next (o : Nat) (M : pv_M) : Option (Nat × pv_M) := pv_ck (pv_isW o) (pv_nm (M.1 o 1) (fun x1 => pv_ldR pv_T (o + 1) x1 (fun k1 => pv_nm (M.1 o 1) (fun x2 => pv_nm (pv_u M.1 o 1 (x2 + 1), M.2) (fun M1 => some (k1, M1))))))
set_option maxHeartbeats 4000000 in
set_option maxRecDepth 100000 in
theorem k_X3_next (l : Launch) (κ : pv_K) (o : Nat) (M : pv_M) : pv_Mt l yX3_next cX3_next 2 (some (.array .int)) 0 κ [.ref (κ.1 + o)] M (pv_jr κ) (f_X3_next o M) := by
  refine pv_enter (by decide +kernel) (Nat.le_of_ble_eq_true rfl) (fun g hl hR C => ?_)
  have C : pv_Ok g κ 2 cX3_next RX3 (some (.array .int)) := C
  show pv_R g κ pv_T pv_RF 2 0 0 (pv_QF g κ (pv_jr κ)) 0 [(0, .ref (κ.1 + o))] [] M (f_X3_next o M)
  unfold f_X3_next
  refine rw_ck (fun hc0 => ?_)
  refine rw_aload_n C dX3_next_0 rfl 0 rfl ?_
  refine rw_getR (k0 := o) (k1 := (o + 1)) C dX3_next_1 fl_X3_9 rfl (pv_isW_lt hc0) (pv_isW_sh hc0) (by decide) (pv_isW_r0 hc0) ?_
  refine rw_aload_n C dX3_next_4 rfl 0 rfl ?_
  refine rw_getI (k0 := o) C dX3_next_5 fl_X3_14 rfl (pv_isW_lt hc0) (pv_isW_sh hc0) (by decide) (fun x1 => ?_)
  refine rw_ldR C dX3_next_8 (fun k1 => ?_)
  refine rw_astore_n (lv' := [(1, .ref (κ.1 + k1)), (0, .ref (κ.1 + o))]) C dX3_next_9 rfl (by decide) rfl ?_
  refine rw_aload_n C dX3_next_10 rfl 1 rfl ?_
  refine rw_dup C dX3_next_11 rfl ?_
  refine rw_getI (k0 := o) C dX3_next_12 fl_X3_14 rfl (pv_isW_lt hc0) (pv_isW_sh hc0) (by decide) (fun x2 => ?_)
  refine rw_iconst (c := 1) C dX3_next_15 ci_1 ?_
  refine rw_iadd C dX3_next_16 ?_
  refine rw_put (k0 := o) C dX3_next_17 fl_X3_14 ff_X3_1 rfl rfl rfl (pv_isW_lt hc0) (pv_isW_sh hc0) (by decide) (fun M1 => ?_)
  refine rw_aload_n C dX3_next_20 rfl 0 rfl ?_
  exact rw_aret (Or.inr ⟨_, rfl⟩) C dX3_next_21
def f_X8_isWithin (a1 : Int32) (a2 : Int32) (a3 : Int32) (M : pv_M) : Option Int32 := (if a1 < a2 then some 0 else (if a3 < a1 then some 0 else some 1))
set_option maxHeartbeats 4000000 in
set_option maxRecDepth 100000 in
theorem k_X8_isWithin (l : Launch) (κ : pv_K) (a1 : Int32) (a2 : Int32) (a3 : Int32) (M : pv_M) : pv_MtP l yX8_isWithin cX8_isWithin 3 (some .boolean) 0 κ [.int a1, .int a2, .int a3] M pv_ji (f_X8_isWithin a1 a2 a3 M) := by
  refine pv_enterP (by decide +kernel) (Nat.le_of_ble_eq_true rfl) (fun g hl hR C => ?_)
  have C : pv_Ok g κ 3 cX8_isWithin RX8 (some .boolean) := C
  show pv_R g κ pv_T pv_RF 3 0 0 (pv_QP g κ pv_ji M) 0 [(0, .int a1), (1, .int a2), (2, .int a3)] [] M (f_X8_isWithin a1 a2 a3 M)
  unfold f_X8_isWithin
  refine rw_iload_n C dX8_isWithin_0 rfl 0 rfl ?_
  refine rw_iload_n C dX8_isWithin_1 rfl 1 rfl ?_
  refine rw_icmp_lt (tgt := 14) C dX8_isWithin_2 (by decide) ?_ ?_
  · refine rw_iconst (c := 0) C dX8_isWithin_14 ci_0 ?_
    exact rw_zretP (Or.inl rfl) C dX8_isWithin_15
  · refine rw_iload_n C dX8_isWithin_5 rfl 0 rfl ?_
    refine rw_iload_n C dX8_isWithin_6 rfl 2 rfl ?_
    refine rw_icmp_gt (tgt := 14) C dX8_isWithin_7 (by decide) ?_ ?_
    · refine rw_iconst (c := 0) C dX8_isWithin_14 ci_0 ?_
      exact rw_zretP (Or.inl rfl) C dX8_isWithin_15
    · refine rw_iconst (c := 1) C dX8_isWithin_10 ci_1 ?_
      refine rw_goto (tgt := 15) C dX8_isWithin_11 (by decide) ?_
      exact rw_zretP (Or.inr rfl) C dX8_isWithin_15
def f_X4_isSheet (a1 : Int32) (M : pv_M) : Option Int32 := pv_cap (f_X8_isWithin a1 0 3 M) (fun x1 => (if x1 = 0 ∨ x1 = 1 then some x1 else none))
set_option maxHeartbeats 4000000 in
set_option maxRecDepth 100000 in
theorem k_X4_isSheet (l : Launch) (κ : pv_K) (a1 : Int32) (M : pv_M) : pv_MtP l yX4_isSheet cX4_isSheet 1 (some .boolean) 1 κ [.int a1] M pv_ji (f_X4_isSheet a1 M) := by
  refine pv_enterP (by decide +kernel) (Nat.le_of_ble_eq_true rfl) (fun g hl hR C => ?_)
  have C : pv_Ok g κ 1 cX4_isSheet RX4 (some .boolean) := C
  show pv_R g κ pv_T pv_RF 1 0 0 (pv_QP g κ pv_ji M) 0 [(0, .int a1)] [] M (f_X4_isSheet a1 M)
  unfold f_X4_isSheet
  refine rw_iload_n C dX4_isSheet_0 rfl 0 rfl ?_
  refine rw_iconst (c := 0) C dX4_isSheet_1 ci_0 ?_
  refine rw_iconst (c := 3) C dX4_isSheet_2 ci_3 ?_
  refine rw_callNPi (As := [.int a1, .int 0, .int 3]) C hR dX4_isSheet_3 cn_X4_29 (k_X8_isWithin g.2.1 κ a1 0 3 M) (by decide) (by decide) rfl (Nat.le_of_ble_eq_true rfl) rfl (fun x1 => ?_)
  exact rw_zret_ckP C dX4_isSheet_6
def f_X4_isForm (a1 : Int32) (M : pv_M) : Option Int32 := pv_cap (f_X8_isWithin a1 0 2 M) (fun x1 => (if x1 = 0 ∨ x1 = 1 then some x1 else none))
set_option maxHeartbeats 4000000 in
set_option maxRecDepth 100000 in
theorem k_X4_isForm (l : Launch) (κ : pv_K) (a1 : Int32) (M : pv_M) : pv_MtP l yX4_isForm cX4_isForm 1 (some .boolean) 1 κ [.int a1] M pv_ji (f_X4_isForm a1 M) := by
  refine pv_enterP (by decide +kernel) (Nat.le_of_ble_eq_true rfl) (fun g hl hR C => ?_)
  have C : pv_Ok g κ 1 cX4_isForm RX4 (some .boolean) := C
  show pv_R g κ pv_T pv_RF 1 0 0 (pv_QP g κ pv_ji M) 0 [(0, .int a1)] [] M (f_X4_isForm a1 M)
  unfold f_X4_isForm
  refine rw_iload_n C dX4_isForm_0 rfl 0 rfl ?_
  refine rw_iconst (c := 0) C dX4_isForm_1 ci_0 ?_
  refine rw_iconst (c := 2) C dX4_isForm_2 ci_2 ?_
  refine rw_callNPi (As := [.int a1, .int 0, .int 2]) C hR dX4_isForm_3 cn_X4_29 (k_X8_isWithin g.2.1 κ a1 0 2 M) (by decide) (by decide) rfl (Nat.le_of_ble_eq_true rfl) rfl (fun x1 => ?_)
  exact rw_zret_ckP C dX4_isForm_6
