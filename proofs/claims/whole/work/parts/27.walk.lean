def f_X9_contract_J44 (M : pv_M) (a5 : Int32) (a6 : Int32) (a1 : Int32) (a2 : Int32) (a3 : Int32) (a4 : Int32) (x2 : Int32) : Option (Int32 × pv_M) := (if x2 = 0 then some ((-2), M) else pv_cap (f_X9_isYear a5 M) (fun x3 => (if x3 = 0 then some ((-2), M) else pv_cap (f_X9_in a6.toInt64 ((a5 + 1).toInt64) 9 M) (fun x4 => (if x4 = 0 then some ((-2), M) else pv_nm (M.1 196 17) (fun x5 => (if x5 = 8 then some ((-4), M) else pv_nm (M.1 196 17) (fun x6 => pv_nm (6 * x6) (fun x7 => pv_stI pv_T 211 x7 a1 M (fun M1 => pv_stI pv_T 211 (x7 + 1) a2 M1 (fun M2 => pv_stI pv_T 211 (x7 + 2) a3 M2 (fun M3 => pv_stI pv_T 211 (x7 + 3) a4 M3 (fun M4 => pv_stI pv_T 211 (x7 + 4) a5 M4 (fun M5 => pv_stI pv_T 211 (x7 + 5) a6 M5 (fun M6 => pv_nm (M6.1 196 17) (fun x8 => pv_nm (pv_u M6.1 196 17 (x8 + 1), M6.2) (fun M7 => pv_nm (M7.1 196 17) (fun x9 => some (x9, M7)))))))))))))))))))
def f_X9_contract (a1 : Int32) (a2 : Int32) (a3 : Int32) (a4 : Int32) (a5 : Int32) (a6 : Int32) (M : pv_M) : Option (Int32 × pv_M) := pv_cap (f_X9_isAnyVoter a1 M) (fun x1 => pv_jn (f_X9_contract_J44 M a5 a6 a1 a2 a3 a4) (fun j1 => (if x1 = 0 then j1 0 else pv_cap (f_X9_isAnyVoter a2 M) (fun x10 => (if x10 = 0 then j1 0 else (if a1 = a2 then j1 0 else pv_cap (f_X9_in a3.toInt64 1 99 M) (fun x11 => (if x11 = 0 then j1 0 else pv_cap (f_X9_isUnit a4 M) (fun x12 => (if x12 = 0 then j1 0 else j1 1))))))))))
set_option maxHeartbeats 4000000 in
set_option maxRecDepth 100000 in
theorem k_X9_contract (l : Launch) (κ : pv_K) (a1 : Int32) (a2 : Int32) (a3 : Int32) (a4 : Int32) (a5 : Int32) (a6 : Int32) (M : pv_M) : pv_Mt l yX9_contract cX9_contract 9 (some .int) 2 κ [.ref (κ.1 + 196), .int a1, .int a2, .int a3, .int a4, .int a5, .int a6] M pv_ji (f_X9_contract a1 a2 a3 a4 a5 a6 M) := by
  refine pv_enter (by decide +kernel) (Nat.le_of_ble_eq_true rfl) (fun g hl hR C => ?_)
  have C : pv_Ok g κ 9 cX9_contract RX9 (some .int) := C
  show pv_R g κ pv_T pv_RF 9 0 0 (pv_QF g κ pv_ji) 0 [(0, .ref (κ.1 + 196)), (1, .int a1), (2, .int a2), (3, .int a3), (4, .int a4), (5, .int a5), (6, .int a6)] [] M (f_X9_contract a1 a2 a3 a4 a5 a6 M)
  unfold f_X9_contract
  refine rw_iload_n C dX9_contract_0 rfl 1 rfl ?_
  refine rw_callSPi (As := [.int a1]) C hR dX9_contract_1 cs_X9_160 (k_X9_isAnyVoter g.2.1 κ a1 M) (by decide) (by decide) rfl (Nat.le_of_ble_eq_true rfl) rfl (fun x1 => ?_)
  refine rw_jn (fun j1 => ∀ (x2 : Int32), pv_R g κ pv_T pv_RF 9 0 0 (pv_QF g κ pv_ji) 44 [(0, .ref (κ.1 + 196)), (1, .int a1), (2, .int a2), (3, .int a3), (4, .int a4), (5, .int a5), (6, .int a6)] [.int x2] M (j1 x2)) (fun x2 => ?_) (fun j1 hj1 => ?_)
  · unfold f_X9_contract_J44
    refine rw_istore (lv' := [(7, .int x2), (0, .ref (κ.1 + 196)), (1, .int a1), (2, .int a2), (3, .int a3), (4, .int a4), (5, .int a5), (6, .int a6)]) C dX9_contract_44 (by decide) rfl ?_
    refine rw_iload C dX9_contract_46 0 rfl ?_
    refine rw_if_eq (tgt := 76) C dX9_contract_48 (by decide) ?_ ?_
    · refine rw_bipush (c := (-2)) C dX9_contract_76 (by decide) ?_
      exact rw_iret C dX9_contract_78
    · refine rw_iload C dX9_contract_51 6 rfl ?_
      refine rw_callSPi (As := [.int a5]) C hR dX9_contract_53 cs_X9_165 (k_X9_isYear g.2.1 κ a5 M) (by decide) (by decide) rfl (Nat.le_of_ble_eq_true rfl) rfl (fun x3 => ?_)
      refine rw_if_eq (tgt := 76) C dX9_contract_56 (by decide) ?_ ?_
      · refine rw_bipush (c := (-2)) C dX9_contract_76 (by decide) ?_
        exact rw_iret C dX9_contract_78
      · refine rw_iload C dX9_contract_59 7 rfl ?_
        refine rw_i2l C dX9_contract_61 ?_
        refine rw_iload C dX9_contract_62 6 rfl ?_
        refine rw_iconst (c := 1) C dX9_contract_64 ci_1 ?_
        refine rw_iadd C dX9_contract_65 ?_
        refine rw_i2l C dX9_contract_66 ?_
        refine rw_ldc2_w (c := 9) C dX9_contract_67 mw_362 ?_
        refine rw_callSPi (As := [.long (a6.toInt64), .long ((a5 + 1).toInt64), .long 9]) C hR dX9_contract_70 cs_X9_88 (k_X9_in g.2.1 κ a6.toInt64 ((a5 + 1).toInt64) 9 M) (by decide) (by decide) rfl (Nat.le_of_ble_eq_true rfl) rfl (fun x4 => ?_)
        refine rw_if_ne (tgt := 79) C dX9_contract_73 (by decide) ?_ ?_
        · refine rw_aload_n C dX9_contract_79 rfl 1 rfl ?_
          refine rw_getI (k0 := 196) C dX9_contract_80 fl_X9_217 rfl (by decide) sh_196 (by decide) (fun x5 => ?_)
          refine rw_bipush (c := 8) C dX9_contract_83 (by decide) ?_
          refine rw_icmp_ne (tgt := 91) C dX9_contract_85 (by decide) ?_ ?_
          · refine rw_bipush (c := 6) C dX9_contract_91 (by decide) ?_
            refine rw_aload_n C dX9_contract_93 rfl 1 rfl ?_
            refine rw_getI (k0 := 196) C dX9_contract_94 fl_X9_217 rfl (by decide) sh_196 (by decide) (fun x6 => ?_)
            refine rw_imul C dX9_contract_97 ?_
            refine rw_nm (fun x7 => ?_)
            refine rw_istore (lv' := [(8, .int x7), (7, .int x2), (0, .ref (κ.1 + 196)), (1, .int a1), (2, .int a2), (3, .int a3), (4, .int a4), (5, .int a5), (6, .int a6)]) C dX9_contract_98 (by decide) rfl ?_
            refine rw_aload_n C dX9_contract_100 rfl 2 rfl ?_
            refine rw_getR (k0 := 196) (k1 := 211) C dX9_contract_101 fl_X9_52 rfl (by decide) sh_196 (by decide) rfl ?_
            refine rw_iload C dX9_contract_104 0 rfl ?_
            refine rw_iload_n C dX9_contract_106 rfl 3 rfl ?_
            refine rw_stI C dX9_contract_107 (fun M1 => ?_)
            refine rw_aload_n C dX9_contract_108 rfl 2 rfl ?_
            refine rw_getR (k0 := 196) (k1 := 211) C dX9_contract_109 fl_X9_52 rfl (by decide) sh_196 (by decide) rfl ?_
            refine rw_iload C dX9_contract_112 0 rfl ?_
            refine rw_iconst (c := 1) C dX9_contract_114 ci_1 ?_
            refine rw_iadd C dX9_contract_115 ?_
            refine rw_iload_n C dX9_contract_116 rfl 4 rfl ?_
            refine rw_stI C dX9_contract_117 (fun M2 => ?_)
            refine rw_aload_n C dX9_contract_118 rfl 2 rfl ?_
            refine rw_getR (k0 := 196) (k1 := 211) C dX9_contract_119 fl_X9_52 rfl (by decide) sh_196 (by decide) rfl ?_
            refine rw_iload C dX9_contract_122 0 rfl ?_
            refine rw_iconst (c := 2) C dX9_contract_124 ci_2 ?_
            refine rw_iadd C dX9_contract_125 ?_
            refine rw_iload_n C dX9_contract_126 rfl 5 rfl ?_
            refine rw_stI C dX9_contract_127 (fun M3 => ?_)
            refine rw_aload_n C dX9_contract_128 rfl 2 rfl ?_
            refine rw_getR (k0 := 196) (k1 := 211) C dX9_contract_129 fl_X9_52 rfl (by decide) sh_196 (by decide) rfl ?_
            refine rw_iload C dX9_contract_132 0 rfl ?_
            refine rw_iconst (c := 3) C dX9_contract_134 ci_3 ?_
            refine rw_iadd C dX9_contract_135 ?_
            refine rw_iload C dX9_contract_136 6 rfl ?_
            refine rw_stI C dX9_contract_138 (fun M4 => ?_)
            refine rw_aload_n C dX9_contract_139 rfl 2 rfl ?_
            refine rw_getR (k0 := 196) (k1 := 211) C dX9_contract_140 fl_X9_52 rfl (by decide) sh_196 (by decide) rfl ?_
            refine rw_iload C dX9_contract_143 0 rfl ?_
            refine rw_iconst (c := 4) C dX9_contract_145 ci_4 ?_
            refine rw_iadd C dX9_contract_146 ?_
            refine rw_iload C dX9_contract_147 7 rfl ?_
            refine rw_stI C dX9_contract_149 (fun M5 => ?_)
            refine rw_aload_n C dX9_contract_150 rfl 2 rfl ?_
            refine rw_getR (k0 := 196) (k1 := 211) C dX9_contract_151 fl_X9_52 rfl (by decide) sh_196 (by decide) rfl ?_
            refine rw_iload C dX9_contract_154 0 rfl ?_
            refine rw_iconst (c := 5) C dX9_contract_156 ci_5 ?_
            refine rw_iadd C dX9_contract_157 ?_
            refine rw_iload C dX9_contract_158 8 rfl ?_
            refine rw_stI C dX9_contract_160 (fun M6 => ?_)
            refine rw_aload_n C dX9_contract_161 rfl 2 rfl ?_
            refine rw_dup C dX9_contract_162 rfl ?_
            refine rw_getI (k0 := 196) C dX9_contract_163 fl_X9_217 rfl (by decide) sh_196 (by decide) (fun x8 => ?_)
            refine rw_iconst (c := 1) C dX9_contract_166 ci_1 ?_
            refine rw_iadd C dX9_contract_167 ?_
            refine rw_put (k0 := 196) C dX9_contract_168 fl_X9_217 ff_X9_17 rfl rfl rfl (by decide) sh_196 (by decide) (fun M7 => ?_)
            refine rw_aload_n C dX9_contract_171 rfl 2 rfl ?_
            refine rw_getI (k0 := 196) C dX9_contract_172 fl_X9_217 rfl (by decide) sh_196 (by decide) (fun x9 => ?_)
            exact rw_iret C dX9_contract_175
          · refine rw_bipush (c := (-4)) C dX9_contract_88 (by decide) ?_
            exact rw_iret C dX9_contract_90
        · refine rw_bipush (c := (-2)) C dX9_contract_76 (by decide) ?_
          exact rw_iret C dX9_contract_78
  · refine rw_if_eq (tgt := 43) C dX9_contract_4 (by decide) ?_ ?_
    · refine rw_iconst (c := 0) C dX9_contract_43 ci_0 ?_
      exact hj1 0
    · refine rw_iload_n C dX9_contract_7 rfl 2 rfl ?_
      refine rw_callSPi (As := [.int a2]) C hR dX9_contract_8 cs_X9_160 (k_X9_isAnyVoter g.2.1 κ a2 M) (by decide) (by decide) rfl (Nat.le_of_ble_eq_true rfl) rfl (fun x10 => ?_)
      refine rw_if_eq (tgt := 43) C dX9_contract_11 (by decide) ?_ ?_
      · refine rw_iconst (c := 0) C dX9_contract_43 ci_0 ?_
        exact hj1 0
      · refine rw_iload_n C dX9_contract_14 rfl 1 rfl ?_
        refine rw_iload_n C dX9_contract_15 rfl 2 rfl ?_
        refine rw_icmp_eq (tgt := 43) C dX9_contract_16 (by decide) ?_ ?_
        · refine rw_iconst (c := 0) C dX9_contract_43 ci_0 ?_
          exact hj1 0
        · refine rw_iload_n C dX9_contract_19 rfl 3 rfl ?_
          refine rw_i2l C dX9_contract_20 ?_
          refine rw_lconst (c := 1) C dX9_contract_21 (by decide) ?_
          refine rw_ldc2_w (c := 99) C dX9_contract_22 mw_248 ?_
          refine rw_callSPi (As := [.long (a3.toInt64), .long 1, .long 99]) C hR dX9_contract_25 cs_X9_88 (k_X9_in g.2.1 κ a3.toInt64 1 99 M) (by decide) (by decide) rfl (Nat.le_of_ble_eq_true rfl) rfl (fun x11 => ?_)
          refine rw_if_eq (tgt := 43) C dX9_contract_28 (by decide) ?_ ?_
          · refine rw_iconst (c := 0) C dX9_contract_43 ci_0 ?_
            exact hj1 0
          · refine rw_iload C dX9_contract_31 4 rfl ?_
            refine rw_callSPi (As := [.int a4]) C hR dX9_contract_33 cs_X9_168 (k_X9_isUnit g.2.1 κ a4 M) (by decide) (by decide) rfl (Nat.le_of_ble_eq_true rfl) rfl (fun x12 => ?_)
            refine rw_if_eq (tgt := 43) C dX9_contract_36 (by decide) ?_ ?_
            · refine rw_iconst (c := 0) C dX9_contract_43 ci_0 ?_
              exact hj1 0
            · refine rw_iconst (c := 1) C dX9_contract_39 ci_1 ?_
              refine rw_goto (tgt := 44) C dX9_contract_40 (by decide) ?_
              exact hj1 1
def f_X9_paysBy (a1 : Int32) (a2 : Int32) (M : pv_M) : Option Int32 := pv_ldI pv_T 211 ((6 * a1) + 2) M (fun x1 => pv_ldI pv_T 211 ((6 * a1) + 3) M (fun x2 => pv_cap (f_X9_greatOf a2 x2 M) (fun x3 => some (x1 * x3))))
set_option maxHeartbeats 4000000 in
set_option maxRecDepth 100000 in
theorem k_X9_paysBy (l : Launch) (κ : pv_K) (a1 : Int32) (a2 : Int32) (M : pv_M) : pv_MtP l yX9_paysBy cX9_paysBy 3 (some .int) 3 κ [.ref (κ.1 + 196), .int a1, .int a2] M pv_ji (f_X9_paysBy a1 a2 M) := by
  refine pv_enterP (by decide +kernel) (Nat.le_of_ble_eq_true rfl) (fun g hl hR C => ?_)
  have C : pv_Ok g κ 3 cX9_paysBy RX9 (some .int) := C
  show pv_R g κ pv_T pv_RF 3 0 0 (pv_QP g κ pv_ji M) 0 [(0, .ref (κ.1 + 196)), (1, .int a1), (2, .int a2)] [] M (f_X9_paysBy a1 a2 M)
  unfold f_X9_paysBy
  refine rw_aload_n C dX9_paysBy_0 rfl 0 rfl ?_
  refine rw_getR (k0 := 196) (k1 := 211) C dX9_paysBy_1 fl_X9_52 rfl (by decide) sh_196 (by decide) rfl ?_
  refine rw_bipush (c := 6) C dX9_paysBy_4 (by decide) ?_
  refine rw_iload_n C dX9_paysBy_6 rfl 1 rfl ?_
  refine rw_imul C dX9_paysBy_7 ?_
  refine rw_iconst (c := 2) C dX9_paysBy_8 ci_2 ?_
  refine rw_iadd C dX9_paysBy_9 ?_
  refine rw_ldI C dX9_paysBy_10 (fun x1 => ?_)
  refine rw_aload_n C dX9_paysBy_11 rfl 0 rfl ?_
  refine rw_iload_n C dX9_paysBy_12 rfl 2 rfl ?_
  refine rw_aload_n C dX9_paysBy_13 rfl 0 rfl ?_
  refine rw_getR (k0 := 196) (k1 := 211) C dX9_paysBy_14 fl_X9_52 rfl (by decide) sh_196 (by decide) rfl ?_
  refine rw_bipush (c := 6) C dX9_paysBy_17 (by decide) ?_
  refine rw_iload_n C dX9_paysBy_19 rfl 1 rfl ?_
  refine rw_imul C dX9_paysBy_20 ?_
  refine rw_iconst (c := 3) C dX9_paysBy_21 ci_3 ?_
  refine rw_iadd C dX9_paysBy_22 ?_
  refine rw_ldI C dX9_paysBy_23 (fun x2 => ?_)
  refine rw_callVPi (As := [.int a2, .int x2]) (k0 := 196) C hR dX9_paysBy_24 cv_X9_210 (k_X9_greatOf g.2.1 κ a2 x2 M) (by decide) (by decide) (by decide) sh_196 rfl rfl (Nat.le_of_ble_eq_true rfl) rfl (fun x3 => ?_)
  refine rw_imul C dX9_paysBy_27 ?_
  exact rw_iretP C dX9_paysBy_28
def f_X9_pays (a1 : Int32) (M : pv_M) : Option Int32 := pv_ldI pv_T 205 1 M (fun x1 => pv_ldI pv_T 211 (((6 * a1) + 4) + x1) M (fun x2 => pv_cap (f_X9_paysBy a1 x2 M) (fun x3 => some x3)))
set_option maxHeartbeats 4000000 in
set_option maxRecDepth 100000 in
theorem k_X9_pays (l : Launch) (κ : pv_K) (a1 : Int32) (M : pv_M) : pv_MtP l yX9_pays cX9_pays 2 (some .int) 4 κ [.ref (κ.1 + 196), .int a1] M pv_ji (f_X9_pays a1 M) := by
  refine pv_enterP (by decide +kernel) (Nat.le_of_ble_eq_true rfl) (fun g hl hR C => ?_)
  have C : pv_Ok g κ 2 cX9_pays RX9 (some .int) := C
  show pv_R g κ pv_T pv_RF 2 0 0 (pv_QP g κ pv_ji M) 0 [(0, .ref (κ.1 + 196)), (1, .int a1)] [] M (f_X9_pays a1 M)
  unfold f_X9_pays
  refine rw_aload_n C dX9_pays_0 rfl 0 rfl ?_
  refine rw_iload_n C dX9_pays_1 rfl 1 rfl ?_
  refine rw_aload_n C dX9_pays_2 rfl 0 rfl ?_
  refine rw_getR (k0 := 196) (k1 := 211) C dX9_pays_3 fl_X9_52 rfl (by decide) sh_196 (by decide) rfl ?_
  refine rw_bipush (c := 6) C dX9_pays_6 (by decide) ?_
  refine rw_iload_n C dX9_pays_8 rfl 1 rfl ?_
  refine rw_imul C dX9_pays_9 ?_
  refine rw_iconst (c := 4) C dX9_pays_10 ci_4 ?_
  refine rw_iadd C dX9_pays_11 ?_
  refine rw_aload_n C dX9_pays_12 rfl 0 rfl ?_
  refine rw_getR (k0 := 196) (k1 := 205) C dX9_pays_13 fl_X9_34 rfl (by decide) sh_196 (by decide) rfl ?_
  refine rw_iconst (c := 1) C dX9_pays_16 ci_1 ?_
  refine rw_ldI C dX9_pays_17 (fun x1 => ?_)
  refine rw_iadd C dX9_pays_18 ?_
  refine rw_ldI C dX9_pays_19 (fun x2 => ?_)
  refine rw_callVPi (As := [.int a1, .int x2]) (k0 := 196) C hR dX9_pays_20 cv_X9_220 (k_X9_paysBy g.2.1 κ a1 x2 M) (by decide) (by decide) (by decide) sh_196 rfl rfl (Nat.le_of_ble_eq_true rfl) rfl (fun x3 => ?_)
  exact rw_iretP C dX9_pays_23
def f_X9_moneyOf_L10 (M : pv_M) (a2 : Int32) (a1 : Int32) (rec1 : Int32 → Int32 → Option Int32) (x2 : Int32) (x3 : Int32) : Option Int32 := pv_nm (M.1 196 17) (fun x4 => (if x4 ≤ x3 then some x2 else pv_ldI pv_T 211 ((6 * x3) + 5) M (fun x5 => (if a2 < x5 then rec1 x2 (x3 + 1) else pv_ldI pv_T 211 (6 * x3) M (fun x6 => pv_jn (fun (x7 : Int32) => pv_nm (x2 - x7) (fun x8 => pv_ldI pv_T 211 ((6 * x3) + 1) M (fun x9 => pv_jn (fun (x10 : Int32) => pv_nm (x8 + x10) (fun x11 => rec1 x11 (x3 + 1))) (fun j2 => (if x9 = a1 then pv_cap (f_X9_pays x3 M) (fun x12 => j2 x12) else j2 0))))) (fun j1 => (if x6 = a1 then pv_cap (f_X9_pays x3 M) (fun x13 => j1 x13) else j1 0)))))))
def f_X9_moneyOf (a1 : Int32) (a2 : Int32) (M : pv_M) : Option Int32 := pv_ldI pv_T 206 a1 M (fun x1 => pv_lp2 (f_X9_moneyOf_L10 M a2 a1) pv_FU x1 0)
set_option maxHeartbeats 4000000 in
set_option maxRecDepth 100000 in
theorem k_X9_moneyOf (l : Launch) (κ : pv_K) (a1 : Int32) (a2 : Int32) (M : pv_M) : pv_MtP l yX9_moneyOf cX9_moneyOf 5 (some .int) 5 κ [.ref (κ.1 + 196), .int a1, .int a2] M pv_ji (f_X9_moneyOf a1 a2 M) := by
  refine pv_enterP (by decide +kernel) (Nat.le_of_ble_eq_true rfl) (fun g hl hR C => ?_)
  have C : pv_Ok g κ 5 cX9_moneyOf RX9 (some .int) := C
  show pv_R g κ pv_T pv_RF 5 0 0 (pv_QP g κ pv_ji M) 0 [(0, .ref (κ.1 + 196)), (1, .int a1), (2, .int a2)] [] M (f_X9_moneyOf a1 a2 M)
  unfold f_X9_moneyOf
  refine rw_aload_n C dX9_moneyOf_0 rfl 0 rfl ?_
  refine rw_getR (k0 := 196) (k1 := 206) C dX9_moneyOf_1 fl_X9_37 rfl (by decide) sh_196 (by decide) rfl ?_
  refine rw_iload_n C dX9_moneyOf_4 rfl 1 rfl ?_
  refine rw_ldI C dX9_moneyOf_5 (fun x1 => ?_)
  refine rw_istore_n (lv' := [(3, .int x1), (0, .ref (κ.1 + 196)), (1, .int a1), (2, .int a2)]) C dX9_moneyOf_6 rfl (by decide) rfl ?_
  refine rw_iconst (c := 0) C dX9_moneyOf_7 ci_0 ?_
  refine rw_istore (lv' := [(4, .int 0), (3, .int x1), (0, .ref (κ.1 + 196)), (1, .int a1), (2, .int a2)]) C dX9_moneyOf_8 (by decide) rfl ?_
  refine rw_lv (lv' := [(0, .ref (κ.1 + 196)), (1, .int a1), (2, .int a2), (3, .int x1), (4, .int 0)]) [2, 3, 4, 1, 0] rfl ?_
  refine pv_lp2_ind (fun x2 x3 xx => pv_R g κ pv_T pv_RF 5 0 0 (pv_QP g κ pv_ji M) 10 [(0, .ref (κ.1 + 196)), (1, .int a1), (2, .int a2), (3, .int x2), (4, .int x3)] [] M xx) (fun _ _ => rw_none) (fun rec1 hrec1 x2 x3 => ?_) _ _ _
  unfold f_X9_moneyOf_L10
  refine rw_iload C dX9_moneyOf_10 4 rfl ?_
  refine rw_aload_n C dX9_moneyOf_12 rfl 0 rfl ?_
  refine rw_getI (k0 := 196) C dX9_moneyOf_13 fl_X9_217 rfl (by decide) sh_196 (by decide) (fun x4 => ?_)
  refine rw_icmp_ge (tgt := 97) C dX9_moneyOf_16 (by decide) ?_ ?_
  · refine rw_iload_n C dX9_moneyOf_97 rfl 3 rfl ?_
    exact rw_iretP C dX9_moneyOf_98
  · refine rw_aload_n C dX9_moneyOf_19 rfl 0 rfl ?_
    refine rw_getR (k0 := 196) (k1 := 211) C dX9_moneyOf_20 fl_X9_52 rfl (by decide) sh_196 (by decide) rfl ?_
    refine rw_bipush (c := 6) C dX9_moneyOf_23 (by decide) ?_
    refine rw_iload C dX9_moneyOf_25 4 rfl ?_
    refine rw_imul C dX9_moneyOf_27 ?_
    refine rw_iconst (c := 5) C dX9_moneyOf_28 ci_5 ?_
    refine rw_iadd C dX9_moneyOf_29 ?_
    refine rw_ldI C dX9_moneyOf_30 (fun x5 => ?_)
    refine rw_iload_n C dX9_moneyOf_31 rfl 2 rfl ?_
    refine rw_icmp_gt (tgt := 91) C dX9_moneyOf_32 (by decide) ?_ ?_
    · refine rw_iinc (c := 1) (lv' := [(4, .int (x3 + 1)), (0, .ref (κ.1 + 196)), (1, .int a1), (2, .int a2), (3, .int x2)]) C dX9_moneyOf_91 4 rfl (by decide) (by decide) rfl ?_
      refine rw_goto (tgt := 10) C dX9_moneyOf_94 (by decide) ?_
      exact rw_lv [1, 2, 3, 4, 0] rfl (hrec1 x2 (x3 + 1))
    · refine rw_iload_n C dX9_moneyOf_35 rfl 3 rfl ?_
      refine rw_aload_n C dX9_moneyOf_36 rfl 0 rfl ?_
      refine rw_getR (k0 := 196) (k1 := 211) C dX9_moneyOf_37 fl_X9_52 rfl (by decide) sh_196 (by decide) rfl ?_
      refine rw_bipush (c := 6) C dX9_moneyOf_40 (by decide) ?_
      refine rw_iload C dX9_moneyOf_42 4 rfl ?_
      refine rw_imul C dX9_moneyOf_44 ?_
      refine rw_ldI C dX9_moneyOf_45 (fun x6 => ?_)
      refine rw_iload_n C dX9_moneyOf_46 rfl 1 rfl ?_
      refine rw_jn (fun j1 => ∀ (x7 : Int32), pv_R g κ pv_T pv_RF 5 0 0 (pv_QP g κ pv_ji M) 60 [(0, .ref (κ.1 + 196)), (1, .int a1), (2, .int a2), (4, .int x3)] [.int x7, .int x2] M (j1 x7)) (fun x7 => ?_) (fun j1 hj1 => ?_)
      · refine rw_isub C dX9_moneyOf_60 ?_
        refine rw_nm (fun x8 => ?_)
        refine rw_istore_n (lv' := [(3, .int x8), (0, .ref (κ.1 + 196)), (1, .int a1), (2, .int a2), (4, .int x3)]) C dX9_moneyOf_61 rfl (by decide) rfl ?_
        refine rw_iload_n C dX9_moneyOf_62 rfl 0 rfl ?_
        refine rw_aload_n C dX9_moneyOf_63 rfl 1 rfl ?_
        refine rw_getR (k0 := 196) (k1 := 211) C dX9_moneyOf_64 fl_X9_52 rfl (by decide) sh_196 (by decide) rfl ?_
        refine rw_bipush (c := 6) C dX9_moneyOf_67 (by decide) ?_
        refine rw_iload C dX9_moneyOf_69 4 rfl ?_
        refine rw_imul C dX9_moneyOf_71 ?_
        refine rw_iconst (c := 1) C dX9_moneyOf_72 ci_1 ?_
        refine rw_iadd C dX9_moneyOf_73 ?_
        refine rw_ldI C dX9_moneyOf_74 (fun x9 => ?_)
        refine rw_iload_n C dX9_moneyOf_75 rfl 2 rfl ?_
        refine rw_jn (fun j2 => ∀ (x10 : Int32), pv_R g κ pv_T pv_RF 5 0 0 (pv_QP g κ pv_ji M) 89 [(0, .ref (κ.1 + 196)), (1, .int a1), (2, .int a2), (4, .int x3)] [.int x10, .int x8] M (j2 x10)) (fun x10 => ?_) (fun j2 hj2 => ?_)
        · refine rw_iadd C dX9_moneyOf_89 ?_
          refine rw_nm (fun x11 => ?_)
          refine rw_istore_n (lv' := [(3, .int x11), (0, .ref (κ.1 + 196)), (1, .int a1), (2, .int a2), (4, .int x3)]) C dX9_moneyOf_90 rfl (by decide) rfl ?_
          refine rw_iinc (c := 1) (lv' := [(4, .int (x3 + 1)), (3, .int x11), (0, .ref (κ.1 + 196)), (1, .int a1), (2, .int a2)]) C dX9_moneyOf_91 4 rfl (by decide) (by decide) rfl ?_
          refine rw_goto (tgt := 10) C dX9_moneyOf_94 (by decide) ?_
          exact rw_lv [2, 3, 4, 1, 0] rfl (hrec1 x11 (x3 + 1))
        · refine rw_icmp_ne (tgt := 88) C dX9_moneyOf_76 (by decide) ?_ ?_
          · refine rw_iconst (c := 0) C dX9_moneyOf_88 ci_0 ?_
            exact rw_lv [1, 2, 3, 4] rfl (hj2 0)
          · refine rw_aload_n C dX9_moneyOf_79 rfl 1 rfl ?_
            refine rw_iload C dX9_moneyOf_80 4 rfl ?_
            refine rw_callVPi (As := [.int x3]) (k0 := 196) C hR dX9_moneyOf_82 cv_X9_223 (k_X9_pays g.2.1 κ x3 M) (by decide) (by decide) (by decide) sh_196 rfl rfl (Nat.le_of_ble_eq_true rfl) rfl (fun x12 => ?_)
            refine rw_goto (tgt := 89) C dX9_moneyOf_85 (by decide) ?_
            exact rw_lv [1, 2, 3, 4] rfl (hj2 x12)
      · refine rw_icmp_ne (tgt := 59) C dX9_moneyOf_47 (by decide) ?_ ?_
        · refine rw_iconst (c := 0) C dX9_moneyOf_59 ci_0 ?_
          exact rw_lv [0, 1, 2, 4] rfl (hj1 0)
        · refine rw_aload_n C dX9_moneyOf_50 rfl 0 rfl ?_
          refine rw_iload C dX9_moneyOf_51 4 rfl ?_
          refine rw_callVPi (As := [.int x3]) (k0 := 196) C hR dX9_moneyOf_53 cv_X9_223 (k_X9_pays g.2.1 κ x3 M) (by decide) (by decide) (by decide) sh_196 rfl rfl (Nat.le_of_ble_eq_true rfl) rfl (fun x13 => ?_)
          refine rw_goto (tgt := 60) C dX9_moneyOf_56 (by decide) ?_
          exact rw_lv [0, 1, 2, 4] rfl (hj1 x13)
def f_X9_money (a1 : Int32) (a2 : Int32) (M : pv_M) : Option (Int32 × pv_M) := pv_cal (f_X9_livesNow M) (fun u1 M1 => pv_cap (f_X9_isAnyVoter a1 M1) (fun x1 => pv_jn (some ((-100002), M1)) (fun j1 => (if x1 = 0 then j1 else pv_cap (f_X9_isYear a2 M1) (fun x2 => (if x2 = 0 then j1 else pv_cap (f_X9_moneyOf a1 a2 M1) (fun x3 => some (x3, M1))))))))
set_option maxHeartbeats 4000000 in
set_option maxRecDepth 100000 in
theorem k_X9_money (l : Launch) (κ : pv_K) (a1 : Int32) (a2 : Int32) (M : pv_M) : pv_Mt l yX9_money cX9_money 3 (some .int) 7 κ [.ref (κ.1 + 196), .int a1, .int a2] M pv_ji (f_X9_money a1 a2 M) := by
  refine pv_enter (by decide +kernel) (Nat.le_of_ble_eq_true rfl) (fun g hl hR C => ?_)
  have C : pv_Ok g κ 3 cX9_money RX9 (some .int) := C
  show pv_R g κ pv_T pv_RF 3 0 0 (pv_QF g κ pv_ji) 0 [(0, .ref (κ.1 + 196)), (1, .int a1), (2, .int a2)] [] M (f_X9_money a1 a2 M)
  unfold f_X9_money
  refine rw_aload_n C dX9_money_0 rfl 0 rfl ?_
  refine rw_callVu (As := []) (k0 := 196) C hR dX9_money_1 cv_X9_207 (k_X9_livesNow g.2.1 κ M) (by decide) (by decide) (by decide) sh_196 rfl rfl (Nat.le_of_ble_eq_true rfl) rfl (fun u1 M1 => ?_)
  refine rw_iload_n C dX9_money_4 rfl 1 rfl ?_
  refine rw_callSPi (As := [.int a1]) C hR dX9_money_5 cs_X9_160 (k_X9_isAnyVoter g.2.1 κ a1 M1) (by decide) (by decide) rfl (Nat.le_of_ble_eq_true rfl) rfl (fun x1 => ?_)
  refine rw_jn (fun j1 => pv_R g κ pv_T pv_RF 3 0 0 (pv_QF g κ pv_ji) 27 [] [] M1 (j1)) (?_) (fun j1 hj1 => ?_)
  · refine rw_ldc (c := (-100002)) C dX9_money_27 mw_575 ?_
    exact rw_iret C dX9_money_29
  · refine rw_if_eq (tgt := 27) C dX9_money_8 (by decide) ?_ ?_
    · exact rw_lv [] rfl (hj1 )
    · refine rw_iload_n C dX9_money_11 rfl 2 rfl ?_
      refine rw_callSPi (As := [.int a2]) C hR dX9_money_12 cs_X9_165 (k_X9_isYear g.2.1 κ a2 M1) (by decide) (by decide) rfl (Nat.le_of_ble_eq_true rfl) rfl (fun x2 => ?_)
      refine rw_if_eq (tgt := 27) C dX9_money_15 (by decide) ?_ ?_
      · exact rw_lv [] rfl (hj1 )
      · refine rw_aload_n C dX9_money_18 rfl 0 rfl ?_
        refine rw_iload_n C dX9_money_19 rfl 1 rfl ?_
        refine rw_iload_n C dX9_money_20 rfl 2 rfl ?_
        refine rw_callVPi (As := [.int a1, .int a2]) (k0 := 196) C hR dX9_money_21 cv_X9_226 (k_X9_moneyOf g.2.1 κ a1 a2 M1) (by decide) (by decide) (by decide) sh_196 rfl rfl (Nat.le_of_ble_eq_true rfl) rfl (fun x3 => ?_)
        refine rw_goto (tgt := 29) C dX9_money_24 (by decide) ?_
        exact rw_iret C dX9_money_29
def f_X9_ruinedOf_L36 (rec1 : Int32 → pv_M → Option (Int32 × pv_M)) (x3 : Int32) (j2 : Int32 → Int32 → pv_M → Option (Int32 × pv_M)) (rec2 : Int32 → pv_M → Option (Int32 × pv_M)) (x4 : Int32) (M4 : pv_M) : Option (Int32 × pv_M) := pv_nm (M4.1 196 17) (fun x5 => (if x5 ≤ x4 then rec1 (x3 + 1) M4 else pv_ldI pv_T 211 ((6 * x4) + 5) M4 (fun x6 => (if x6 = x3 then pv_ldI pv_T 211 (6 * x4) M4 (fun x7 => pv_ldI pv_T 212 x7 M4 (fun x8 => pv_cap (f_X9_pays x4 M4) (fun x9 => pv_stI pv_T 212 x7 (x8 - x9) M4 (fun M5 => pv_ldI pv_T 211 ((6 * x4) + 1) M5 (fun x10 => pv_ldI pv_T 212 x10 M5 (fun x11 => pv_cap (f_X9_pays x4 M5) (fun x12 => pv_stI pv_T 212 x10 (x11 + x12) M5 (fun M6 => pv_ldI pv_T 212 x7 M6 (fun x13 => (if 0 ≤ x13 then rec2 (x4 + 1) M6 else j2 x3 x7 M6)))))))))) else rec2 (x4 + 1) M4))))
def f_X9_ruinedOf_L28 (j2 : Int32 → Int32 → pv_M → Option (Int32 × pv_M)) (rec1 : Int32 → pv_M → Option (Int32 × pv_M)) (x3 : Int32) (M3 : pv_M) : Option (Int32 × pv_M) := (if 10 ≤ x3 then some ((-1), M3) else pv_lp2 (f_X9_ruinedOf_L36 rec1 x3 j2) pv_FU 0 M3)
def f_X9_ruinedOf_L2 (j1 : pv_M → Option (Int32 × pv_M)) (rec3 : Int32 → pv_M → Option (Int32 × pv_M)) (x14 : Int32) (M7 : pv_M) : Option (Int32 × pv_M) := (if 8 ≤ x14 then j1 M7 else pv_ldI pv_T 206 x14 M7 (fun x15 => pv_stI pv_T 212 x14 x15 M7 (fun M8 => rec3 (x14 + 1) M8)))
def f_X9_ruinedOf (a1 : Int32) (M : pv_M) : Option (Int32 × pv_M) := pv_jn (fun (M1 : pv_M) => pv_jn (fun (x1 : Int32) (x2 : Int32) (M2 : pv_M) => (if a1 = 0 then some (x2, M2) else some (x1, M2))) (fun j2 => pv_lp2 (f_X9_ruinedOf_L28 j2) pv_FU 0 M1)) (fun j1 => pv_lp2 (f_X9_ruinedOf_L2 j1) pv_FU 0 M)
set_option maxHeartbeats 4000000 in
set_option maxRecDepth 100000 in
theorem k_X9_ruinedOf (l : Launch) (κ : pv_K) (a1 : Int32) (M : pv_M) : pv_Mt l yX9_ruinedOf cX9_ruinedOf 5 (some .int) 5 κ [.ref (κ.1 + 196), .int a1] M pv_ji (f_X9_ruinedOf a1 M) := by
  refine pv_enter (by decide +kernel) (Nat.le_of_ble_eq_true rfl) (fun g hl hR C => ?_)
  have C : pv_Ok g κ 5 cX9_ruinedOf RX9 (some .int) := C
  show pv_R g κ pv_T pv_RF 5 0 0 (pv_QF g κ pv_ji) 0 [(0, .ref (κ.1 + 196)), (1, .int a1)] [] M (f_X9_ruinedOf a1 M)
  unfold f_X9_ruinedOf
  refine rw_iconst (c := 0) C dX9_ruinedOf_0 ci_0 ?_
  refine rw_istore_n (lv' := [(2, .int 0), (0, .ref (κ.1 + 196)), (1, .int a1)]) C dX9_ruinedOf_1 rfl (by decide) rfl ?_
  refine rw_jn (fun j1 => ∀ (M1 : pv_M), pv_R g κ pv_T pv_RF 5 0 0 (pv_QF g κ pv_ji) 26 [(0, .ref (κ.1 + 196)), (1, .int a1)] [] M1 (j1 M1)) (fun M1 => ?_) (fun j1 hj1 => ?_)
  · refine rw_iconst (c := 0) C dX9_ruinedOf_26 ci_0 ?_
    refine rw_istore_n (lv' := [(2, .int 0), (0, .ref (κ.1 + 196)), (1, .int a1)]) C dX9_ruinedOf_27 rfl (by decide) rfl ?_
    refine rw_jn (fun j2 => ∀ (x1 : Int32) (x2 : Int32) (M2 : pv_M), pv_R g κ pv_T pv_RF 5 0 0 (pv_QF g κ pv_ji) 119 [(1, .int a1), (2, .int x1), (4, .int x2)] [] M2 (j2 x1 x2 M2)) (fun x1 x2 M2 => ?_) (fun j2 hj2 => ?_)
    · refine rw_iload_n C dX9_ruinedOf_119 rfl 0 rfl ?_
      refine rw_if_ne (tgt := 128) C dX9_ruinedOf_120 (by decide) ?_ ?_
      · refine rw_iload_n C dX9_ruinedOf_128 rfl 1 rfl ?_
        exact rw_iret C dX9_ruinedOf_129
      · refine rw_iload C dX9_ruinedOf_123 2 rfl ?_
        refine rw_goto (tgt := 129) C dX9_ruinedOf_125 (by decide) ?_
        exact rw_iret C dX9_ruinedOf_129
    · refine rw_lv (lv' := [(0, .ref (κ.1 + 196)), (1, .int a1), (2, .int 0)]) [1, 2, 0] rfl ?_
      refine pv_lp2_ind (fun x3 M3 xx => pv_R g κ pv_T pv_RF 5 0 0 (pv_QF g κ pv_ji) 28 [(0, .ref (κ.1 + 196)), (1, .int a1), (2, .int x3)] [] M3 xx) (fun _ _ => rw_none) (fun rec1 hrec1 x3 M3 => ?_) _ _ _
      unfold f_X9_ruinedOf_L28
      refine rw_iload_n C dX9_ruinedOf_28 rfl 2 rfl ?_
      refine rw_bipush (c := 10) C dX9_ruinedOf_29 (by decide) ?_
      refine rw_icmp_ge (tgt := 142) C dX9_ruinedOf_31 (by decide) ?_ ?_
      · refine rw_iconst (c := (-1)) C dX9_ruinedOf_142 ci_m1 ?_
        exact rw_iret C dX9_ruinedOf_143
      · refine rw_iconst (c := 0) C dX9_ruinedOf_34 ci_0 ?_
        refine rw_istore_n (lv' := [(3, .int 0), (0, .ref (κ.1 + 196)), (1, .int a1), (2, .int x3)]) C dX9_ruinedOf_35 rfl (by decide) rfl ?_
        refine rw_lv (lv' := [(0, .ref (κ.1 + 196)), (1, .int a1), (2, .int x3), (3, .int 0)]) [1, 2, 3, 0] rfl ?_
        refine pv_lp2_ind (fun x4 M4 xx => pv_R g κ pv_T pv_RF 5 0 0 (pv_QF g κ pv_ji) 36 [(0, .ref (κ.1 + 196)), (1, .int a1), (2, .int x3), (3, .int x4)] [] M4 xx) (fun _ _ => rw_none) (fun rec2 hrec2 x4 M4 => ?_) _ _ _
        unfold f_X9_ruinedOf_L36
        refine rw_iload_n C dX9_ruinedOf_36 rfl 3 rfl ?_
        refine rw_aload_n C dX9_ruinedOf_37 rfl 0 rfl ?_
        refine rw_getI (k0 := 196) C dX9_ruinedOf_38 fl_X9_217 rfl (by decide) sh_196 (by decide) (fun x5 => ?_)
        refine rw_icmp_ge (tgt := 136) C dX9_ruinedOf_41 (by decide) ?_ ?_
        · refine rw_iinc (c := 1) (lv' := [(2, .int (x3 + 1)), (0, .ref (κ.1 + 196)), (1, .int a1), (3, .int x4)]) C dX9_ruinedOf_136 2 rfl (by decide) (by decide) rfl ?_
          refine rw_goto (tgt := 28) C dX9_ruinedOf_139 (by decide) ?_
          exact rw_lv [1, 2, 0] rfl (hrec1 (x3 + 1) M4)
        · refine rw_aload_n C dX9_ruinedOf_44 rfl 0 rfl ?_
          refine rw_getR (k0 := 196) (k1 := 211) C dX9_ruinedOf_45 fl_X9_52 rfl (by decide) sh_196 (by decide) rfl ?_
          refine rw_bipush (c := 6) C dX9_ruinedOf_48 (by decide) ?_
          refine rw_iload_n C dX9_ruinedOf_50 rfl 3 rfl ?_
          refine rw_imul C dX9_ruinedOf_51 ?_
          refine rw_iconst (c := 5) C dX9_ruinedOf_52 ci_5 ?_
          refine rw_iadd C dX9_ruinedOf_53 ?_
          refine rw_ldI C dX9_ruinedOf_54 (fun x6 => ?_)
          refine rw_iload_n C dX9_ruinedOf_55 rfl 2 rfl ?_
          refine rw_icmp_ne (tgt := 130) C dX9_ruinedOf_56 (by decide) ?_ ?_
          · refine rw_iinc (c := 1) (lv' := [(3, .int (x4 + 1)), (0, .ref (κ.1 + 196)), (1, .int a1), (2, .int x3)]) C dX9_ruinedOf_130 3 rfl (by decide) (by decide) rfl ?_
            refine rw_goto (tgt := 36) C dX9_ruinedOf_133 (by decide) ?_
            exact rw_lv [1, 2, 3, 0] rfl (hrec2 (x4 + 1) M4)
          · refine rw_aload_n C dX9_ruinedOf_59 rfl 0 rfl ?_
            refine rw_getR (k0 := 196) (k1 := 211) C dX9_ruinedOf_60 fl_X9_52 rfl (by decide) sh_196 (by decide) rfl ?_
            refine rw_bipush (c := 6) C dX9_ruinedOf_63 (by decide) ?_
            refine rw_iload_n C dX9_ruinedOf_65 rfl 3 rfl ?_
            refine rw_imul C dX9_ruinedOf_66 ?_
            refine rw_ldI C dX9_ruinedOf_67 (fun x7 => ?_)
            refine rw_istore (lv' := [(4, .int x7), (0, .ref (κ.1 + 196)), (1, .int a1), (2, .int x3), (3, .int x4)]) C dX9_ruinedOf_68 (by decide) rfl ?_
            refine rw_aload_n C dX9_ruinedOf_70 rfl 1 rfl ?_
            refine rw_getR (k0 := 196) (k1 := 212) C dX9_ruinedOf_71 fl_X9_55 rfl (by decide) sh_196 (by decide) rfl ?_
            refine rw_iload C dX9_ruinedOf_74 0 rfl ?_
            refine rw_dup2 C dX9_ruinedOf_76 rfl rfl ?_
            refine rw_ldI C dX9_ruinedOf_77 (fun x8 => ?_)
            refine rw_aload_n C dX9_ruinedOf_78 rfl 1 rfl ?_
            refine rw_iload_n C dX9_ruinedOf_79 rfl 4 rfl ?_
            refine rw_callVPi (As := [.int x4]) (k0 := 196) C hR dX9_ruinedOf_80 cv_X9_223 (k_X9_pays g.2.1 κ x4 M4) (by decide) (by decide) (by decide) sh_196 rfl rfl (Nat.le_of_ble_eq_true rfl) rfl (fun x9 => ?_)
            refine rw_isub C dX9_ruinedOf_83 ?_
            refine rw_stI C dX9_ruinedOf_84 (fun M5 => ?_)
            refine rw_aload_n C dX9_ruinedOf_85 rfl 1 rfl ?_
            refine rw_getR (k0 := 196) (k1 := 212) C dX9_ruinedOf_86 fl_X9_55 rfl (by decide) sh_196 (by decide) rfl ?_
            refine rw_aload_n C dX9_ruinedOf_89 rfl 1 rfl ?_
            refine rw_getR (k0 := 196) (k1 := 211) C dX9_ruinedOf_90 fl_X9_52 rfl (by decide) sh_196 (by decide) rfl ?_
            refine rw_bipush (c := 6) C dX9_ruinedOf_93 (by decide) ?_
            refine rw_iload_n C dX9_ruinedOf_95 rfl 4 rfl ?_
            refine rw_imul C dX9_ruinedOf_96 ?_
            refine rw_iconst (c := 1) C dX9_ruinedOf_97 ci_1 ?_
            refine rw_iadd C dX9_ruinedOf_98 ?_
            refine rw_ldI C dX9_ruinedOf_99 (fun x10 => ?_)
            refine rw_dup2 C dX9_ruinedOf_100 rfl rfl ?_
            refine rw_ldI C dX9_ruinedOf_101 (fun x11 => ?_)
            refine rw_aload_n C dX9_ruinedOf_102 rfl 1 rfl ?_
            refine rw_iload_n C dX9_ruinedOf_103 rfl 4 rfl ?_
            refine rw_callVPi (As := [.int x4]) (k0 := 196) C hR dX9_ruinedOf_104 cv_X9_223 (k_X9_pays g.2.1 κ x4 M5) (by decide) (by decide) (by decide) sh_196 rfl rfl (Nat.le_of_ble_eq_true rfl) rfl (fun x12 => ?_)
            refine rw_iadd C dX9_ruinedOf_107 ?_
            refine rw_stI C dX9_ruinedOf_108 (fun M6 => ?_)
            refine rw_aload_n C dX9_ruinedOf_109 rfl 1 rfl ?_
            refine rw_getR (k0 := 196) (k1 := 212) C dX9_ruinedOf_110 fl_X9_55 rfl (by decide) sh_196 (by decide) rfl ?_
            refine rw_iload C dX9_ruinedOf_113 0 rfl ?_
            refine rw_ldI C dX9_ruinedOf_115 (fun x13 => ?_)
            refine rw_if_ge (tgt := 130) C dX9_ruinedOf_116 (by decide) ?_ ?_
            · refine rw_iinc (c := 1) (lv' := [(3, .int (x4 + 1)), (4, .int x7), (0, .ref (κ.1 + 196)), (1, .int a1), (2, .int x3)]) C dX9_ruinedOf_130 4 rfl (by decide) (by decide) rfl ?_
              refine rw_goto (tgt := 36) C dX9_ruinedOf_133 (by decide) ?_
              exact rw_lv [2, 3, 4, 0] rfl (hrec2 (x4 + 1) M6)
            · exact rw_lv [2, 3, 0] rfl (hj2 x3 x7 M6)
  · refine rw_lv (lv' := [(0, .ref (κ.1 + 196)), (1, .int a1), (2, .int 0)]) [1, 2, 0] rfl ?_
    refine pv_lp2_ind (fun x14 M7 xx => pv_R g κ pv_T pv_RF 5 0 0 (pv_QF g κ pv_ji) 2 [(0, .ref (κ.1 + 196)), (1, .int a1), (2, .int x14)] [] M7 xx) (fun _ _ => rw_none) (fun rec3 hrec3 x14 M7 => ?_) _ _ _
    unfold f_X9_ruinedOf_L2
    refine rw_iload_n C dX9_ruinedOf_2 rfl 2 rfl ?_
    refine rw_bipush (c := 8) C dX9_ruinedOf_3 (by decide) ?_
    refine rw_icmp_ge (tgt := 26) C dX9_ruinedOf_5 (by decide) ?_ ?_
    · exact rw_lv [0, 1] rfl (hj1 M7)
    · refine rw_aload_n C dX9_ruinedOf_8 rfl 0 rfl ?_
      refine rw_getR (k0 := 196) (k1 := 212) C dX9_ruinedOf_9 fl_X9_55 rfl (by decide) sh_196 (by decide) rfl ?_
      refine rw_iload_n C dX9_ruinedOf_12 rfl 2 rfl ?_
      refine rw_aload_n C dX9_ruinedOf_13 rfl 0 rfl ?_
      refine rw_getR (k0 := 196) (k1 := 206) C dX9_ruinedOf_14 fl_X9_37 rfl (by decide) sh_196 (by decide) rfl ?_
      refine rw_iload_n C dX9_ruinedOf_17 rfl 2 rfl ?_
      refine rw_ldI C dX9_ruinedOf_18 (fun x15 => ?_)
      refine rw_stI C dX9_ruinedOf_19 (fun M8 => ?_)
      refine rw_iinc (c := 1) (lv' := [(2, .int (x14 + 1)), (0, .ref (κ.1 + 196)), (1, .int a1)]) C dX9_ruinedOf_20 2 rfl (by decide) (by decide) rfl ?_
      refine rw_goto (tgt := 2) C dX9_ruinedOf_23 (by decide) ?_
      exact rw_lv [1, 2, 0] rfl (hrec3 (x14 + 1) M8)
def f_X9_ruined (a1 : Int32) (M : pv_M) : Option (Int32 × pv_M) := pv_cal (f_X9_livesNow M) (fun u1 M1 => pv_cap (f_X9_isTwo a1 M1) (fun x1 => (if x1 = 0 then some ((-2), M1) else pv_cal (f_X9_ruinedOf a1 M1) (fun x2 M2 => some (x2, M2)))))
set_option maxHeartbeats 4000000 in
set_option maxRecDepth 100000 in
theorem k_X9_ruined (l : Launch) (κ : pv_K) (a1 : Int32) (M : pv_M) : pv_Mt l yX9_ruined cX9_ruined 2 (some .int) 7 κ [.ref (κ.1 + 196), .int a1] M pv_ji (f_X9_ruined a1 M) := by
  refine pv_enter (by decide +kernel) (Nat.le_of_ble_eq_true rfl) (fun g hl hR C => ?_)
  have C : pv_Ok g κ 2 cX9_ruined RX9 (some .int) := C
  show pv_R g κ pv_T pv_RF 2 0 0 (pv_QF g κ pv_ji) 0 [(0, .ref (κ.1 + 196)), (1, .int a1)] [] M (f_X9_ruined a1 M)
  unfold f_X9_ruined
  refine rw_aload_n C dX9_ruined_0 rfl 0 rfl ?_
  refine rw_callVu (As := []) (k0 := 196) C hR dX9_ruined_1 cv_X9_207 (k_X9_livesNow g.2.1 κ M) (by decide) (by decide) (by decide) sh_196 rfl rfl (Nat.le_of_ble_eq_true rfl) rfl (fun u1 M1 => ?_)
  refine rw_iload_n C dX9_ruined_4 rfl 1 rfl ?_
  refine rw_callSPi (As := [.int a1]) C hR dX9_ruined_5 cs_X9_157 (k_X9_isTwo g.2.1 κ a1 M1) (by decide) (by decide) rfl (Nat.le_of_ble_eq_true rfl) rfl (fun x1 => ?_)
  refine rw_if_eq (tgt := 19) C dX9_ruined_8 (by decide) ?_ ?_
  · refine rw_bipush (c := (-2)) C dX9_ruined_19 (by decide) ?_
    exact rw_iret C dX9_ruined_21
  · refine rw_aload_n C dX9_ruined_11 rfl 0 rfl ?_
    refine rw_iload_n C dX9_ruined_12 rfl 1 rfl ?_
    refine rw_callVi (As := [.int a1]) (k0 := 196) C hR dX9_ruined_13 cv_X9_230 (k_X9_ruinedOf g.2.1 κ a1 M1) (by decide) (by decide) (by decide) sh_196 rfl rfl (Nat.le_of_ble_eq_true rfl) rfl (fun x2 M2 => ?_)
    refine rw_goto (tgt := 21) C dX9_ruined_16 (by decide) ?_
    exact rw_iret C dX9_ruined_21
def f_X9_worstOf (a1 : Int32) (M : pv_M) : Option Int32 := pv_ldI pv_T 211 ((6 * a1) + 4) M (fun x1 => pv_cap (f_X9_paysBy a1 x1 M) (fun x2 => pv_ldI pv_T 211 ((6 * a1) + 5) M (fun x3 => pv_cap (f_X9_paysBy a1 x3 M) (fun x4 => pv_cap (f_X9_amount (x2 - x4) M) (fun x5 => some x5)))))
set_option maxHeartbeats 4000000 in
set_option maxRecDepth 100000 in
theorem k_X9_worstOf (l : Launch) (κ : pv_K) (a1 : Int32) (M : pv_M) : pv_MtP l yX9_worstOf cX9_worstOf 2 (some .int) 4 κ [.ref (κ.1 + 196), .int a1] M pv_ji (f_X9_worstOf a1 M) := by
  refine pv_enterP (by decide +kernel) (Nat.le_of_ble_eq_true rfl) (fun g hl hR C => ?_)
  have C : pv_Ok g κ 2 cX9_worstOf RX9 (some .int) := C
  show pv_R g κ pv_T pv_RF 2 0 0 (pv_QP g κ pv_ji M) 0 [(0, .ref (κ.1 + 196)), (1, .int a1)] [] M (f_X9_worstOf a1 M)
  unfold f_X9_worstOf
  refine rw_aload_n C dX9_worstOf_0 rfl 0 rfl ?_
  refine rw_iload_n C dX9_worstOf_1 rfl 1 rfl ?_
  refine rw_aload_n C dX9_worstOf_2 rfl 0 rfl ?_
  refine rw_getR (k0 := 196) (k1 := 211) C dX9_worstOf_3 fl_X9_52 rfl (by decide) sh_196 (by decide) rfl ?_
  refine rw_bipush (c := 6) C dX9_worstOf_6 (by decide) ?_
  refine rw_iload_n C dX9_worstOf_8 rfl 1 rfl ?_
  refine rw_imul C dX9_worstOf_9 ?_
  refine rw_iconst (c := 4) C dX9_worstOf_10 ci_4 ?_
  refine rw_iadd C dX9_worstOf_11 ?_
  refine rw_ldI C dX9_worstOf_12 (fun x1 => ?_)
  refine rw_callVPi (As := [.int a1, .int x1]) (k0 := 196) C hR dX9_worstOf_13 cv_X9_220 (k_X9_paysBy g.2.1 κ a1 x1 M) (by decide) (by decide) (by decide) sh_196 rfl rfl (Nat.le_of_ble_eq_true rfl) rfl (fun x2 => ?_)
  refine rw_aload_n C dX9_worstOf_16 rfl 0 rfl ?_
  refine rw_iload_n C dX9_worstOf_17 rfl 1 rfl ?_
  refine rw_aload_n C dX9_worstOf_18 rfl 0 rfl ?_
  refine rw_getR (k0 := 196) (k1 := 211) C dX9_worstOf_19 fl_X9_52 rfl (by decide) sh_196 (by decide) rfl ?_
  refine rw_bipush (c := 6) C dX9_worstOf_22 (by decide) ?_
  refine rw_iload_n C dX9_worstOf_24 rfl 1 rfl ?_
  refine rw_imul C dX9_worstOf_25 ?_
  refine rw_iconst (c := 5) C dX9_worstOf_26 ci_5 ?_
  refine rw_iadd C dX9_worstOf_27 ?_
  refine rw_ldI C dX9_worstOf_28 (fun x3 => ?_)
  refine rw_callVPi (As := [.int a1, .int x3]) (k0 := 196) C hR dX9_worstOf_29 cv_X9_220 (k_X9_paysBy g.2.1 κ a1 x3 M) (by decide) (by decide) (by decide) sh_196 rfl rfl (Nat.le_of_ble_eq_true rfl) rfl (fun x4 => ?_)
  refine rw_isub C dX9_worstOf_32 ?_
  refine rw_callSPi (As := [.int (x2 - x4)]) C hR dX9_worstOf_33 cs_X9_233 (k_X9_amount g.2.1 κ (x2 - x4) M) (by decide) (by decide) rfl (Nat.le_of_ble_eq_true rfl) rfl (fun x5 => ?_)
  exact rw_iretP C dX9_worstOf_36
def f_X9_worst (a1 : Int32) (M : pv_M) : Option (Int32 × pv_M) := pv_cal (f_X9_livesNow M) (fun u1 M1 => pv_nm (M1.1 196 17) (fun x1 => pv_cap (f_X9_in a1.toInt64 0 ((x1 - 1).toInt64) M1) (fun x2 => (if x2 = 0 then some ((-2), M1) else pv_cap (f_X9_worstOf a1 M1) (fun x3 => some (x3, M1))))))
set_option maxHeartbeats 4000000 in
set_option maxRecDepth 100000 in
theorem k_X9_worst (l : Launch) (κ : pv_K) (a1 : Int32) (M : pv_M) : pv_Mt l yX9_worst cX9_worst 2 (some .int) 7 κ [.ref (κ.1 + 196), .int a1] M pv_ji (f_X9_worst a1 M) := by
  refine pv_enter (by decide +kernel) (Nat.le_of_ble_eq_true rfl) (fun g hl hR C => ?_)
  have C : pv_Ok g κ 2 cX9_worst RX9 (some .int) := C
  show pv_R g κ pv_T pv_RF 2 0 0 (pv_QF g κ pv_ji) 0 [(0, .ref (κ.1 + 196)), (1, .int a1)] [] M (f_X9_worst a1 M)
  unfold f_X9_worst
  refine rw_aload_n C dX9_worst_0 rfl 0 rfl ?_
  refine rw_callVu (As := []) (k0 := 196) C hR dX9_worst_1 cv_X9_207 (k_X9_livesNow g.2.1 κ M) (by decide) (by decide) (by decide) sh_196 rfl rfl (Nat.le_of_ble_eq_true rfl) rfl (fun u1 M1 => ?_)
  refine rw_iload_n C dX9_worst_4 rfl 1 rfl ?_
  refine rw_i2l C dX9_worst_5 ?_
  refine rw_lconst (c := 0) C dX9_worst_6 (by decide) ?_
  refine rw_aload_n C dX9_worst_7 rfl 0 rfl ?_
  refine rw_getI (k0 := 196) C dX9_worst_8 fl_X9_217 rfl (by decide) sh_196 (by decide) (fun x1 => ?_)
  refine rw_iconst (c := 1) C dX9_worst_11 ci_1 ?_
  refine rw_isub C dX9_worst_12 ?_
  refine rw_i2l C dX9_worst_13 ?_
  refine rw_callSPi (As := [.long (a1.toInt64), .long 0, .long ((x1 - 1).toInt64)]) C hR dX9_worst_14 cs_X9_88 (k_X9_in g.2.1 κ a1.toInt64 0 ((x1 - 1).toInt64) M1) (by decide) (by decide) rfl (Nat.le_of_ble_eq_true rfl) rfl (fun x2 => ?_)
  refine rw_if_eq (tgt := 28) C dX9_worst_17 (by decide) ?_ ?_
  · refine rw_bipush (c := (-2)) C dX9_worst_28 (by decide) ?_
    exact rw_iret C dX9_worst_30
  · refine rw_aload_n C dX9_worst_20 rfl 0 rfl ?_
    refine rw_iload_n C dX9_worst_21 rfl 1 rfl ?_
    refine rw_callVPi (As := [.int a1]) (k0 := 196) C hR dX9_worst_22 cv_X9_236 (k_X9_worstOf g.2.1 κ a1 M1) (by decide) (by decide) (by decide) sh_196 rfl rfl (Nat.le_of_ble_eq_true rfl) rfl (fun x3 => ?_)
    refine rw_goto (tgt := 30) C dX9_worst_25 (by decide) ?_
    exact rw_iret C dX9_worst_30
def f_X9_mostTold_L57 (M2 : pv_M) (rec1 : Int32 → Int32 → Option (Int32 × pv_M)) (x1 : Int32) (x2 : Int32) : Option (Int32 × pv_M) := pv_ldI pv_T 203 0 M2 (fun x3 => (if x3 ≤ x2 then some (x1, M2) else pv_ldI pv_T 213 x2 M2 (fun x4 => pv_ldI pv_T 213 x1 M2 (fun x5 => (if x4 ≤ x5 then rec1 x1 (x2 + 1) else rec1 x2 (x2 + 1))))))
def f_X9_mostTold_L22 (j2 : pv_M → Option (Int32 × pv_M)) (rec2 : Int32 → pv_M → Option (Int32 × pv_M)) (x6 : Int32) (M3 : pv_M) : Option (Int32 × pv_M) := pv_ldI pv_T 203 1 M3 (fun x7 => (if x7 ≤ x6 then j2 M3 else pv_ldI pv_T 214 x6 M3 (fun x8 => pv_ldI pv_T 213 x8 M3 (fun x9 => pv_stI pv_T 213 x8 (x9 + 1) M3 (fun M4 => rec2 (x6 + 1) M4)))))
def f_X9_mostTold_L2 (j1 : pv_M → Option (Int32 × pv_M)) (rec3 : Int32 → pv_M → Option (Int32 × pv_M)) (x10 : Int32) (M5 : pv_M) : Option (Int32 × pv_M) := (if 4 ≤ x10 then j1 M5 else pv_stI pv_T 213 x10 0 M5 (fun M6 => rec3 (x10 + 1) M6))
def f_X9_mostTold (M : pv_M) : Option (Int32 × pv_M) := pv_jn (fun (M1 : pv_M) => pv_jn (fun (M2 : pv_M) => pv_lp2 (f_X9_mostTold_L57 M2) pv_FU 0 1) (fun j2 => pv_lp2 (f_X9_mostTold_L22 j2) pv_FU 0 M1)) (fun j1 => pv_lp2 (f_X9_mostTold_L2 j1) pv_FU 0 M)
set_option maxHeartbeats 4000000 in
set_option maxRecDepth 100000 in
theorem k_X9_mostTold (l : Launch) (κ : pv_K) (M : pv_M) : pv_Mt l yX9_mostTold cX9_mostTold 3 (some .int) 0 κ [.ref (κ.1 + 196)] M pv_ji (f_X9_mostTold M) := by
  refine pv_enter (by decide +kernel) (Nat.le_of_ble_eq_true rfl) (fun g hl hR C => ?_)
  have C : pv_Ok g κ 3 cX9_mostTold RX9 (some .int) := C
  show pv_R g κ pv_T pv_RF 3 0 0 (pv_QF g κ pv_ji) 0 [(0, .ref (κ.1 + 196))] [] M (f_X9_mostTold M)
  unfold f_X9_mostTold
  refine rw_iconst (c := 0) C dX9_mostTold_0 ci_0 ?_
  refine rw_istore_n (lv' := [(1, .int 0), (0, .ref (κ.1 + 196))]) C dX9_mostTold_1 rfl (by decide) rfl ?_
  refine rw_jn (fun j1 => ∀ (M1 : pv_M), pv_R g κ pv_T pv_RF 3 0 0 (pv_QF g κ pv_ji) 20 [(0, .ref (κ.1 + 196))] [] M1 (j1 M1)) (fun M1 => ?_) (fun j1 hj1 => ?_)
  · refine rw_iconst (c := 0) C dX9_mostTold_20 ci_0 ?_
    refine rw_istore_n (lv' := [(1, .int 0), (0, .ref (κ.1 + 196))]) C dX9_mostTold_21 rfl (by decide) rfl ?_
    refine rw_jn (fun j2 => ∀ (M2 : pv_M), pv_R g κ pv_T pv_RF 3 0 0 (pv_QF g κ pv_ji) 53 [(0, .ref (κ.1 + 196))] [] M2 (j2 M2)) (fun M2 => ?_) (fun j2 hj2 => ?_)
    · refine rw_iconst (c := 0) C dX9_mostTold_53 ci_0 ?_
      refine rw_istore_n (lv' := [(1, .int 0), (0, .ref (κ.1 + 196))]) C dX9_mostTold_54 rfl (by decide) rfl ?_
      refine rw_iconst (c := 1) C dX9_mostTold_55 ci_1 ?_
      refine rw_istore_n (lv' := [(2, .int 1), (1, .int 0), (0, .ref (κ.1 + 196))]) C dX9_mostTold_56 rfl (by decide) rfl ?_
      refine rw_lv (lv' := [(0, .ref (κ.1 + 196)), (1, .int 0), (2, .int 1)]) [2, 1, 0] rfl ?_
      refine pv_lp2_ind (fun x1 x2 xx => pv_R g κ pv_T pv_RF 3 0 0 (pv_QF g κ pv_ji) 57 [(0, .ref (κ.1 + 196)), (1, .int x1), (2, .int x2)] [] M2 xx) (fun _ _ => rw_none) (fun rec1 hrec1 x1 x2 => ?_) _ _ _
      unfold f_X9_mostTold_L57
      refine rw_iload_n C dX9_mostTold_57 rfl 2 rfl ?_
      refine rw_aload_n C dX9_mostTold_58 rfl 0 rfl ?_
      refine rw_getR (k0 := 196) (k1 := 203) C dX9_mostTold_59 fl_X9_28 rfl (by decide) sh_196 (by decide) rfl ?_
      refine rw_iconst (c := 0) C dX9_mostTold_62 ci_0 ?_
      refine rw_ldI C dX9_mostTold_63 (fun x3 => ?_)
      refine rw_icmp_ge (tgt := 94) C dX9_mostTold_64 (by decide) ?_ ?_
      · refine rw_iload_n C dX9_mostTold_94 rfl 1 rfl ?_
        exact rw_iret C dX9_mostTold_95
      · refine rw_aload_n C dX9_mostTold_67 rfl 0 rfl ?_
        refine rw_getR (k0 := 196) (k1 := 213) C dX9_mostTold_68 fl_X9_58 rfl (by decide) sh_196 (by decide) rfl ?_
        refine rw_iload_n C dX9_mostTold_71 rfl 2 rfl ?_
        refine rw_ldI C dX9_mostTold_72 (fun x4 => ?_)
        refine rw_aload_n C dX9_mostTold_73 rfl 0 rfl ?_
        refine rw_getR (k0 := 196) (k1 := 213) C dX9_mostTold_74 fl_X9_58 rfl (by decide) sh_196 (by decide) rfl ?_
        refine rw_iload_n C dX9_mostTold_77 rfl 1 rfl ?_
        refine rw_ldI C dX9_mostTold_78 (fun x5 => ?_)
        refine rw_icmp_le (tgt := 86) C dX9_mostTold_79 (by decide) ?_ ?_
        · refine rw_iload_n C dX9_mostTold_86 rfl 1 rfl ?_
          refine rw_istore_n (lv' := [(1, .int x1), (0, .ref (κ.1 + 196)), (2, .int x2)]) C dX9_mostTold_87 rfl (by decide) rfl ?_
          refine rw_iinc (c := 1) (lv' := [(2, .int (x2 + 1)), (1, .int x1), (0, .ref (κ.1 + 196))]) C dX9_mostTold_88 2 rfl (by decide) (by decide) rfl ?_
          refine rw_goto (tgt := 57) C dX9_mostTold_91 (by decide) ?_
          exact rw_lv [2, 1, 0] rfl (hrec1 x1 (x2 + 1))
        · refine rw_iload_n C dX9_mostTold_82 rfl 2 rfl ?_
          refine rw_goto (tgt := 87) C dX9_mostTold_83 (by decide) ?_
          refine rw_istore_n (lv' := [(1, .int x2), (0, .ref (κ.1 + 196)), (2, .int x2)]) C dX9_mostTold_87 rfl (by decide) rfl ?_
          refine rw_iinc (c := 1) (lv' := [(2, .int (x2 + 1)), (1, .int x2), (0, .ref (κ.1 + 196))]) C dX9_mostTold_88 2 rfl (by decide) (by decide) rfl ?_
          refine rw_goto (tgt := 57) C dX9_mostTold_91 (by decide) ?_
          exact rw_lv [2, 1, 0] rfl (hrec1 x2 (x2 + 1))
    · refine rw_lv (lv' := [(0, .ref (κ.1 + 196)), (1, .int 0)]) [1, 0] rfl ?_
      refine pv_lp2_ind (fun x6 M3 xx => pv_R g κ pv_T pv_RF 3 0 0 (pv_QF g κ pv_ji) 22 [(0, .ref (κ.1 + 196)), (1, .int x6)] [] M3 xx) (fun _ _ => rw_none) (fun rec2 hrec2 x6 M3 => ?_) _ _ _
      unfold f_X9_mostTold_L22
      refine rw_iload_n C dX9_mostTold_22 rfl 1 rfl ?_
      refine rw_aload_n C dX9_mostTold_23 rfl 0 rfl ?_
      refine rw_getR (k0 := 196) (k1 := 203) C dX9_mostTold_24 fl_X9_28 rfl (by decide) sh_196 (by decide) rfl ?_
      refine rw_iconst (c := 1) C dX9_mostTold_27 ci_1 ?_
      refine rw_ldI C dX9_mostTold_28 (fun x7 => ?_)
      refine rw_icmp_ge (tgt := 53) C dX9_mostTold_29 (by decide) ?_ ?_
      · exact rw_lv [0] rfl (hj2 M3)
      · refine rw_aload_n C dX9_mostTold_32 rfl 0 rfl ?_
        refine rw_getR (k0 := 196) (k1 := 213) C dX9_mostTold_33 fl_X9_58 rfl (by decide) sh_196 (by decide) rfl ?_
        refine rw_aload_n C dX9_mostTold_36 rfl 0 rfl ?_
        refine rw_getR (k0 := 196) (k1 := 214) C dX9_mostTold_37 fl_X9_61 rfl (by decide) sh_196 (by decide) rfl ?_
        refine rw_iload_n C dX9_mostTold_40 rfl 1 rfl ?_
        refine rw_ldI C dX9_mostTold_41 (fun x8 => ?_)
        refine rw_dup2 C dX9_mostTold_42 rfl rfl ?_
        refine rw_ldI C dX9_mostTold_43 (fun x9 => ?_)
        refine rw_iconst (c := 1) C dX9_mostTold_44 ci_1 ?_
        refine rw_iadd C dX9_mostTold_45 ?_
        refine rw_stI C dX9_mostTold_46 (fun M4 => ?_)
        refine rw_iinc (c := 1) (lv' := [(1, .int (x6 + 1)), (0, .ref (κ.1 + 196))]) C dX9_mostTold_47 1 rfl (by decide) (by decide) rfl ?_
        refine rw_goto (tgt := 22) C dX9_mostTold_50 (by decide) ?_
        exact rw_lv [1, 0] rfl (hrec2 (x6 + 1) M4)
  · refine rw_lv (lv' := [(0, .ref (κ.1 + 196)), (1, .int 0)]) [1, 0] rfl ?_
    refine pv_lp2_ind (fun x10 M5 xx => pv_R g κ pv_T pv_RF 3 0 0 (pv_QF g κ pv_ji) 2 [(0, .ref (κ.1 + 196)), (1, .int x10)] [] M5 xx) (fun _ _ => rw_none) (fun rec3 hrec3 x10 M5 => ?_) _ _ _
    unfold f_X9_mostTold_L2
    refine rw_iload_n C dX9_mostTold_2 rfl 1 rfl ?_
    refine rw_iconst (c := 4) C dX9_mostTold_3 ci_4 ?_
    refine rw_icmp_ge (tgt := 20) C dX9_mostTold_4 (by decide) ?_ ?_
    · exact rw_lv [0] rfl (hj1 M5)
    · refine rw_aload_n C dX9_mostTold_7 rfl 0 rfl ?_
      refine rw_getR (k0 := 196) (k1 := 213) C dX9_mostTold_8 fl_X9_58 rfl (by decide) sh_196 (by decide) rfl ?_
      refine rw_iload_n C dX9_mostTold_11 rfl 1 rfl ?_
      refine rw_iconst (c := 0) C dX9_mostTold_12 ci_0 ?_
      refine rw_stI C dX9_mostTold_13 (fun M6 => ?_)
      refine rw_iinc (c := 1) (lv' := [(1, .int (x10 + 1)), (0, .ref (κ.1 + 196))]) C dX9_mostTold_14 1 rfl (by decide) (by decide) rfl ?_
      refine rw_goto (tgt := 2) C dX9_mostTold_17 (by decide) ?_
      exact rw_lv [1, 0] rfl (hrec3 (x10 + 1) M6)
def f_X9_six (M : pv_M) : Option Int32 := pv_ldI pv_T 203 1 M (fun x1 => (if 6 ≤ x1 then some 6 else pv_ldI pv_T 203 1 M (fun x2 => some x2)))
set_option maxHeartbeats 4000000 in
set_option maxRecDepth 100000 in
theorem k_X9_six (l : Launch) (κ : pv_K) (M : pv_M) : pv_MtP l yX9_six cX9_six 1 (some .int) 0 κ [.ref (κ.1 + 196)] M pv_ji (f_X9_six M) := by
  refine pv_enterP (by decide +kernel) (Nat.le_of_ble_eq_true rfl) (fun g hl hR C => ?_)
  have C : pv_Ok g κ 1 cX9_six RX9 (some .int) := C
  show pv_R g κ pv_T pv_RF 1 0 0 (pv_QP g κ pv_ji M) 0 [(0, .ref (κ.1 + 196))] [] M (f_X9_six M)
  unfold f_X9_six
  refine rw_aload_n C dX9_six_0 rfl 0 rfl ?_
  refine rw_getR (k0 := 196) (k1 := 203) C dX9_six_1 fl_X9_28 rfl (by decide) sh_196 (by decide) rfl ?_
  refine rw_iconst (c := 1) C dX9_six_4 ci_1 ?_
  refine rw_ldI C dX9_six_5 (fun x1 => ?_)
  refine rw_bipush (c := 6) C dX9_six_6 (by decide) ?_
  refine rw_icmp_ge (tgt := 20) C dX9_six_8 (by decide) ?_ ?_
  · refine rw_bipush (c := 6) C dX9_six_20 (by decide) ?_
    exact rw_iretP C dX9_six_22
  · refine rw_aload_n C dX9_six_11 rfl 0 rfl ?_
    refine rw_getR (k0 := 196) (k1 := 203) C dX9_six_12 fl_X9_28 rfl (by decide) sh_196 (by decide) rfl ?_
    refine rw_iconst (c := 1) C dX9_six_15 ci_1 ?_
    refine rw_ldI C dX9_six_16 (fun x2 => ?_)
    refine rw_goto (tgt := 22) C dX9_six_17 (by decide) ?_
    exact rw_iretP C dX9_six_22
def f_X9_isRest_L28 (j1 : Int32 → pv_M → Option (Int32 × pv_M)) (x3 : Int32) (x1 : Int32) (rec2 : Int32 → Int32 → pv_M → Option (Int32 × pv_M)) (x7 : Int32) (x8 : Int32) (M5 : pv_M) : Option (Int32 × pv_M) := pv_ldI pv_T 203 0 M5 (fun x9 => (if x9 ≤ x8 then j1 x7 M5 else pv_stI pv_T 214 x3 x8 M5 (fun M6 => (if x7 = 0 then rec2 0 (x8 + 1) M6 else pv_cal (f_X9_mostTold M6) (fun x10 M7 => pv_cap (f_X9_gain 0 x10 x3 M7) (fun x11 => pv_cap (f_X9_gain 0 x1 x3 M7) (fun x12 => (if x12 < x11 then rec2 0 (x8 + 1) M7 else rec2 1 (x8 + 1) M7))))))))
def f_X9_isRest_L9 (x1 : Int32) (rec1 : Int32 → Int32 → pv_M → Option (Int32 × pv_M)) (x2 : Int32) (x3 : Int32) (M2 : pv_M) : Option (Int32 × pv_M) := pv_cap (f_X9_six M2) (fun x4 => (if x4 ≤ x3 then (if x2 = 0 ∨ x2 = 1 then some (x2, M2) else none) else pv_ldI pv_T 214 x3 M2 (fun x5 => pv_jn (fun (x6 : Int32) (M3 : pv_M) => pv_stI pv_T 214 x3 x5 M3 (fun M4 => rec1 x6 (x3 + 1) M4)) (fun j1 => pv_lp3 (f_X9_isRest_L28 j1 x3 x1) pv_FU x2 0 M2))))
def f_X9_isRest (M : pv_M) : Option (Int32 × pv_M) := pv_cal (f_X9_mostTold M) (fun x1 M1 => pv_lp3 (f_X9_isRest_L9 x1) pv_FU 1 0 M1)
set_option maxHeartbeats 4000000 in
set_option maxRecDepth 100000 in
theorem k_X9_isRest (l : Launch) (κ : pv_K) (M : pv_M) : pv_Mt l yX9_isRest cX9_isRest 6 (some .boolean) 3 κ [.ref (κ.1 + 196)] M pv_ji (f_X9_isRest M) := by
  refine pv_enter (by decide +kernel) (Nat.le_of_ble_eq_true rfl) (fun g hl hR C => ?_)
  have C : pv_Ok g κ 6 cX9_isRest RX9 (some .boolean) := C
  show pv_R g κ pv_T pv_RF 6 0 0 (pv_QF g κ pv_ji) 0 [(0, .ref (κ.1 + 196))] [] M (f_X9_isRest M)
  unfold f_X9_isRest
  refine rw_aload_n C dX9_isRest_0 rfl 0 rfl ?_
  refine rw_callVi (As := []) (k0 := 196) C hR dX9_isRest_1 cv_X9_239 (k_X9_mostTold g.2.1 κ M) (by decide) (by decide) (by decide) sh_196 rfl rfl (Nat.le_of_ble_eq_true rfl) rfl (fun x1 M1 => ?_)
  refine rw_istore_n (lv' := [(1, .int x1), (0, .ref (κ.1 + 196))]) C dX9_isRest_4 rfl (by decide) rfl ?_
  refine rw_iconst (c := 1) C dX9_isRest_5 ci_1 ?_
  refine rw_istore_n (lv' := [(2, .int 1), (1, .int x1), (0, .ref (κ.1 + 196))]) C dX9_isRest_6 rfl (by decide) rfl ?_
  refine rw_iconst (c := 0) C dX9_isRest_7 ci_0 ?_
  refine rw_istore_n (lv' := [(3, .int 0), (2, .int 1), (1, .int x1), (0, .ref (κ.1 + 196))]) C dX9_isRest_8 rfl (by decide) rfl ?_
  refine rw_lv (lv' := [(0, .ref (κ.1 + 196)), (1, .int x1), (2, .int 1), (3, .int 0)]) [3, 2, 1, 0] rfl ?_
  refine pv_lp3_ind (fun x2 x3 M2 xx => pv_R g κ pv_T pv_RF 6 0 0 (pv_QF g κ pv_ji) 9 [(0, .ref (κ.1 + 196)), (1, .int x1), (2, .int x2), (3, .int x3)] [] M2 xx) (fun _ _ _ => rw_none) (fun rec1 hrec1 x2 x3 M2 => ?_) _ _ _ _
  unfold f_X9_isRest_L9
  refine rw_iload_n C dX9_isRest_9 rfl 3 rfl ?_
  refine rw_aload_n C dX9_isRest_10 rfl 0 rfl ?_
  refine rw_callVPi (As := []) (k0 := 196) C hR dX9_isRest_11 cv_X9_242 (k_X9_six g.2.1 κ M2) (by decide) (by decide) (by decide) sh_196 rfl rfl (Nat.le_of_ble_eq_true rfl) rfl (fun x4 => ?_)
  refine rw_icmp_ge (tgt := 97) C dX9_isRest_14 (by decide) ?_ ?_
  · refine rw_iload_n C dX9_isRest_97 rfl 2 rfl ?_
    exact rw_zret_ck C dX9_isRest_98
  · refine rw_aload_n C dX9_isRest_17 rfl 0 rfl ?_
    refine rw_getR (k0 := 196) (k1 := 214) C dX9_isRest_18 fl_X9_61 rfl (by decide) sh_196 (by decide) rfl ?_
    refine rw_iload_n C dX9_isRest_21 rfl 3 rfl ?_
    refine rw_ldI C dX9_isRest_22 (fun x5 => ?_)
    refine rw_istore (lv' := [(4, .int x5), (0, .ref (κ.1 + 196)), (1, .int x1), (2, .int x2), (3, .int x3)]) C dX9_isRest_23 (by decide) rfl ?_
    refine rw_iconst (c := 0) C dX9_isRest_25 ci_0 ?_
    refine rw_istore (lv' := [(5, .int 0), (4, .int x5), (0, .ref (κ.1 + 196)), (1, .int x1), (2, .int x2), (3, .int x3)]) C dX9_isRest_26 (by decide) rfl ?_
    refine rw_jn (fun j1 => ∀ (x6 : Int32) (M3 : pv_M), pv_R g κ pv_T pv_RF 6 0 0 (pv_QF g κ pv_ji) 83 [(0, .ref (κ.1 + 196)), (1, .int x1), (2, .int x6), (3, .int x3), (4, .int x5)] [] M3 (j1 x6 M3)) (fun x6 M3 => ?_) (fun j1 hj1 => ?_)
    · refine rw_aload_n C dX9_isRest_83 rfl 0 rfl ?_
      refine rw_getR (k0 := 196) (k1 := 214) C dX9_isRest_84 fl_X9_61 rfl (by decide) sh_196 (by decide) rfl ?_
      refine rw_iload_n C dX9_isRest_87 rfl 3 rfl ?_
      refine rw_iload C dX9_isRest_88 4 rfl ?_
      refine rw_stI C dX9_isRest_90 (fun M4 => ?_)
      refine rw_iinc (c := 1) (lv' := [(3, .int (x3 + 1)), (0, .ref (κ.1 + 196)), (1, .int x1), (2, .int x6), (4, .int x5)]) C dX9_isRest_91 3 rfl (by decide) (by decide) rfl ?_
      refine rw_goto (tgt := 9) C dX9_isRest_94 (by decide) ?_
      exact rw_lv [1, 2, 3, 0] rfl (hrec1 x6 (x3 + 1) M4)
    · refine rw_lv (lv' := [(0, .ref (κ.1 + 196)), (1, .int x1), (2, .int x2), (3, .int x3), (4, .int x5), (5, .int 0)]) [2, 3, 4, 5, 1, 0] rfl ?_
      refine pv_lp3_ind (fun x7 x8 M5 xx => pv_R g κ pv_T pv_RF 6 0 0 (pv_QF g κ pv_ji) 28 [(0, .ref (κ.1 + 196)), (1, .int x1), (2, .int x7), (3, .int x3), (4, .int x5), (5, .int x8)] [] M5 xx) (fun _ _ _ => rw_none) (fun rec2 hrec2 x7 x8 M5 => ?_) _ _ _ _
      unfold f_X9_isRest_L28
      refine rw_iload C dX9_isRest_28 5 rfl ?_
      refine rw_aload_n C dX9_isRest_30 rfl 0 rfl ?_
      refine rw_getR (k0 := 196) (k1 := 203) C dX9_isRest_31 fl_X9_28 rfl (by decide) sh_196 (by decide) rfl ?_
      refine rw_iconst (c := 0) C dX9_isRest_34 ci_0 ?_
      refine rw_ldI C dX9_isRest_35 (fun x9 => ?_)
      refine rw_icmp_ge (tgt := 83) C dX9_isRest_36 (by decide) ?_ ?_
      · exact rw_lv [0, 1, 2, 3, 4] rfl (hj1 x7 M5)
      · refine rw_aload_n C dX9_isRest_39 rfl 0 rfl ?_
        refine rw_getR (k0 := 196) (k1 := 214) C dX9_isRest_40 fl_X9_61 rfl (by decide) sh_196 (by decide) rfl ?_
        refine rw_iload_n C dX9_isRest_43 rfl 3 rfl ?_
        refine rw_iload C dX9_isRest_44 5 rfl ?_
        refine rw_stI C dX9_isRest_46 (fun M6 => ?_)
        refine rw_iload_n C dX9_isRest_47 rfl 2 rfl ?_
        refine rw_if_eq (tgt := 75) C dX9_isRest_48 (by decide) ?_ ?_
        · refine rw_iconst (c := 0) C dX9_isRest_75 ci_0 ?_
          refine rw_istore_n (lv' := [(2, .int 0), (0, .ref (κ.1 + 196)), (1, .int x1), (3, .int x3), (4, .int x5), (5, .int x8)]) C dX9_isRest_76 rfl (by decide) rfl ?_
          refine rw_iinc (c := 1) (lv' := [(5, .int (x8 + 1)), (2, .int 0), (0, .ref (κ.1 + 196)), (1, .int x1), (3, .int x3), (4, .int x5)]) C dX9_isRest_77 5 rfl (by decide) (by decide) rfl ?_
          refine rw_goto (tgt := 28) C dX9_isRest_80 (by decide) ?_
          exact rw_lv [2, 3, 1, 4, 5, 0] rfl (hrec2 0 (x8 + 1) M6)
        · refine rw_aload_n C dX9_isRest_51 rfl 0 rfl ?_
          refine rw_iconst (c := 0) C dX9_isRest_52 ci_0 ?_
          refine rw_aload_n C dX9_isRest_53 rfl 0 rfl ?_
          refine rw_callVi (As := []) (k0 := 196) C hR dX9_isRest_54 cv_X9_239 (k_X9_mostTold g.2.1 κ M6) (by decide) (by decide) (by decide) sh_196 rfl rfl (Nat.le_of_ble_eq_true rfl) rfl (fun x10 M7 => ?_)
          refine rw_iload_n C dX9_isRest_57 rfl 3 rfl ?_
          refine rw_callVPi (As := [.int 0, .int x10, .int x3]) (k0 := 196) C hR dX9_isRest_58 cv_X9_186 (k_X9_gain g.2.1 κ 0 x10 x3 M7) (by decide) (by decide) (by decide) sh_196 rfl rfl (Nat.le_of_ble_eq_true rfl) rfl (fun x11 => ?_)
          refine rw_aload_n C dX9_isRest_61 rfl 0 rfl ?_
          refine rw_iconst (c := 0) C dX9_isRest_62 ci_0 ?_
          refine rw_iload_n C dX9_isRest_63 rfl 1 rfl ?_
          refine rw_iload_n C dX9_isRest_64 rfl 3 rfl ?_
          refine rw_callVPi (As := [.int 0, .int x1, .int x3]) (k0 := 196) C hR dX9_isRest_65 cv_X9_186 (k_X9_gain g.2.1 κ 0 x1 x3 M7) (by decide) (by decide) (by decide) sh_196 rfl rfl (Nat.le_of_ble_eq_true rfl) rfl (fun x12 => ?_)
          refine rw_icmp_gt (tgt := 75) C dX9_isRest_68 (by decide) ?_ ?_
          · refine rw_iconst (c := 0) C dX9_isRest_75 ci_0 ?_
            refine rw_istore_n (lv' := [(2, .int 0), (0, .ref (κ.1 + 196)), (1, .int x1), (3, .int x3), (4, .int x5), (5, .int x8)]) C dX9_isRest_76 rfl (by decide) rfl ?_
            refine rw_iinc (c := 1) (lv' := [(5, .int (x8 + 1)), (2, .int 0), (0, .ref (κ.1 + 196)), (1, .int x1), (3, .int x3), (4, .int x5)]) C dX9_isRest_77 5 rfl (by decide) (by decide) rfl ?_
            refine rw_goto (tgt := 28) C dX9_isRest_80 (by decide) ?_
            exact rw_lv [2, 3, 1, 4, 5, 0] rfl (hrec2 0 (x8 + 1) M7)
          · refine rw_iconst (c := 1) C dX9_isRest_71 ci_1 ?_
            refine rw_goto (tgt := 76) C dX9_isRest_72 (by decide) ?_
            refine rw_istore_n (lv' := [(2, .int 1), (0, .ref (κ.1 + 196)), (1, .int x1), (3, .int x3), (4, .int x5), (5, .int x8)]) C dX9_isRest_76 rfl (by decide) rfl ?_
            refine rw_iinc (c := 1) (lv' := [(5, .int (x8 + 1)), (2, .int 1), (0, .ref (κ.1 + 196)), (1, .int x1), (3, .int x3), (4, .int x5)]) C dX9_isRest_77 5 rfl (by decide) (by decide) rfl ?_
            refine rw_goto (tgt := 28) C dX9_isRest_80 (by decide) ?_
            exact rw_lv [2, 3, 1, 4, 5, 0] rfl (hrec2 1 (x8 + 1) M7)
def f_X9_chooses_L2 (rec1 : Int32 → pv_M → Option (Unit × pv_M)) (x1 : Int32) (M1 : pv_M) : Option (Unit × pv_M) := pv_ldI pv_T 203 1 M1 (fun x2 => (if x2 ≤ x1 then some ((), M1) else pv_cap (f_X9_choice 0 x1 ((-1)) M1) (fun x3 => pv_stI pv_T 214 x1 x3 M1 (fun M2 => rec1 (x1 + 1) M2))))
def f_X9_chooses (M : pv_M) : Option (Unit × pv_M) := pv_lp2 f_X9_chooses_L2 pv_FU 0 M
set_option maxHeartbeats 4000000 in
set_option maxRecDepth 100000 in
theorem k_X9_chooses (l : Launch) (κ : pv_K) (M : pv_M) : pv_Mt l yX9_chooses cX9_chooses 2 none 4 κ [.ref (κ.1 + 196)] M pv_ju (f_X9_chooses M) := by
  refine pv_enter (by decide +kernel) (Nat.le_of_ble_eq_true rfl) (fun g hl hR C => ?_)
  have C : pv_Ok g κ 2 cX9_chooses RX9 none := C
  show pv_R g κ pv_T pv_RF 2 0 0 (pv_QF g κ pv_ju) 0 [(0, .ref (κ.1 + 196))] [] M (f_X9_chooses M)
  unfold f_X9_chooses
  refine rw_iconst (c := 0) C dX9_chooses_0 ci_0 ?_
  refine rw_istore_n (lv' := [(1, .int 0), (0, .ref (κ.1 + 196))]) C dX9_chooses_1 rfl (by decide) rfl ?_
  refine rw_lv (lv' := [(0, .ref (κ.1 + 196)), (1, .int 0)]) [1, 0] rfl ?_
  refine pv_lp2_ind (fun x1 M1 xx => pv_R g κ pv_T pv_RF 2 0 0 (pv_QF g κ pv_ju) 2 [(0, .ref (κ.1 + 196)), (1, .int x1)] [] M1 xx) (fun _ _ => rw_none) (fun rec1 hrec1 x1 M1 => ?_) _ _ _
  unfold f_X9_chooses_L2
  refine rw_iload_n C dX9_chooses_2 rfl 1 rfl ?_
  refine rw_aload_n C dX9_chooses_3 rfl 0 rfl ?_
  refine rw_getR (k0 := 196) (k1 := 203) C dX9_chooses_4 fl_X9_28 rfl (by decide) sh_196 (by decide) rfl ?_
  refine rw_iconst (c := 1) C dX9_chooses_7 ci_1 ?_
  refine rw_ldI C dX9_chooses_8 (fun x2 => ?_)
  refine rw_icmp_ge (tgt := 31) C dX9_chooses_9 (by decide) ?_ ?_
  · exact rw_vret C dX9_chooses_31
  · refine rw_aload_n C dX9_chooses_12 rfl 0 rfl ?_
    refine rw_getR (k0 := 196) (k1 := 214) C dX9_chooses_13 fl_X9_61 rfl (by decide) sh_196 (by decide) rfl ?_
    refine rw_iload_n C dX9_chooses_16 rfl 1 rfl ?_
    refine rw_aload_n C dX9_chooses_17 rfl 0 rfl ?_
    refine rw_iconst (c := 0) C dX9_chooses_18 ci_0 ?_
    refine rw_iload_n C dX9_chooses_19 rfl 1 rfl ?_
    refine rw_iconst (c := (-1)) C dX9_chooses_20 ci_m1 ?_
    refine rw_callVPi (As := [.int 0, .int x1, .int (-1)]) (k0 := 196) C hR dX9_chooses_21 cv_X9_193 (k_X9_choice g.2.1 κ 0 x1 ((-1)) M1) (by decide) (by decide) (by decide) sh_196 rfl rfl (Nat.le_of_ble_eq_true rfl) rfl (fun x3 => ?_)
    refine rw_stI C dX9_chooses_24 (fun M2 => ?_)
    refine rw_iinc (c := 1) (lv' := [(1, .int (x1 + 1)), (0, .ref (κ.1 + 196))]) C dX9_chooses_25 1 rfl (by decide) (by decide) rfl ?_
    refine rw_goto (tgt := 2) C dX9_chooses_28 (by decide) ?_
    exact rw_lv [1, 0] rfl (hrec1 (x1 + 1) M2)
def f_X9_isRow_L4 (a1 : Int32) (rec1 : Int32 → Int32 → pv_M → Option (Int32 × pv_M)) (x1 : Int32) (x2 : Int32) (M1 : pv_M) : Option (Int32 × pv_M) := pv_cap (f_X9_six M1) (fun x3 => (if x3 ≤ x2 then (if x1 = 0 ∨ x1 = 1 then some (x1, M1) else none) else pv_stI pv_T 214 x2 ((a1 >>> ((2 * x2) &&& 31)) &&& 3) M1 (fun M2 => (if x1 = 0 then rec1 0 (x2 + 1) M2 else pv_ldI pv_T 214 x2 M2 (fun x4 => pv_ldI pv_T 203 0 M2 (fun x5 => (if x5 ≤ x4 then rec1 0 (x2 + 1) M2 else rec1 1 (x2 + 1) M2)))))))
def f_X9_isRow (a1 : Int32) (M : pv_M) : Option (Int32 × pv_M) := pv_lp3 (f_X9_isRow_L4 a1) pv_FU 1 0 M
set_option maxHeartbeats 4000000 in
set_option maxRecDepth 100000 in
theorem k_X9_isRow (l : Launch) (κ : pv_K) (a1 : Int32) (M : pv_M) : pv_Mt l yX9_isRow cX9_isRow 4 (some .boolean) 1 κ [.ref (κ.1 + 196), .int a1] M pv_ji (f_X9_isRow a1 M) := by
  refine pv_enter (by decide +kernel) (Nat.le_of_ble_eq_true rfl) (fun g hl hR C => ?_)
  have C : pv_Ok g κ 4 cX9_isRow RX9 (some .boolean) := C
  show pv_R g κ pv_T pv_RF 4 0 0 (pv_QF g κ pv_ji) 0 [(0, .ref (κ.1 + 196)), (1, .int a1)] [] M (f_X9_isRow a1 M)
  unfold f_X9_isRow
  refine rw_iconst (c := 1) C dX9_isRow_0 ci_1 ?_
  refine rw_istore_n (lv' := [(2, .int 1), (0, .ref (κ.1 + 196)), (1, .int a1)]) C dX9_isRow_1 rfl (by decide) rfl ?_
  refine rw_iconst (c := 0) C dX9_isRow_2 ci_0 ?_
  refine rw_istore_n (lv' := [(3, .int 0), (2, .int 1), (0, .ref (κ.1 + 196)), (1, .int a1)]) C dX9_isRow_3 rfl (by decide) rfl ?_
  refine rw_lv (lv' := [(0, .ref (κ.1 + 196)), (1, .int a1), (2, .int 1), (3, .int 0)]) [2, 3, 1, 0] rfl ?_
  refine pv_lp3_ind (fun x1 x2 M1 xx => pv_R g κ pv_T pv_RF 4 0 0 (pv_QF g κ pv_ji) 4 [(0, .ref (κ.1 + 196)), (1, .int a1), (2, .int x1), (3, .int x2)] [] M1 xx) (fun _ _ _ => rw_none) (fun rec1 hrec1 x1 x2 M1 => ?_) _ _ _ _
  unfold f_X9_isRow_L4
  refine rw_iload_n C dX9_isRow_4 rfl 3 rfl ?_
  refine rw_aload_n C dX9_isRow_5 rfl 0 rfl ?_
  refine rw_callVPi (As := []) (k0 := 196) C hR dX9_isRow_6 cv_X9_242 (k_X9_six g.2.1 κ M1) (by decide) (by decide) (by decide) sh_196 rfl rfl (Nat.le_of_ble_eq_true rfl) rfl (fun x3 => ?_)
  refine rw_icmp_ge (tgt := 56) C dX9_isRow_9 (by decide) ?_ ?_
  · refine rw_iload_n C dX9_isRow_56 rfl 2 rfl ?_
    exact rw_zret_ck C dX9_isRow_57
  · refine rw_aload_n C dX9_isRow_12 rfl 0 rfl ?_
    refine rw_getR (k0 := 196) (k1 := 214) C dX9_isRow_13 fl_X9_61 rfl (by decide) sh_196 (by decide) rfl ?_
    refine rw_iload_n C dX9_isRow_16 rfl 3 rfl ?_
    refine rw_iload_n C dX9_isRow_17 rfl 1 rfl ?_
    refine rw_iconst (c := 2) C dX9_isRow_18 ci_2 ?_
    refine rw_iload_n C dX9_isRow_19 rfl 3 rfl ?_
    refine rw_imul C dX9_isRow_20 ?_
    refine rw_ishr C dX9_isRow_21 ?_
    refine rw_iconst (c := 3) C dX9_isRow_22 ci_3 ?_
    refine rw_iand C dX9_isRow_23 ?_
    refine rw_stI C dX9_isRow_24 (fun M2 => ?_)
    refine rw_iload_n C dX9_isRow_25 rfl 2 rfl ?_
    refine rw_if_eq (tgt := 48) C dX9_isRow_26 (by decide) ?_ ?_
    · refine rw_iconst (c := 0) C dX9_isRow_48 ci_0 ?_
      refine rw_istore_n (lv' := [(2, .int 0), (0, .ref (κ.1 + 196)), (1, .int a1), (3, .int x2)]) C dX9_isRow_49 rfl (by decide) rfl ?_
      refine rw_iinc (c := 1) (lv' := [(3, .int (x2 + 1)), (2, .int 0), (0, .ref (κ.1 + 196)), (1, .int a1)]) C dX9_isRow_50 3 rfl (by decide) (by decide) rfl ?_
      refine rw_goto (tgt := 4) C dX9_isRow_53 (by decide) ?_
      exact rw_lv [2, 3, 1, 0] rfl (hrec1 0 (x2 + 1) M2)
    · refine rw_aload_n C dX9_isRow_29 rfl 0 rfl ?_
      refine rw_getR (k0 := 196) (k1 := 214) C dX9_isRow_30 fl_X9_61 rfl (by decide) sh_196 (by decide) rfl ?_
      refine rw_iload_n C dX9_isRow_33 rfl 3 rfl ?_
      refine rw_ldI C dX9_isRow_34 (fun x4 => ?_)
      refine rw_aload_n C dX9_isRow_35 rfl 0 rfl ?_
      refine rw_getR (k0 := 196) (k1 := 203) C dX9_isRow_36 fl_X9_28 rfl (by decide) sh_196 (by decide) rfl ?_
      refine rw_iconst (c := 0) C dX9_isRow_39 ci_0 ?_
      refine rw_ldI C dX9_isRow_40 (fun x5 => ?_)
      refine rw_icmp_ge (tgt := 48) C dX9_isRow_41 (by decide) ?_ ?_
      · refine rw_iconst (c := 0) C dX9_isRow_48 ci_0 ?_
        refine rw_istore_n (lv' := [(2, .int 0), (0, .ref (κ.1 + 196)), (1, .int a1), (3, .int x2)]) C dX9_isRow_49 rfl (by decide) rfl ?_
        refine rw_iinc (c := 1) (lv' := [(3, .int (x2 + 1)), (2, .int 0), (0, .ref (κ.1 + 196)), (1, .int a1)]) C dX9_isRow_50 3 rfl (by decide) (by decide) rfl ?_
        refine rw_goto (tgt := 4) C dX9_isRow_53 (by decide) ?_
        exact rw_lv [2, 3, 1, 0] rfl (hrec1 0 (x2 + 1) M2)
      · refine rw_iconst (c := 1) C dX9_isRow_44 ci_1 ?_
        refine rw_goto (tgt := 49) C dX9_isRow_45 (by decide) ?_
        refine rw_istore_n (lv' := [(2, .int 1), (0, .ref (κ.1 + 196)), (1, .int a1), (3, .int x2)]) C dX9_isRow_49 rfl (by decide) rfl ?_
        refine rw_iinc (c := 1) (lv' := [(3, .int (x2 + 1)), (2, .int 1), (0, .ref (κ.1 + 196)), (1, .int a1)]) C dX9_isRow_50 3 rfl (by decide) (by decide) rfl ?_
        refine rw_goto (tgt := 4) C dX9_isRow_53 (by decide) ?_
        exact rw_lv [2, 3, 1, 0] rfl (hrec1 1 (x2 + 1) M2)
def f_X9_restOf (a1 : Int32) (M : pv_M) : Option (Int32 × pv_M) := pv_ldI pv_T 203 0 M (fun x1 => (if x1 = 0 then some ((-3), M) else pv_cal (f_X9_chooses M) (fun u1 M1 => pv_cal (f_X9_isRow a1 M1) (fun x2 M2 => (if x2 = 0 then some ((-2), M2) else pv_cal (f_X9_isRest M2) (fun x3 M3 => (if x3 = 0 then some (0, M3) else some (1, M3))))))))
set_option maxHeartbeats 4000000 in
set_option maxRecDepth 100000 in
theorem k_X9_restOf (l : Launch) (κ : pv_K) (a1 : Int32) (M : pv_M) : pv_Mt l yX9_restOf cX9_restOf 2 (some .int) 5 κ [.ref (κ.1 + 196), .int a1] M pv_ji (f_X9_restOf a1 M) := by
  refine pv_enter (by decide +kernel) (Nat.le_of_ble_eq_true rfl) (fun g hl hR C => ?_)
  have C : pv_Ok g κ 2 cX9_restOf RX9 (some .int) := C
  show pv_R g κ pv_T pv_RF 2 0 0 (pv_QF g κ pv_ji) 0 [(0, .ref (κ.1 + 196)), (1, .int a1)] [] M (f_X9_restOf a1 M)
  unfold f_X9_restOf
  refine rw_aload_n C dX9_restOf_0 rfl 0 rfl ?_
  refine rw_getR (k0 := 196) (k1 := 203) C dX9_restOf_1 fl_X9_28 rfl (by decide) sh_196 (by decide) rfl ?_
  refine rw_iconst (c := 0) C dX9_restOf_4 ci_0 ?_
  refine rw_ldI C dX9_restOf_5 (fun x1 => ?_)
  refine rw_if_ne (tgt := 12) C dX9_restOf_6 (by decide) ?_ ?_
  · refine rw_aload_n C dX9_restOf_12 rfl 0 rfl ?_
    refine rw_callVu (As := []) (k0 := 196) C hR dX9_restOf_13 cv_X9_245 (k_X9_chooses g.2.1 κ M) (by decide) (by decide) (by decide) sh_196 rfl rfl (Nat.le_of_ble_eq_true rfl) rfl (fun u1 M1 => ?_)
    refine rw_aload_n C dX9_restOf_16 rfl 0 rfl ?_
    refine rw_iload_n C dX9_restOf_17 rfl 1 rfl ?_
    refine rw_callVi (As := [.int a1]) (k0 := 196) C hR dX9_restOf_18 cv_X9_248 (k_X9_isRow g.2.1 κ a1 M1) (by decide) (by decide) (by decide) sh_196 rfl rfl (Nat.le_of_ble_eq_true rfl) rfl (fun x2 M2 => ?_)
    refine rw_if_ne (tgt := 29) C dX9_restOf_21 (by decide) ?_ ?_
    · refine rw_aload_n C dX9_restOf_29 rfl 0 rfl ?_
      refine rw_callVi (As := []) (k0 := 196) C hR dX9_restOf_30 cv_X9_251 (k_X9_isRest g.2.1 κ M2) (by decide) (by decide) (by decide) sh_196 rfl rfl (Nat.le_of_ble_eq_true rfl) rfl (fun x3 M3 => ?_)
      refine rw_if_eq (tgt := 40) C dX9_restOf_33 (by decide) ?_ ?_
      · refine rw_iconst (c := 0) C dX9_restOf_40 ci_0 ?_
        exact rw_iret C dX9_restOf_41
      · refine rw_iconst (c := 1) C dX9_restOf_36 ci_1 ?_
        refine rw_goto (tgt := 41) C dX9_restOf_37 (by decide) ?_
        exact rw_iret C dX9_restOf_41
    · refine rw_bipush (c := (-2)) C dX9_restOf_24 (by decide) ?_
      refine rw_goto (tgt := 41) C dX9_restOf_26 (by decide) ?_
      exact rw_iret C dX9_restOf_41
  · refine rw_bipush (c := (-3)) C dX9_restOf_9 (by decide) ?_
    exact rw_iret C dX9_restOf_11
def f_X9_rest (a1 : Int32) (M : pv_M) : Option (Int32 × pv_M) := pv_cal (f_X9_reads M) (fun u1 M1 => pv_cap (f_X9_in a1.toInt64 0 4095 M1) (fun x1 => (if x1 = 0 then some ((-2), M1) else pv_cal (f_X9_restOf a1 M1) (fun x2 M2 => some (x2, M2)))))
set_option maxHeartbeats 4000000 in
set_option maxRecDepth 100000 in
theorem k_X9_rest (l : Launch) (κ : pv_K) (a1 : Int32) (M : pv_M) : pv_Mt l yX9_rest cX9_rest 2 (some .int) 6 κ [.ref (κ.1 + 196), .int a1] M pv_ji (f_X9_rest a1 M) := by
  refine pv_enter (by decide +kernel) (Nat.le_of_ble_eq_true rfl) (fun g hl hR C => ?_)
  have C : pv_Ok g κ 2 cX9_rest RX9 (some .int) := C
  show pv_R g κ pv_T pv_RF 2 0 0 (pv_QF g κ pv_ji) 0 [(0, .ref (κ.1 + 196)), (1, .int a1)] [] M (f_X9_rest a1 M)
  unfold f_X9_rest
  refine rw_aload_n C dX9_rest_0 rfl 0 rfl ?_
  refine rw_callVu (As := []) (k0 := 196) C hR dX9_rest_1 cv_X9_151 (k_X9_reads g.2.1 κ M) (by decide) (by decide) (by decide) sh_196 rfl rfl (Nat.le_of_ble_eq_true rfl) rfl (fun u1 M1 => ?_)
  refine rw_iload_n C dX9_rest_4 rfl 1 rfl ?_
  refine rw_i2l C dX9_rest_5 ?_
  refine rw_lconst (c := 0) C dX9_rest_6 (by decide) ?_
  refine rw_ldc2_w (c := 4095) C dX9_rest_7 mw_655 ?_
  refine rw_callSPi (As := [.long (a1.toInt64), .long 0, .long 4095]) C hR dX9_rest_10 cs_X9_88 (k_X9_in g.2.1 κ a1.toInt64 0 4095 M1) (by decide) (by decide) rfl (Nat.le_of_ble_eq_true rfl) rfl (fun x1 => ?_)
  refine rw_if_eq (tgt := 24) C dX9_rest_13 (by decide) ?_ ?_
  · refine rw_bipush (c := (-2)) C dX9_rest_24 (by decide) ?_
    exact rw_iret C dX9_rest_26
  · refine rw_aload_n C dX9_rest_16 rfl 0 rfl ?_
    refine rw_iload_n C dX9_rest_17 rfl 1 rfl ?_
    refine rw_callVi (As := [.int a1]) (k0 := 196) C hR dX9_rest_18 cv_X9_257 (k_X9_restOf g.2.1 κ a1 M1) (by decide) (by decide) (by decide) sh_196 rfl rfl (Nat.le_of_ble_eq_true rfl) rfl (fun x2 M2 => ?_)
    refine rw_goto (tgt := 26) C dX9_rest_21 (by decide) ?_
    exact rw_iret C dX9_rest_26
def f_X9_restsNow_L4 (rec1 : Int32 → Int32 → pv_M → Option (Int32 × pv_M)) (x1 : Int32) (x2 : Int32) (M1 : pv_M) : Option (Int32 × pv_M) := pv_cap (f_X9_six M1) (fun x3 => (if (1 <<< ((2 * x3) &&& 31)) ≤ x2 then some (x1, M1) else pv_ldI pv_T 203 0 M1 (fun x4 => (if x4 ≤ 0 then some (x1, M1) else pv_cal (f_X9_restOf x2 M1) (fun x5 M2 => pv_jn (fun (x6 : Int32) => pv_nm (x1 + x6) (fun x7 => rec1 x7 (x2 + 1) M2)) (fun j1 => (if x5 = 1 then j1 1 else j1 0)))))))
def f_X9_restsNow (M : pv_M) : Option (Int32 × pv_M) := pv_lp3 f_X9_restsNow_L4 pv_FU 0 0 M
set_option maxHeartbeats 4000000 in
set_option maxRecDepth 100000 in
theorem k_X9_restsNow (l : Launch) (κ : pv_K) (M : pv_M) : pv_Mt l yX9_restsNow cX9_restsNow 3 (some .int) 6 κ [.ref (κ.1 + 196)] M pv_ji (f_X9_restsNow M) := by
  refine pv_enter (by decide +kernel) (Nat.le_of_ble_eq_true rfl) (fun g hl hR C => ?_)
  have C : pv_Ok g κ 3 cX9_restsNow RX9 (some .int) := C
  show pv_R g κ pv_T pv_RF 3 0 0 (pv_QF g κ pv_ji) 0 [(0, .ref (κ.1 + 196))] [] M (f_X9_restsNow M)
  unfold f_X9_restsNow
  refine rw_iconst (c := 0) C dX9_restsNow_0 ci_0 ?_
  refine rw_istore_n (lv' := [(1, .int 0), (0, .ref (κ.1 + 196))]) C dX9_restsNow_1 rfl (by decide) rfl ?_
  refine rw_iconst (c := 0) C dX9_restsNow_2 ci_0 ?_
  refine rw_istore_n (lv' := [(2, .int 0), (1, .int 0), (0, .ref (κ.1 + 196))]) C dX9_restsNow_3 rfl (by decide) rfl ?_
  refine rw_lv (lv' := [(0, .ref (κ.1 + 196)), (1, .int 0), (2, .int 0)]) [2, 1, 0] rfl ?_
  refine pv_lp3_ind (fun x1 x2 M1 xx => pv_R g κ pv_T pv_RF 3 0 0 (pv_QF g κ pv_ji) 4 [(0, .ref (κ.1 + 196)), (1, .int x1), (2, .int x2)] [] M1 xx) (fun _ _ _ => rw_none) (fun rec1 hrec1 x1 x2 M1 => ?_) _ _ _ _
  unfold f_X9_restsNow_L4
  refine rw_iload_n C dX9_restsNow_4 rfl 2 rfl ?_
  refine rw_iconst (c := 1) C dX9_restsNow_5 ci_1 ?_
  refine rw_iconst (c := 2) C dX9_restsNow_6 ci_2 ?_
  refine rw_aload_n C dX9_restsNow_7 rfl 0 rfl ?_
  refine rw_callVPi (As := []) (k0 := 196) C hR dX9_restsNow_8 cv_X9_242 (k_X9_six g.2.1 κ M1) (by decide) (by decide) (by decide) sh_196 rfl rfl (Nat.le_of_ble_eq_true rfl) rfl (fun x3 => ?_)
  refine rw_imul C dX9_restsNow_11 ?_
  refine rw_ishl C dX9_restsNow_12 ?_
  refine rw_icmp_ge (tgt := 48) C dX9_restsNow_13 (by decide) ?_ ?_
  · refine rw_iload_n C dX9_restsNow_48 rfl 1 rfl ?_
    exact rw_iret C dX9_restsNow_49
  · refine rw_aload_n C dX9_restsNow_16 rfl 0 rfl ?_
    refine rw_getR (k0 := 196) (k1 := 203) C dX9_restsNow_17 fl_X9_28 rfl (by decide) sh_196 (by decide) rfl ?_
    refine rw_iconst (c := 0) C dX9_restsNow_20 ci_0 ?_
    refine rw_ldI C dX9_restsNow_21 (fun x4 => ?_)
    refine rw_if_le (tgt := 48) C dX9_restsNow_22 (by decide) ?_ ?_
    · refine rw_iload_n C dX9_restsNow_48 rfl 1 rfl ?_
      exact rw_iret C dX9_restsNow_49
    · refine rw_iload_n C dX9_restsNow_25 rfl 1 rfl ?_
      refine rw_aload_n C dX9_restsNow_26 rfl 0 rfl ?_
      refine rw_iload_n C dX9_restsNow_27 rfl 2 rfl ?_
      refine rw_callVi (As := [.int x2]) (k0 := 196) C hR dX9_restsNow_28 cv_X9_257 (k_X9_restOf g.2.1 κ x2 M1) (by decide) (by decide) (by decide) sh_196 rfl rfl (Nat.le_of_ble_eq_true rfl) rfl (fun x5 M2 => ?_)
      refine rw_iconst (c := 1) C dX9_restsNow_31 ci_1 ?_
      refine rw_jn (fun j1 => ∀ (x6 : Int32), pv_R g κ pv_T pv_RF 3 0 0 (pv_QF g κ pv_ji) 40 [(0, .ref (κ.1 + 196)), (2, .int x2)] [.int x6, .int x1] M2 (j1 x6)) (fun x6 => ?_) (fun j1 hj1 => ?_)
      · refine rw_iadd C dX9_restsNow_40 ?_
        refine rw_nm (fun x7 => ?_)
        refine rw_istore_n (lv' := [(1, .int x7), (0, .ref (κ.1 + 196)), (2, .int x2)]) C dX9_restsNow_41 rfl (by decide) rfl ?_
        refine rw_iinc (c := 1) (lv' := [(2, .int (x2 + 1)), (1, .int x7), (0, .ref (κ.1 + 196))]) C dX9_restsNow_42 2 rfl (by decide) (by decide) rfl ?_
        refine rw_goto (tgt := 4) C dX9_restsNow_45 (by decide) ?_
        exact rw_lv [2, 1, 0] rfl (hrec1 x7 (x2 + 1) M2)
      · refine rw_icmp_ne (tgt := 39) C dX9_restsNow_32 (by decide) ?_ ?_
        · refine rw_iconst (c := 0) C dX9_restsNow_39 ci_0 ?_
          exact rw_lv [0, 2] rfl (hj1 0)
        · refine rw_iconst (c := 1) C dX9_restsNow_35 ci_1 ?_
          refine rw_goto (tgt := 40) C dX9_restsNow_36 (by decide) ?_
          exact rw_lv [0, 2] rfl (hj1 1)
def f_X9_rests (M : pv_M) : Option (Int32 × pv_M) := pv_cal (f_X9_reads M) (fun u1 M1 => pv_cal (f_X9_restsNow M1) (fun x1 M2 => some (x1, M2)))
set_option maxHeartbeats 4000000 in
set_option maxRecDepth 100000 in
theorem k_X9_rests (l : Launch) (κ : pv_K) (M : pv_M) : pv_Mt l yX9_rests cX9_rests 1 (some .int) 7 κ [.ref (κ.1 + 196)] M pv_ji (f_X9_rests M) := by
  refine pv_enter (by decide +kernel) (Nat.le_of_ble_eq_true rfl) (fun g hl hR C => ?_)
  have C : pv_Ok g κ 1 cX9_rests RX9 (some .int) := C
  show pv_R g κ pv_T pv_RF 1 0 0 (pv_QF g κ pv_ji) 0 [(0, .ref (κ.1 + 196))] [] M (f_X9_rests M)
  unfold f_X9_rests
  refine rw_aload_n C dX9_rests_0 rfl 0 rfl ?_
  refine rw_callVu (As := []) (k0 := 196) C hR dX9_rests_1 cv_X9_151 (k_X9_reads g.2.1 κ M) (by decide) (by decide) (by decide) sh_196 rfl rfl (Nat.le_of_ble_eq_true rfl) rfl (fun u1 M1 => ?_)
  refine rw_aload_n C dX9_rests_4 rfl 0 rfl ?_
  refine rw_callVi (As := []) (k0 := 196) C hR dX9_rests_5 cv_X9_260 (k_X9_restsNow g.2.1 κ M1) (by decide) (by decide) (by decide) sh_196 rfl rfl (Nat.le_of_ble_eq_true rfl) rfl (fun x1 M2 => ?_)
  exact rw_iret C dX9_rests_8
def f_X9_gainBy (a1 : Int32) (a2 : Int32) (a3 : Int32) (a4 : Int32) (M : pv_M) : Option Int32 := pv_cap (f_X9_unitOf a4 M) (fun x1 => pv_jn (fun (x2 : Int32) => (if a3 = a1 then pv_cap (f_X9_holds a4 M) (fun x4 => some (x4 * x2)) else pv_cap (f_X9_gain 0 a3 a4 M) (fun x3 => some x3))) (fun j1 => (if x1 = 0 then j1 (a2 / 100) else (if x1 = 1 then j1 ((a2 / 10) - (a2 / 10) / 10 * 10) else j1 (a2 - a2 / 10 * 10)))))
set_option maxHeartbeats 4000000 in
set_option maxRecDepth 100000 in
theorem k_X9_gainBy (l : Launch) (κ : pv_K) (a1 : Int32) (a2 : Int32) (a3 : Int32) (a4 : Int32) (M : pv_M) : pv_MtP l yX9_gainBy cX9_gainBy 7 (some .int) 3 κ [.ref (κ.1 + 196), .int a1, .int a2, .int a3, .int a4] M pv_ji (f_X9_gainBy a1 a2 a3 a4 M) := by
  refine pv_enterP (by decide +kernel) (Nat.le_of_ble_eq_true rfl) (fun g hl hR C => ?_)
  have C : pv_Ok g κ 7 cX9_gainBy RX9 (some .int) := C
  show pv_R g κ pv_T pv_RF 7 0 0 (pv_QP g κ pv_ji M) 0 [(0, .ref (κ.1 + 196)), (1, .int a1), (2, .int a2), (3, .int a3), (4, .int a4)] [] M (f_X9_gainBy a1 a2 a3 a4 M)
  unfold f_X9_gainBy
  refine rw_aload_n C dX9_gainBy_0 rfl 0 rfl ?_
  refine rw_iload C dX9_gainBy_1 4 rfl ?_
  refine rw_callVPi (As := [.int a4]) (k0 := 196) C hR dX9_gainBy_3 cv_X9_183 (k_X9_unitOf g.2.1 κ a4 M) (by decide) (by decide) (by decide) sh_196 rfl rfl (Nat.le_of_ble_eq_true rfl) rfl (fun x1 => ?_)
  refine rw_istore (lv' := [(5, .int x1), (0, .ref (κ.1 + 196)), (1, .int a1), (2, .int a2), (3, .int a3), (4, .int a4)]) C dX9_gainBy_6 (by decide) rfl ?_
  refine rw_iload C dX9_gainBy_8 0 rfl ?_
  refine rw_jn (fun j1 => ∀ (x2 : Int32), pv_R g κ pv_T pv_RF 7 0 0 (pv_QP g κ pv_ji M) 40 [(0, .ref (κ.1 + 196)), (1, .int a1), (3, .int a3), (4, .int a4)] [.int x2] M (j1 x2)) (fun x2 => ?_) (fun j1 hj1 => ?_)
  · refine rw_istore (lv' := [(6, .int x2), (0, .ref (κ.1 + 196)), (1, .int a1), (3, .int a3), (4, .int a4)]) C dX9_gainBy_40 (by decide) rfl ?_
    refine rw_iload_n C dX9_gainBy_42 rfl 3 rfl ?_
    refine rw_iload_n C dX9_gainBy_43 rfl 2 rfl ?_
    refine rw_icmp_ne (tgt := 59) C dX9_gainBy_44 (by decide) ?_ ?_
    · refine rw_aload_n C dX9_gainBy_59 rfl 1 rfl ?_
      refine rw_iconst (c := 0) C dX9_gainBy_60 ci_0 ?_
      refine rw_iload_n C dX9_gainBy_61 rfl 3 rfl ?_
      refine rw_iload C dX9_gainBy_62 4 rfl ?_
      refine rw_callVPi (As := [.int 0, .int a3, .int a4]) (k0 := 196) C hR dX9_gainBy_64 cv_X9_186 (k_X9_gain g.2.1 κ 0 a3 a4 M) (by decide) (by decide) (by decide) sh_196 rfl rfl (Nat.le_of_ble_eq_true rfl) rfl (fun x3 => ?_)
      exact rw_iretP C dX9_gainBy_67
    · refine rw_aload_n C dX9_gainBy_47 rfl 1 rfl ?_
      refine rw_iload C dX9_gainBy_48 4 rfl ?_
      refine rw_callVPi (As := [.int a4]) (k0 := 196) C hR dX9_gainBy_50 cv_X9_180 (k_X9_holds g.2.1 κ a4 M) (by decide) (by decide) (by decide) sh_196 rfl rfl (Nat.le_of_ble_eq_true rfl) rfl (fun x4 => ?_)
      refine rw_iload C dX9_gainBy_53 0 rfl ?_
      refine rw_imul C dX9_gainBy_55 ?_
      refine rw_goto (tgt := 67) C dX9_gainBy_56 (by decide) ?_
      exact rw_iretP C dX9_gainBy_67
  · refine rw_if_ne (tgt := 20) C dX9_gainBy_10 (by decide) ?_ ?_
    · refine rw_iload C dX9_gainBy_20 0 rfl ?_
      refine rw_iconst (c := 1) C dX9_gainBy_22 ci_1 ?_
      refine rw_icmp_ne (tgt := 36) C dX9_gainBy_23 (by decide) ?_ ?_
      · refine rw_iload_n C dX9_gainBy_36 rfl 3 rfl ?_
        refine rw_bipush (c := 10) C dX9_gainBy_37 (by decide) ?_
        refine rw_irem C dX9_gainBy_39 (by decide) ?_
        exact rw_lv [1, 2, 4, 5] rfl (hj1 (a2 - a2 / 10 * 10))
      · refine rw_iload_n C dX9_gainBy_26 rfl 3 rfl ?_
        refine rw_bipush (c := 10) C dX9_gainBy_27 (by decide) ?_
        refine rw_idiv C dX9_gainBy_29 (by decide) ?_
        refine rw_bipush (c := 10) C dX9_gainBy_30 (by decide) ?_
        refine rw_irem C dX9_gainBy_32 (by decide) ?_
        refine rw_goto (tgt := 40) C dX9_gainBy_33 (by decide) ?_
        exact rw_lv [1, 2, 4, 5] rfl (hj1 ((a2 / 10) - (a2 / 10) / 10 * 10))
    · refine rw_iload_n C dX9_gainBy_13 rfl 3 rfl ?_
      refine rw_bipush (c := 100) C dX9_gainBy_14 (by decide) ?_
      refine rw_idiv C dX9_gainBy_16 (by decide) ?_
      refine rw_goto (tgt := 40) C dX9_gainBy_17 (by decide) ?_
      exact rw_lv [1, 2, 4, 5] rfl (hj1 (a2 / 100))
def f_X9_isElectedBy_L22 (rec1 : Int32 → pv_M → Option (Int32 × pv_M)) (x2 : Int32) (a1 : Int32) (a2 : Int32) (rec2 : Int32 → pv_M → Option (Int32 × pv_M)) (x4 : Int32) (M5 : pv_M) : Option (Int32 × pv_M) := pv_ldI pv_T 203 0 M5 (fun x5 => (if x5 ≤ x4 then rec1 (x2 + 1) M5 else pv_cap (f_X9_gainBy a1 a2 x4 x2 M5) (fun x6 => pv_ldI pv_T 214 x2 M5 (fun x7 => pv_cap (f_X9_gainBy a1 a2 x7 x2 M5) (fun x8 => pv_jn (fun (x9 : Int32) => pv_stI pv_T 214 x2 x9 M5 (fun M6 => rec2 (x4 + 1) M6)) (fun j2 => (if x6 ≤ x8 then pv_ldI pv_T 214 x2 M5 (fun x10 => j2 x10) else j2 x4)))))))
def f_X9_isElectedBy_L2 (j1 : pv_M → Option (Int32 × pv_M)) (a1 : Int32) (a2 : Int32) (rec1 : Int32 → pv_M → Option (Int32 × pv_M)) (x2 : Int32) (M3 : pv_M) : Option (Int32 × pv_M) := pv_ldI pv_T 203 1 M3 (fun x3 => (if x3 ≤ x2 then j1 M3 else pv_stI pv_T 214 x2 0 M3 (fun M4 => pv_lp2 (f_X9_isElectedBy_L22 rec1 x2 a1 a2) pv_FU 1 M4)))
def f_X9_isElectedBy (a1 : Int32) (a2 : Int32) (M : pv_M) : Option (Int32 × pv_M) := pv_jn (fun (M1 : pv_M) => pv_cal (f_X9_mostTold M1) (fun x1 M2 => (if x1 = a1 then some (1, M2) else some (0, M2)))) (fun j1 => pv_lp2 (f_X9_isElectedBy_L2 j1 a1 a2) pv_FU 0 M)
set_option maxHeartbeats 4000000 in
set_option maxRecDepth 100000 in
theorem k_X9_isElectedBy (l : Launch) (κ : pv_K) (a1 : Int32) (a2 : Int32) (M : pv_M) : pv_Mt l yX9_isElectedBy cX9_isElectedBy 5 (some .boolean) 4 κ [.ref (κ.1 + 196), .int a1, .int a2] M pv_ji (f_X9_isElectedBy a1 a2 M) := by
  refine pv_enter (by decide +kernel) (Nat.le_of_ble_eq_true rfl) (fun g hl hR C => ?_)
  have C : pv_Ok g κ 5 cX9_isElectedBy RX9 (some .boolean) := C
  show pv_R g κ pv_T pv_RF 5 0 0 (pv_QF g κ pv_ji) 0 [(0, .ref (κ.1 + 196)), (1, .int a1), (2, .int a2)] [] M (f_X9_isElectedBy a1 a2 M)
  unfold f_X9_isElectedBy
  refine rw_iconst (c := 0) C dX9_isElectedBy_0 ci_0 ?_
  refine rw_istore_n (lv' := [(3, .int 0), (0, .ref (κ.1 + 196)), (1, .int a1), (2, .int a2)]) C dX9_isElectedBy_1 rfl (by decide) rfl ?_
  refine rw_jn (fun j1 => ∀ (M1 : pv_M), pv_R g κ pv_T pv_RF 5 0 0 (pv_QF g κ pv_ji) 87 [(0, .ref (κ.1 + 196)), (1, .int a1)] [] M1 (j1 M1)) (fun M1 => ?_) (fun j1 hj1 => ?_)
  · refine rw_aload_n C dX9_isElectedBy_87 rfl 0 rfl ?_
    refine rw_callVi (As := []) (k0 := 196) C hR dX9_isElectedBy_88 cv_X9_239 (k_X9_mostTold g.2.1 κ M1) (by decide) (by decide) (by decide) sh_196 rfl rfl (Nat.le_of_ble_eq_true rfl) rfl (fun x1 M2 => ?_)
    refine rw_iload_n C dX9_isElectedBy_91 rfl 1 rfl ?_
    refine rw_icmp_ne (tgt := 99) C dX9_isElectedBy_92 (by decide) ?_ ?_
    · refine rw_iconst (c := 0) C dX9_isElectedBy_99 ci_0 ?_
      exact rw_zret (Or.inl rfl) C dX9_isElectedBy_100
    · refine rw_iconst (c := 1) C dX9_isElectedBy_95 ci_1 ?_
      refine rw_goto (tgt := 100) C dX9_isElectedBy_96 (by decide) ?_
      exact rw_zret (Or.inr rfl) C dX9_isElectedBy_100
  · refine rw_lv (lv' := [(0, .ref (κ.1 + 196)), (1, .int a1), (2, .int a2), (3, .int 0)]) [1, 2, 3, 0] rfl ?_
    refine pv_lp2_ind (fun x2 M3 xx => pv_R g κ pv_T pv_RF 5 0 0 (pv_QF g κ pv_ji) 2 [(0, .ref (κ.1 + 196)), (1, .int a1), (2, .int a2), (3, .int x2)] [] M3 xx) (fun _ _ => rw_none) (fun rec1 hrec1 x2 M3 => ?_) _ _ _
    unfold f_X9_isElectedBy_L2
    refine rw_iload_n C dX9_isElectedBy_2 rfl 3 rfl ?_
    refine rw_aload_n C dX9_isElectedBy_3 rfl 0 rfl ?_
    refine rw_getR (k0 := 196) (k1 := 203) C dX9_isElectedBy_4 fl_X9_28 rfl (by decide) sh_196 (by decide) rfl ?_
    refine rw_iconst (c := 1) C dX9_isElectedBy_7 ci_1 ?_
    refine rw_ldI C dX9_isElectedBy_8 (fun x3 => ?_)
    refine rw_icmp_ge (tgt := 87) C dX9_isElectedBy_9 (by decide) ?_ ?_
    · exact rw_lv [0, 1] rfl (hj1 M3)
    · refine rw_aload_n C dX9_isElectedBy_12 rfl 0 rfl ?_
      refine rw_getR (k0 := 196) (k1 := 214) C dX9_isElectedBy_13 fl_X9_61 rfl (by decide) sh_196 (by decide) rfl ?_
      refine rw_iload_n C dX9_isElectedBy_16 rfl 3 rfl ?_
      refine rw_iconst (c := 0) C dX9_isElectedBy_17 ci_0 ?_
      refine rw_stI C dX9_isElectedBy_18 (fun M4 => ?_)
      refine rw_iconst (c := 1) C dX9_isElectedBy_19 ci_1 ?_
      refine rw_istore (lv' := [(4, .int 1), (0, .ref (κ.1 + 196)), (1, .int a1), (2, .int a2), (3, .int x2)]) C dX9_isElectedBy_20 (by decide) rfl ?_
      refine rw_lv (lv' := [(0, .ref (κ.1 + 196)), (1, .int a1), (2, .int a2), (3, .int x2), (4, .int 1)]) [1, 2, 3, 4, 0] rfl ?_
      refine pv_lp2_ind (fun x4 M5 xx => pv_R g κ pv_T pv_RF 5 0 0 (pv_QF g κ pv_ji) 22 [(0, .ref (κ.1 + 196)), (1, .int a1), (2, .int a2), (3, .int x2), (4, .int x4)] [] M5 xx) (fun _ _ => rw_none) (fun rec2 hrec2 x4 M5 => ?_) _ _ _
      unfold f_X9_isElectedBy_L22
      refine rw_iload C dX9_isElectedBy_22 4 rfl ?_
      refine rw_aload_n C dX9_isElectedBy_24 rfl 0 rfl ?_
      refine rw_getR (k0 := 196) (k1 := 203) C dX9_isElectedBy_25 fl_X9_28 rfl (by decide) sh_196 (by decide) rfl ?_
      refine rw_iconst (c := 0) C dX9_isElectedBy_28 ci_0 ?_
      refine rw_ldI C dX9_isElectedBy_29 (fun x5 => ?_)
      refine rw_icmp_ge (tgt := 81) C dX9_isElectedBy_30 (by decide) ?_ ?_
      · refine rw_iinc (c := 1) (lv' := [(3, .int (x2 + 1)), (0, .ref (κ.1 + 196)), (1, .int a1), (2, .int a2), (4, .int x4)]) C dX9_isElectedBy_81 3 rfl (by decide) (by decide) rfl ?_
        refine rw_goto (tgt := 2) C dX9_isElectedBy_84 (by decide) ?_
        exact rw_lv [1, 2, 3, 0] rfl (hrec1 (x2 + 1) M5)
      · refine rw_aload_n C dX9_isElectedBy_33 rfl 0 rfl ?_
        refine rw_getR (k0 := 196) (k1 := 214) C dX9_isElectedBy_34 fl_X9_61 rfl (by decide) sh_196 (by decide) rfl ?_
        refine rw_iload_n C dX9_isElectedBy_37 rfl 3 rfl ?_
        refine rw_aload_n C dX9_isElectedBy_38 rfl 0 rfl ?_
        refine rw_iload_n C dX9_isElectedBy_39 rfl 1 rfl ?_
        refine rw_iload_n C dX9_isElectedBy_40 rfl 2 rfl ?_
        refine rw_iload C dX9_isElectedBy_41 4 rfl ?_
        refine rw_iload_n C dX9_isElectedBy_43 rfl 3 rfl ?_
        refine rw_callVPi (As := [.int a1, .int a2, .int x4, .int x2]) (k0 := 196) C hR dX9_isElectedBy_44 cv_X9_263 (k_X9_gainBy g.2.1 κ a1 a2 x4 x2 M5) (by decide) (by decide) (by decide) sh_196 rfl rfl (Nat.le_of_ble_eq_true rfl) rfl (fun x6 => ?_)
        refine rw_aload_n C dX9_isElectedBy_47 rfl 0 rfl ?_
        refine rw_iload_n C dX9_isElectedBy_48 rfl 1 rfl ?_
        refine rw_iload_n C dX9_isElectedBy_49 rfl 2 rfl ?_
        refine rw_aload_n C dX9_isElectedBy_50 rfl 0 rfl ?_
        refine rw_getR (k0 := 196) (k1 := 214) C dX9_isElectedBy_51 fl_X9_61 rfl (by decide) sh_196 (by decide) rfl ?_
        refine rw_iload_n C dX9_isElectedBy_54 rfl 3 rfl ?_
        refine rw_ldI C dX9_isElectedBy_55 (fun x7 => ?_)
        refine rw_iload_n C dX9_isElectedBy_56 rfl 3 rfl ?_
        refine rw_callVPi (As := [.int a1, .int a2, .int x7, .int x2]) (k0 := 196) C hR dX9_isElectedBy_57 cv_X9_263 (k_X9_gainBy g.2.1 κ a1 a2 x7 x2 M5) (by decide) (by decide) (by decide) sh_196 rfl rfl (Nat.le_of_ble_eq_true rfl) rfl (fun x8 => ?_)
        refine rw_jn (fun j2 => ∀ (x9 : Int32), pv_R g κ pv_T pv_RF 5 0 0 (pv_QF g κ pv_ji) 74 [(0, .ref (κ.1 + 196)), (1, .int a1), (2, .int a2), (3, .int x2), (4, .int x4)] [.int x9, .int x2, .ref (κ.1 + 214)] M5 (j2 x9)) (fun x9 => ?_) (fun j2 hj2 => ?_)
        · refine rw_stI C dX9_isElectedBy_74 (fun M6 => ?_)
          refine rw_iinc (c := 1) (lv' := [(4, .int (x4 + 1)), (0, .ref (κ.1 + 196)), (1, .int a1), (2, .int a2), (3, .int x2)]) C dX9_isElectedBy_75 4 rfl (by decide) (by decide) rfl ?_
          refine rw_goto (tgt := 22) C dX9_isElectedBy_78 (by decide) ?_
          exact rw_lv [1, 2, 3, 4, 0] rfl (hrec2 (x4 + 1) M6)
        · refine rw_icmp_le (tgt := 68) C dX9_isElectedBy_60 (by decide) ?_ ?_
          · refine rw_aload_n C dX9_isElectedBy_68 rfl 0 rfl ?_
            refine rw_getR (k0 := 196) (k1 := 214) C dX9_isElectedBy_69 fl_X9_61 rfl (by decide) sh_196 (by decide) rfl ?_
            refine rw_iload_n C dX9_isElectedBy_72 rfl 3 rfl ?_
            refine rw_ldI C dX9_isElectedBy_73 (fun x10 => ?_)
            exact hj2 x10
          · refine rw_iload C dX9_isElectedBy_63 4 rfl ?_
            refine rw_goto (tgt := 74) C dX9_isElectedBy_65 (by decide) ?_
            exact hj2 x4
def f_X9_findWish_L17 (a1 : Int32) (rec1 : Int32 → pv_M → Option (Unit × pv_M)) (x1 : Int32) (M3 : pv_M) : Option (Unit × pv_M) := (if 1000 ≤ x1 then some ((), M3) else pv_nm (x1 / 100) (fun x2 => pv_nm ((x1 / 10) - (x1 / 10) / 10 * 10) (fun x3 => pv_nm (x1 - x1 / 10 * 10) (fun x4 => (if x3 ≤ 0 then rec1 (x1 + 1) M3 else (if x4 ≤ 0 then rec1 (x1 + 1) M3 else pv_cap (f_X9_ticketOf 0 a1 0 M3) (fun x5 => pv_cap (f_X9_amount (x2 - x5) M3) (fun x6 => pv_cap (f_X9_ticketOf 0 a1 1 M3) (fun x7 => pv_cap (f_X9_amount (x3 - x7) M3) (fun x8 => pv_cap (f_X9_ticketOf 0 a1 2 M3) (fun x9 => pv_cap (f_X9_amount (x4 - x9) M3) (fun x10 => pv_nm ((x6 + x8) + x10) (fun x11 => pv_ldI pv_T 215 1 M3 (fun x12 => pv_jn (pv_cal (f_X9_isElectedBy a1 x1 M3) (fun x13 M4 => (if x13 = 0 then rec1 (x1 + 1) M4 else pv_stI pv_T 215 0 x1 M4 (fun M5 => pv_stI pv_T 215 1 x11 M5 (fun M6 => rec1 (x1 + 1) M6))))) (fun j1 => (if x12 = ((-1)) then j1 else pv_ldI pv_T 215 1 M3 (fun x14 => (if x14 ≤ x11 then rec1 (x1 + 1) M3 else j1))))))))))))))))))
def f_X9_findWish (a1 : Int32) (M : pv_M) : Option (Unit × pv_M) := pv_stI pv_T 215 0 ((-1)) M (fun M1 => pv_stI pv_T 215 1 ((-1)) M1 (fun M2 => pv_lp2 (f_X9_findWish_L17 a1) pv_FU 111 M2))
set_option maxHeartbeats 4000000 in
set_option maxRecDepth 100000 in
theorem k_X9_findWish (l : Launch) (κ : pv_K) (a1 : Int32) (M : pv_M) : pv_Mt l yX9_findWish cX9_findWish 7 none 5 κ [.ref (κ.1 + 196), .int a1] M pv_ju (f_X9_findWish a1 M) := by
  refine pv_enter (by decide +kernel) (Nat.le_of_ble_eq_true rfl) (fun g hl hR C => ?_)
  have C : pv_Ok g κ 7 cX9_findWish RX9 none := C
  show pv_R g κ pv_T pv_RF 7 0 0 (pv_QF g κ pv_ju) 0 [(0, .ref (κ.1 + 196)), (1, .int a1)] [] M (f_X9_findWish a1 M)
  unfold f_X9_findWish
  refine rw_aload_n C dX9_findWish_0 rfl 0 rfl ?_
  refine rw_getR (k0 := 196) (k1 := 215) C dX9_findWish_1 fl_X9_64 rfl (by decide) sh_196 (by decide) rfl ?_
  refine rw_iconst (c := 0) C dX9_findWish_4 ci_0 ?_
  refine rw_iconst (c := (-1)) C dX9_findWish_5 ci_m1 ?_
  refine rw_stI C dX9_findWish_6 (fun M1 => ?_)
  refine rw_aload_n C dX9_findWish_7 rfl 0 rfl ?_
  refine rw_getR (k0 := 196) (k1 := 215) C dX9_findWish_8 fl_X9_64 rfl (by decide) sh_196 (by decide) rfl ?_
  refine rw_iconst (c := 1) C dX9_findWish_11 ci_1 ?_
  refine rw_iconst (c := (-1)) C dX9_findWish_12 ci_m1 ?_
  refine rw_stI C dX9_findWish_13 (fun M2 => ?_)
  refine rw_bipush (c := 111) C dX9_findWish_14 (by decide) ?_
  refine rw_istore_n (lv' := [(2, .int 111), (0, .ref (κ.1 + 196)), (1, .int a1)]) C dX9_findWish_16 rfl (by decide) rfl ?_
  refine rw_lv (lv' := [(0, .ref (κ.1 + 196)), (1, .int a1), (2, .int 111)]) [1, 2, 0] rfl ?_
  refine pv_lp2_ind (fun x1 M3 xx => pv_R g κ pv_T pv_RF 7 0 0 (pv_QF g κ pv_ju) 17 [(0, .ref (κ.1 + 196)), (1, .int a1), (2, .int x1)] [] M3 xx) (fun _ _ => rw_none) (fun rec1 hrec1 x1 M3 => ?_) _ _ _
  unfold f_X9_findWish_L17
  refine rw_iload_n C dX9_findWish_17 rfl 2 rfl ?_
  refine rw_sipush (c := 1000) C dX9_findWish_18 (by decide) ?_
  refine rw_icmp_ge (tgt := 147) C dX9_findWish_21 (by decide) ?_ ?_
  · exact rw_vret C dX9_findWish_147
  · refine rw_iload_n C dX9_findWish_24 rfl 2 rfl ?_
    refine rw_bipush (c := 100) C dX9_findWish_25 (by decide) ?_
    refine rw_idiv C dX9_findWish_27 (by decide) ?_
    refine rw_nm (fun x2 => ?_)
    refine rw_istore_n (lv' := [(3, .int x2), (0, .ref (κ.1 + 196)), (1, .int a1), (2, .int x1)]) C dX9_findWish_28 rfl (by decide) rfl ?_
    refine rw_iload_n C dX9_findWish_29 rfl 3 rfl ?_
    refine rw_bipush (c := 10) C dX9_findWish_30 (by decide) ?_
    refine rw_idiv C dX9_findWish_32 (by decide) ?_
    refine rw_bipush (c := 10) C dX9_findWish_33 (by decide) ?_
    refine rw_irem C dX9_findWish_35 (by decide) ?_
    refine rw_nm (fun x3 => ?_)
    refine rw_istore (lv' := [(4, .int x3), (3, .int x2), (0, .ref (κ.1 + 196)), (1, .int a1), (2, .int x1)]) C dX9_findWish_36 (by decide) rfl ?_
    refine rw_iload_n C dX9_findWish_38 rfl 4 rfl ?_
    refine rw_bipush (c := 10) C dX9_findWish_39 (by decide) ?_
    refine rw_irem C dX9_findWish_41 (by decide) ?_
    refine rw_nm (fun x4 => ?_)
    refine rw_istore (lv' := [(5, .int x4), (4, .int x3), (3, .int x2), (0, .ref (κ.1 + 196)), (1, .int a1), (2, .int x1)]) C dX9_findWish_42 (by decide) rfl ?_
    refine rw_iload C dX9_findWish_44 1 rfl ?_
    refine rw_if_le (tgt := 141) C dX9_findWish_46 (by decide) ?_ ?_
    · refine rw_iinc (c := 1) (lv' := [(2, .int (x1 + 1)), (5, .int x4), (4, .int x3), (3, .int x2), (0, .ref (κ.1 + 196)), (1, .int a1)]) C dX9_findWish_141 5 rfl (by decide) (by decide) rfl ?_
      refine rw_goto (tgt := 17) C dX9_findWish_144 (by decide) ?_
      exact rw_lv [4, 5, 0] rfl (hrec1 (x1 + 1) M3)
    · refine rw_iload C dX9_findWish_49 0 rfl ?_
      refine rw_if_le (tgt := 141) C dX9_findWish_51 (by decide) ?_ ?_
      · refine rw_iinc (c := 1) (lv' := [(2, .int (x1 + 1)), (5, .int x4), (4, .int x3), (3, .int x2), (0, .ref (κ.1 + 196)), (1, .int a1)]) C dX9_findWish_141 5 rfl (by decide) (by decide) rfl ?_
        refine rw_goto (tgt := 17) C dX9_findWish_144 (by decide) ?_
        exact rw_lv [4, 5, 0] rfl (hrec1 (x1 + 1) M3)
      · refine rw_iload_n C dX9_findWish_54 rfl 2 rfl ?_
        refine rw_aload_n C dX9_findWish_55 rfl 3 rfl ?_
        refine rw_iconst (c := 0) C dX9_findWish_56 ci_0 ?_
        refine rw_iload_n C dX9_findWish_57 rfl 4 rfl ?_
        refine rw_iconst (c := 0) C dX9_findWish_58 ci_0 ?_
        refine rw_callVPi (As := [.int 0, .int a1, .int 0]) (k0 := 196) C hR dX9_findWish_59 cv_X9_177 (k_X9_ticketOf g.2.1 κ 0 a1 0 M3) (by decide) (by decide) (by decide) sh_196 rfl rfl (Nat.le_of_ble_eq_true rfl) rfl (fun x5 => ?_)
        refine rw_isub C dX9_findWish_62 ?_
        refine rw_callSPi (As := [.int (x2 - x5)]) C hR dX9_findWish_63 cs_X9_233 (k_X9_amount g.2.1 κ (x2 - x5) M3) (by decide) (by decide) rfl (Nat.le_of_ble_eq_true rfl) rfl (fun x6 => ?_)
        refine rw_iload C dX9_findWish_66 1 rfl ?_
        refine rw_aload_n C dX9_findWish_68 rfl 3 rfl ?_
        refine rw_iconst (c := 0) C dX9_findWish_69 ci_0 ?_
        refine rw_iload_n C dX9_findWish_70 rfl 4 rfl ?_
        refine rw_iconst (c := 1) C dX9_findWish_71 ci_1 ?_
        refine rw_callVPi (As := [.int 0, .int a1, .int 1]) (k0 := 196) C hR dX9_findWish_72 cv_X9_177 (k_X9_ticketOf g.2.1 κ 0 a1 1 M3) (by decide) (by decide) (by decide) sh_196 rfl rfl (Nat.le_of_ble_eq_true rfl) rfl (fun x7 => ?_)
        refine rw_isub C dX9_findWish_75 ?_
        refine rw_callSPi (As := [.int (x3 - x7)]) C hR dX9_findWish_76 cs_X9_233 (k_X9_amount g.2.1 κ (x3 - x7) M3) (by decide) (by decide) rfl (Nat.le_of_ble_eq_true rfl) rfl (fun x8 => ?_)
        refine rw_iadd C dX9_findWish_79 ?_
        refine rw_iload C dX9_findWish_80 0 rfl ?_
        refine rw_aload_n C dX9_findWish_82 rfl 3 rfl ?_
        refine rw_iconst (c := 0) C dX9_findWish_83 ci_0 ?_
        refine rw_iload_n C dX9_findWish_84 rfl 4 rfl ?_
        refine rw_iconst (c := 2) C dX9_findWish_85 ci_2 ?_
        refine rw_callVPi (As := [.int 0, .int a1, .int 2]) (k0 := 196) C hR dX9_findWish_86 cv_X9_177 (k_X9_ticketOf g.2.1 κ 0 a1 2 M3) (by decide) (by decide) (by decide) sh_196 rfl rfl (Nat.le_of_ble_eq_true rfl) rfl (fun x9 => ?_)
        refine rw_isub C dX9_findWish_89 ?_
        refine rw_callSPi (As := [.int (x4 - x9)]) C hR dX9_findWish_90 cs_X9_233 (k_X9_amount g.2.1 κ (x4 - x9) M3) (by decide) (by decide) rfl (Nat.le_of_ble_eq_true rfl) rfl (fun x10 => ?_)
        refine rw_iadd C dX9_findWish_93 ?_
        refine rw_nm (fun x11 => ?_)
        refine rw_istore (lv' := [(6, .int x11), (5, .int x4), (4, .int x3), (3, .int x2), (0, .ref (κ.1 + 196)), (1, .int a1), (2, .int x1)]) C dX9_findWish_94 (by decide) rfl ?_
        refine rw_aload_n C dX9_findWish_96 rfl 4 rfl ?_
        refine rw_getR (k0 := 196) (k1 := 215) C dX9_findWish_97 fl_X9_64 rfl (by decide) sh_196 (by decide) rfl ?_
        refine rw_iconst (c := 1) C dX9_findWish_100 ci_1 ?_
        refine rw_ldI C dX9_findWish_101 (fun x12 => ?_)
        refine rw_iconst (c := (-1)) C dX9_findWish_102 ci_m1 ?_
        refine rw_jn (fun j1 => pv_R g κ pv_T pv_RF 7 0 0 (pv_QF g κ pv_ju) 117 [(0, .ref (κ.1 + 196)), (1, .int a1), (2, .int x1), (6, .int x11)] [] M3 (j1)) (?_) (fun j1 hj1 => ?_)
        · refine rw_aload_n C dX9_findWish_117 rfl 0 rfl ?_
          refine rw_iload_n C dX9_findWish_118 rfl 1 rfl ?_
          refine rw_iload_n C dX9_findWish_119 rfl 2 rfl ?_
          refine rw_callVi (As := [.int a1, .int x1]) (k0 := 196) C hR dX9_findWish_120 cv_X9_267 (k_X9_isElectedBy g.2.1 κ a1 x1 M3) (by decide) (by decide) (by decide) sh_196 rfl rfl (Nat.le_of_ble_eq_true rfl) rfl (fun x13 M4 => ?_)
          refine rw_if_eq (tgt := 141) C dX9_findWish_123 (by decide) ?_ ?_
          · refine rw_iinc (c := 1) (lv' := [(2, .int (x1 + 1)), (0, .ref (κ.1 + 196)), (1, .int a1), (6, .int x11)]) C dX9_findWish_141 2 rfl (by decide) (by decide) rfl ?_
            refine rw_goto (tgt := 17) C dX9_findWish_144 (by decide) ?_
            exact rw_lv [1, 2, 0] rfl (hrec1 (x1 + 1) M4)
          · refine rw_aload_n C dX9_findWish_126 rfl 0 rfl ?_
            refine rw_getR (k0 := 196) (k1 := 215) C dX9_findWish_127 fl_X9_64 rfl (by decide) sh_196 (by decide) rfl ?_
            refine rw_iconst (c := 0) C dX9_findWish_130 ci_0 ?_
            refine rw_iload_n C dX9_findWish_131 rfl 2 rfl ?_
            refine rw_stI C dX9_findWish_132 (fun M5 => ?_)
            refine rw_aload_n C dX9_findWish_133 rfl 0 rfl ?_
            refine rw_getR (k0 := 196) (k1 := 215) C dX9_findWish_134 fl_X9_64 rfl (by decide) sh_196 (by decide) rfl ?_
            refine rw_iconst (c := 1) C dX9_findWish_137 ci_1 ?_
            refine rw_iload C dX9_findWish_138 3 rfl ?_
            refine rw_stI C dX9_findWish_140 (fun M6 => ?_)
            refine rw_iinc (c := 1) (lv' := [(2, .int (x1 + 1)), (0, .ref (κ.1 + 196)), (1, .int a1), (6, .int x11)]) C dX9_findWish_141 2 rfl (by decide) (by decide) rfl ?_
            refine rw_goto (tgt := 17) C dX9_findWish_144 (by decide) ?_
            exact rw_lv [1, 2, 0] rfl (hrec1 (x1 + 1) M6)
        · refine rw_icmp_eq (tgt := 117) C dX9_findWish_103 (by decide) ?_ ?_
          · exact rw_lv [4, 5, 6, 0] rfl (hj1 )
          · refine rw_iload C dX9_findWish_106 0 rfl ?_
            refine rw_aload_n C dX9_findWish_108 rfl 4 rfl ?_
            refine rw_getR (k0 := 196) (k1 := 215) C dX9_findWish_109 fl_X9_64 rfl (by decide) sh_196 (by decide) rfl ?_
            refine rw_iconst (c := 1) C dX9_findWish_112 ci_1 ?_
            refine rw_ldI C dX9_findWish_113 (fun x14 => ?_)
            refine rw_icmp_ge (tgt := 141) C dX9_findWish_114 (by decide) ?_ ?_
            · refine rw_iinc (c := 1) (lv' := [(2, .int (x1 + 1)), (6, .int x11), (5, .int x4), (4, .int x3), (3, .int x2), (0, .ref (κ.1 + 196)), (1, .int a1)]) C dX9_findWish_141 6 rfl (by decide) (by decide) rfl ?_
              refine rw_goto (tgt := 17) C dX9_findWish_144 (by decide) ?_
              exact rw_lv [5, 6, 0] rfl (hrec1 (x1 + 1) M3)
            · exact rw_lv [4, 5, 6, 0] rfl (hj1 )
