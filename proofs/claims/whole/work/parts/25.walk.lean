def f_X8_digest_L84 (j3 : Int64 → pv_M → Option (Int64 × pv_M)) (rec1 : Int64 → Int32 → pv_M → Option (Int64 × pv_M)) (x10 : Int64) (x11 : Int32) (M8 : pv_M) : Option (Int64 × pv_M) := (if 2 < x11 then j3 x10 M8 else pv_cal (f_X8_round x11 M8) (fun x12 M9 => pv_cap (f_X8_mix x10 x12.toInt64 M9) (fun x13 => rec1 x13 (x11 + 1) M9)))
def f_X8_digest_L35 (j2 : Int64 → Option (Int64 × pv_M)) (M1 : pv_M) (rec2 : Int64 → Int32 → Option (Int64 × pv_M)) (x14 : Int64) (x15 : Int32) : Option (Int64 × pv_M) := (if 2 < x15 then j2 x14 else pv_cap (f_X8_fault x15 M1) (fun x16 => pv_cap (f_X8_mix x14 x16.toInt64 M1) (fun x17 => rec2 x17 (x15 + 1))))
def f_X8_digest_J57 (M1 : pv_M) (x2 : Int64) : Option (Int64 × pv_M) := pv_cal (f_X8_mixYears x2 M1) (fun x3 M2 => pv_cal (f_X8_mixPeople x3 M2) (fun x4 M3 => pv_cal (f_X8_mixVotes x4 M3) (fun x5 M4 => pv_cal (f_X8_mixRatios x5 M4) (fun x6 M5 => pv_jn (fun (x7 : Int64) (M6 : pv_M) => pv_cal (f_X8_years M6) (fun x8 M7 => pv_cap (f_X8_mix x7 x8.toInt64 M7) (fun x9 => some (x9, M7)))) (fun j3 => pv_lp3 (f_X8_digest_L84 j3) pv_FU x6 ((-2)) M5)))))
def f_X8_digest_L10 (j1 : Int64 → Option (Int64 × pv_M)) (M1 : pv_M) (rec3 : Int64 → Int32 → Option (Int64 × pv_M)) (x18 : Int64) (x19 : Int32) : Option (Int64 × pv_M) := (if 7 < x19 then j1 x18 else pv_cap (f_X8_count x19 M1) (fun x20 => pv_cap (f_X8_mix x18 x20.toInt64 M1) (fun x21 => rec3 x21 (x19 + 1))))
def f_X8_digest (M : pv_M) : Option (Int64 × pv_M) := pv_cal (f_X8_settle M) (fun u1 M1 => pv_jn (fun (x1 : Int64) => pv_jn (f_X8_digest_J57 M1) (fun j2 => pv_lp2 (f_X8_digest_L35 j2 M1) pv_FU x1 0)) (fun j1 => pv_lp2 (f_X8_digest_L10 j1 M1) pv_FU 17 0))
set_option maxHeartbeats 4000000 in
set_option maxRecDepth 100000 in
theorem k_X8_digest (l : Launch) (κ : pv_K) (M : pv_M) : pv_Mt l yX8_digest cX8_digest 4 (some .long) 27 κ [.ref (κ.1 + 0)] M pv_jl (f_X8_digest M) := by
  refine pv_enter (by decide +kernel) (Nat.le_of_ble_eq_true rfl) (fun g hl hR C => ?_)
  have C : pv_Ok g κ 4 cX8_digest RX8 (some .long) := C
  show pv_R g κ pv_T pv_RF 4 0 0 (pv_QF g κ pv_jl) 0 [(0, .ref (κ.1 + 0))] [] M (f_X8_digest M)
  unfold f_X8_digest
  refine rw_aload_n C dX8_digest_0 rfl 0 rfl ?_
  refine rw_callVu (As := []) (k0 := 0) C hR dX8_digest_1 cv_X8_143 (k_X8_settle g.2.1 κ M) (by decide) (by decide) (by decide) sh_0 rfl rfl (Nat.le_of_ble_eq_true rfl) rfl (fun u1 M1 => ?_)
  refine rw_ldc2_w (c := 17) C dX8_digest_4 mw_1104 ?_
  refine rw_lstore_n (lv' := [(1, .long 17), (0, .ref (κ.1 + 0))]) C dX8_digest_7 rfl (by decide) rfl ?_
  refine rw_iconst (c := 0) C dX8_digest_8 ci_0 ?_
  refine rw_istore_n (lv' := [(3, .int 0), (1, .long 17), (0, .ref (κ.1 + 0))]) C dX8_digest_9 rfl (by decide) rfl ?_
  refine rw_jn (fun j1 => ∀ (x1 : Int64), pv_R g κ pv_T pv_RF 4 0 0 (pv_QF g κ pv_jl) 33 [(0, .ref (κ.1 + 0)), (1, .long x1)] [] M1 (j1 x1)) (fun x1 => ?_) (fun j1 hj1 => ?_)
  · refine rw_iconst (c := 0) C dX8_digest_33 ci_0 ?_
    refine rw_istore_n (lv' := [(3, .int 0), (0, .ref (κ.1 + 0)), (1, .long x1)]) C dX8_digest_34 rfl (by decide) rfl ?_
    refine rw_jn (fun j2 => ∀ (x2 : Int64), pv_R g κ pv_T pv_RF 4 0 0 (pv_QF g κ pv_jl) 57 [(0, .ref (κ.1 + 0)), (1, .long x2)] [] M1 (j2 x2)) (fun x2 => ?_) (fun j2 hj2 => ?_)
    · unfold f_X8_digest_J57
      refine rw_aload_n C dX8_digest_57 rfl 0 rfl ?_
      refine rw_lload_n C dX8_digest_58 rfl 1 rfl ?_
      refine rw_callVl (As := [.long x2]) (k0 := 0) C hR dX8_digest_59 cv_X8_337 (k_X8_mixYears g.2.1 κ x2 M1) (by decide) (by decide) (by decide) sh_0 rfl rfl (Nat.le_of_ble_eq_true rfl) rfl (fun x3 M2 => ?_)
      refine rw_lstore_n (lv' := [(1, .long x3), (0, .ref (κ.1 + 0))]) C dX8_digest_62 rfl (by decide) rfl ?_
      refine rw_aload_n C dX8_digest_63 rfl 1 rfl ?_
      refine rw_lload_n C dX8_digest_64 rfl 0 rfl ?_
      refine rw_callVl (As := [.long x3]) (k0 := 0) C hR dX8_digest_65 cv_X8_341 (k_X8_mixPeople g.2.1 κ x3 M2) (by decide) (by decide) (by decide) sh_0 rfl rfl (Nat.le_of_ble_eq_true rfl) rfl (fun x4 M3 => ?_)
      refine rw_lstore_n (lv' := [(1, .long x4), (0, .ref (κ.1 + 0))]) C dX8_digest_68 rfl (by decide) rfl ?_
      refine rw_aload_n C dX8_digest_69 rfl 1 rfl ?_
      refine rw_lload_n C dX8_digest_70 rfl 0 rfl ?_
      refine rw_callVl (As := [.long x4]) (k0 := 0) C hR dX8_digest_71 cv_X8_344 (k_X8_mixVotes g.2.1 κ x4 M3) (by decide) (by decide) (by decide) sh_0 rfl rfl (Nat.le_of_ble_eq_true rfl) rfl (fun x5 M4 => ?_)
      refine rw_lstore_n (lv' := [(1, .long x5), (0, .ref (κ.1 + 0))]) C dX8_digest_74 rfl (by decide) rfl ?_
      refine rw_aload_n C dX8_digest_75 rfl 1 rfl ?_
      refine rw_lload_n C dX8_digest_76 rfl 0 rfl ?_
      refine rw_callVl (As := [.long x5]) (k0 := 0) C hR dX8_digest_77 cv_X8_347 (k_X8_mixRatios g.2.1 κ x5 M4) (by decide) (by decide) (by decide) sh_0 rfl rfl (Nat.le_of_ble_eq_true rfl) rfl (fun x6 M5 => ?_)
      refine rw_lstore_n (lv' := [(1, .long x6), (0, .ref (κ.1 + 0))]) C dX8_digest_80 rfl (by decide) rfl ?_
      refine rw_bipush (c := (-2)) C dX8_digest_81 (by decide) ?_
      refine rw_istore_n (lv' := [(3, .int (-2)), (1, .long x6), (0, .ref (κ.1 + 0))]) C dX8_digest_83 rfl (by decide) rfl ?_
      refine rw_jn (fun j3 => ∀ (x7 : Int64) (M6 : pv_M), pv_R g κ pv_T pv_RF 4 0 0 (pv_QF g κ pv_jl) 106 [(0, .ref (κ.1 + 0)), (1, .long x7)] [] M6 (j3 x7 M6)) (fun x7 M6 => ?_) (fun j3 hj3 => ?_)
      · refine rw_lload_n C dX8_digest_106 rfl 1 rfl ?_
        refine rw_aload_n C dX8_digest_107 rfl 0 rfl ?_
        refine rw_callVi (As := []) (k0 := 0) C hR dX8_digest_108 cv_X8_353 (k_X8_years g.2.1 κ M6) (by decide) (by decide) (by decide) sh_0 rfl rfl (Nat.le_of_ble_eq_true rfl) rfl (fun x8 M7 => ?_)
        refine rw_i2l C dX8_digest_111 ?_
        refine rw_callSPl (As := [.long x7, .long (x8.toInt64)]) C hR dX8_digest_112 cs_X8_330 (k_X8_mix g.2.1 κ x7 x8.toInt64 M7) (by decide) (by decide) rfl (Nat.le_of_ble_eq_true rfl) rfl (fun x9 => ?_)
        exact rw_lret C dX8_digest_115
      · refine rw_lv (lv' := [(0, .ref (κ.1 + 0)), (1, .long x6), (3, .int (-2))]) [2, 1, 0] rfl ?_
        refine pv_lp3_ind (fun x10 x11 M8 xx => pv_R g κ pv_T pv_RF 4 0 0 (pv_QF g κ pv_jl) 84 [(0, .ref (κ.1 + 0)), (1, .long x10), (3, .int x11)] [] M8 xx) (fun _ _ _ => rw_none) (fun rec1 hrec1 x10 x11 M8 => ?_) _ _ _ _
        unfold f_X8_digest_L84
        refine rw_iload_n C dX8_digest_84 rfl 2 rfl ?_
        refine rw_iconst (c := 2) C dX8_digest_85 ci_2 ?_
        refine rw_icmp_gt (tgt := 106) C dX8_digest_86 (by decide) ?_ ?_
        · exact rw_lv [0, 1] rfl (hj3 x10 M8)
        · refine rw_lload_n C dX8_digest_89 rfl 1 rfl ?_
          refine rw_aload_n C dX8_digest_90 rfl 0 rfl ?_
          refine rw_iload_n C dX8_digest_91 rfl 2 rfl ?_
          refine rw_callVi (As := [.int x11]) (k0 := 0) C hR dX8_digest_92 cv_X8_350 (k_X8_round g.2.1 κ x11 M8) (by decide) (by decide) (by decide) sh_0 rfl rfl (Nat.le_of_ble_eq_true rfl) rfl (fun x12 M9 => ?_)
          refine rw_i2l C dX8_digest_95 ?_
          refine rw_callSPl (As := [.long x10, .long (x12.toInt64)]) C hR dX8_digest_96 cs_X8_330 (k_X8_mix g.2.1 κ x10 x12.toInt64 M9) (by decide) (by decide) rfl (Nat.le_of_ble_eq_true rfl) rfl (fun x13 => ?_)
          refine rw_lstore_n (lv' := [(1, .long x13), (0, .ref (κ.1 + 0)), (3, .int x11)]) C dX8_digest_99 rfl (by decide) rfl ?_
          refine rw_iinc (c := 1) (lv' := [(3, .int (x11 + 1)), (1, .long x13), (0, .ref (κ.1 + 0))]) C dX8_digest_100 2 rfl (by decide) (by decide) rfl ?_
          refine rw_goto (tgt := 84) C dX8_digest_103 (by decide) ?_
          exact rw_lv [2, 1, 0] rfl (hrec1 x13 (x11 + 1) M9)
    · refine rw_lv (lv' := [(0, .ref (κ.1 + 0)), (1, .long x1), (3, .int 0)]) [1, 2, 0] rfl ?_
      refine pv_lp2_ind (fun x14 x15 xx => pv_R g κ pv_T pv_RF 4 0 0 (pv_QF g κ pv_jl) 35 [(0, .ref (κ.1 + 0)), (1, .long x14), (3, .int x15)] [] M1 xx) (fun _ _ => rw_none) (fun rec2 hrec2 x14 x15 => ?_) _ _ _
      unfold f_X8_digest_L35
      refine rw_iload_n C dX8_digest_35 rfl 2 rfl ?_
      refine rw_iconst (c := 2) C dX8_digest_36 ci_2 ?_
      refine rw_icmp_gt (tgt := 57) C dX8_digest_37 (by decide) ?_ ?_
      · exact rw_lv [0, 1] rfl (hj2 x14)
      · refine rw_lload_n C dX8_digest_40 rfl 1 rfl ?_
        refine rw_aload_n C dX8_digest_41 rfl 0 rfl ?_
        refine rw_iload_n C dX8_digest_42 rfl 2 rfl ?_
        refine rw_callVPi (As := [.int x15]) (k0 := 0) C hR dX8_digest_43 cv_X8_334 (k_X8_fault g.2.1 κ x15 M1) (by decide) (by decide) (by decide) sh_0 rfl rfl (Nat.le_of_ble_eq_true rfl) rfl (fun x16 => ?_)
        refine rw_i2l C dX8_digest_46 ?_
        refine rw_callSPl (As := [.long x14, .long (x16.toInt64)]) C hR dX8_digest_47 cs_X8_330 (k_X8_mix g.2.1 κ x14 x16.toInt64 M1) (by decide) (by decide) rfl (Nat.le_of_ble_eq_true rfl) rfl (fun x17 => ?_)
        refine rw_lstore_n (lv' := [(1, .long x17), (0, .ref (κ.1 + 0)), (3, .int x15)]) C dX8_digest_50 rfl (by decide) rfl ?_
        refine rw_iinc (c := 1) (lv' := [(3, .int (x15 + 1)), (1, .long x17), (0, .ref (κ.1 + 0))]) C dX8_digest_51 2 rfl (by decide) (by decide) rfl ?_
        refine rw_goto (tgt := 35) C dX8_digest_54 (by decide) ?_
        exact rw_lv [2, 1, 0] rfl (hrec2 x17 (x15 + 1))
  · refine rw_lv (lv' := [(0, .ref (κ.1 + 0)), (1, .long 17), (3, .int 0)]) [2, 1, 0] rfl ?_
    refine pv_lp2_ind (fun x18 x19 xx => pv_R g κ pv_T pv_RF 4 0 0 (pv_QF g κ pv_jl) 10 [(0, .ref (κ.1 + 0)), (1, .long x18), (3, .int x19)] [] M1 xx) (fun _ _ => rw_none) (fun rec3 hrec3 x18 x19 => ?_) _ _ _
    unfold f_X8_digest_L10
    refine rw_iload_n C dX8_digest_10 rfl 2 rfl ?_
    refine rw_bipush (c := 7) C dX8_digest_11 (by decide) ?_
    refine rw_icmp_gt (tgt := 33) C dX8_digest_13 (by decide) ?_ ?_
    · exact rw_lv [0, 1] rfl (hj1 x18)
    · refine rw_lload_n C dX8_digest_16 rfl 1 rfl ?_
      refine rw_aload_n C dX8_digest_17 rfl 0 rfl ?_
      refine rw_iload_n C dX8_digest_18 rfl 2 rfl ?_
      refine rw_callVPi (As := [.int x19]) (k0 := 0) C hR dX8_digest_19 cv_X8_327 (k_X8_count g.2.1 κ x19 M1) (by decide) (by decide) (by decide) sh_0 rfl rfl (Nat.le_of_ble_eq_true rfl) rfl (fun x20 => ?_)
      refine rw_i2l C dX8_digest_22 ?_
      refine rw_callSPl (As := [.long x18, .long (x20.toInt64)]) C hR dX8_digest_23 cs_X8_330 (k_X8_mix g.2.1 κ x18 x20.toInt64 M1) (by decide) (by decide) rfl (Nat.le_of_ble_eq_true rfl) rfl (fun x21 => ?_)
      refine rw_lstore_n (lv' := [(1, .long x21), (0, .ref (κ.1 + 0)), (3, .int x19)]) C dX8_digest_26 rfl (by decide) rfl ?_
      refine rw_iinc (c := 1) (lv' := [(3, .int (x19 + 1)), (1, .long x21), (0, .ref (κ.1 + 0))]) C dX8_digest_27 2 rfl (by decide) (by decide) rfl ?_
      refine rw_goto (tgt := 10) C dX8_digest_30 (by decide) ?_
      exact rw_lv [2, 1, 0] rfl (hrec3 x21 (x19 + 1))
def f_X9_in (a1 : Int64) (a2 : Int64) (a3 : Int64) (M : pv_M) : Option Int32 := (if (lg_cmp a1 a2) < 0 then some 0 else (if 0 < (lg_cmp a1 a3) then some 0 else some 1))
set_option maxHeartbeats 4000000 in
set_option maxRecDepth 100000 in
theorem k_X9_in (l : Launch) (κ : pv_K) (a1 : Int64) (a2 : Int64) (a3 : Int64) (M : pv_M) : pv_MtP l yX9_in cX9_in 6 (some .boolean) 0 κ [.long a1, .long a2, .long a3] M pv_ji (f_X9_in a1 a2 a3 M) := by
  refine pv_enterP (by decide +kernel) (Nat.le_of_ble_eq_true rfl) (fun g hl hR C => ?_)
  have C : pv_Ok g κ 6 cX9_in RX9 (some .boolean) := C
  show pv_R g κ pv_T pv_RF 6 0 0 (pv_QP g κ pv_ji M) 0 [(0, .long a1), (2, .long a2), (4, .long a3)] [] M (f_X9_in a1 a2 a3 M)
  unfold f_X9_in
  refine rw_lload_n C dX9_in_0 rfl 0 rfl ?_
  refine rw_lload_n C dX9_in_1 rfl 1 rfl ?_
  refine rw_lcmp C dX9_in_2 ?_
  refine rw_if_lt (tgt := 17) C dX9_in_3 (by decide) ?_ ?_
  · refine rw_iconst (c := 0) C dX9_in_17 ci_0 ?_
    exact rw_zretP (Or.inl rfl) C dX9_in_18
  · refine rw_lload_n C dX9_in_6 rfl 0 rfl ?_
    refine rw_lload C dX9_in_7 2 rfl ?_
    refine rw_lcmp C dX9_in_9 ?_
    refine rw_if_gt (tgt := 17) C dX9_in_10 (by decide) ?_ ?_
    · refine rw_iconst (c := 0) C dX9_in_17 ci_0 ?_
      exact rw_zretP (Or.inl rfl) C dX9_in_18
    · refine rw_iconst (c := 1) C dX9_in_13 ci_1 ?_
      refine rw_goto (tgt := 18) C dX9_in_14 (by decide) ?_
      exact rw_zretP (Or.inr rfl) C dX9_in_18
def f_X9_no (a1 : Int32) (M : pv_M) : Option Int64 := some (((-9223372036854775808)) - a1.toInt64)
set_option maxHeartbeats 4000000 in
set_option maxRecDepth 100000 in
theorem k_X9_no (l : Launch) (κ : pv_K) (a1 : Int32) (M : pv_M) : pv_MtP l yX9_no cX9_no 1 (some .long) 0 κ [.int a1] M pv_jl (f_X9_no a1 M) := by
  refine pv_enterP (by decide +kernel) (Nat.le_of_ble_eq_true rfl) (fun g hl hR C => ?_)
  have C : pv_Ok g κ 1 cX9_no RX9 (some .long) := C
  show pv_R g κ pv_T pv_RF 1 0 0 (pv_QP g κ pv_jl M) 0 [(0, .int a1)] [] M (f_X9_no a1 M)
  unfold f_X9_no
  refine rw_ldc2_w (c := (-9223372036854775808)) C dX9_no_0 mw_852 ?_
  refine rw_iload_n C dX9_no_3 rfl 0 rfl ?_
  refine rw_i2l C dX9_no_4 ?_
  refine rw_lsub C dX9_no_5 ?_
  exact rw_lretP C dX9_no_6
def f_X9_isTwo (a1 : Int32) (M : pv_M) : Option Int32 := pv_cap (f_X9_in a1.toInt64 0 1 M) (fun x1 => (if x1 = 0 ∨ x1 = 1 then some x1 else none))
set_option maxHeartbeats 4000000 in
set_option maxRecDepth 100000 in
theorem k_X9_isTwo (l : Launch) (κ : pv_K) (a1 : Int32) (M : pv_M) : pv_MtP l yX9_isTwo cX9_isTwo 1 (some .boolean) 1 κ [.int a1] M pv_ji (f_X9_isTwo a1 M) := by
  refine pv_enterP (by decide +kernel) (Nat.le_of_ble_eq_true rfl) (fun g hl hR C => ?_)
  have C : pv_Ok g κ 1 cX9_isTwo RX9 (some .boolean) := C
  show pv_R g κ pv_T pv_RF 1 0 0 (pv_QP g κ pv_ji M) 0 [(0, .int a1)] [] M (f_X9_isTwo a1 M)
  unfold f_X9_isTwo
  refine rw_iload_n C dX9_isTwo_0 rfl 0 rfl ?_
  refine rw_i2l C dX9_isTwo_1 ?_
  refine rw_lconst (c := 0) C dX9_isTwo_2 (by decide) ?_
  refine rw_lconst (c := 1) C dX9_isTwo_3 (by decide) ?_
  refine rw_callSPi (As := [.long (a1.toInt64), .long 0, .long 1]) C hR dX9_isTwo_4 cs_X9_88 (k_X9_in g.2.1 κ a1.toInt64 0 1 M) (by decide) (by decide) rfl (Nat.le_of_ble_eq_true rfl) rfl (fun x1 => ?_)
  exact rw_zret_ckP C dX9_isTwo_7
def f_X9_isIn (a1 : Int32) (a2 : Int32) (M : pv_M) : Option Int32 := (if ((a1 >>> (a2 &&& 31)) &&& 1) = 1 then some 1 else some 0)
set_option maxHeartbeats 4000000 in
set_option maxRecDepth 100000 in
theorem k_X9_isIn (l : Launch) (κ : pv_K) (a1 : Int32) (a2 : Int32) (M : pv_M) : pv_MtP l yX9_isIn cX9_isIn 2 (some .boolean) 0 κ [.int a1, .int a2] M pv_ji (f_X9_isIn a1 a2 M) := by
  refine pv_enterP (by decide +kernel) (Nat.le_of_ble_eq_true rfl) (fun g hl hR C => ?_)
  have C : pv_Ok g κ 2 cX9_isIn RX9 (some .boolean) := C
  show pv_R g κ pv_T pv_RF 2 0 0 (pv_QP g κ pv_ji M) 0 [(0, .int a1), (1, .int a2)] [] M (f_X9_isIn a1 a2 M)
  unfold f_X9_isIn
  refine rw_iload_n C dX9_isIn_0 rfl 0 rfl ?_
  refine rw_iload_n C dX9_isIn_1 rfl 1 rfl ?_
  refine rw_ishr C dX9_isIn_2 ?_
  refine rw_iconst (c := 1) C dX9_isIn_3 ci_1 ?_
  refine rw_iand C dX9_isIn_4 ?_
  refine rw_iconst (c := 1) C dX9_isIn_5 ci_1 ?_
  refine rw_icmp_ne (tgt := 13) C dX9_isIn_6 (by decide) ?_ ?_
  · refine rw_iconst (c := 0) C dX9_isIn_13 ci_0 ?_
    exact rw_zretP (Or.inl rfl) C dX9_isIn_14
  · refine rw_iconst (c := 1) C dX9_isIn_9 ci_1 ?_
    refine rw_goto (tgt := 14) C dX9_isIn_10 (by decide) ?_
    exact rw_zretP (Or.inr rfl) C dX9_isIn_14
def f_X9_ones_L4 (rec1 : Int32 → Int32 → Option Int32) (x1 : Int32) (x2 : Int32) : Option Int32 := (if x2 = 0 then some x1 else pv_nm (x2 &&& (x2 - 1)) (fun x3 => rec1 (x1 + 1) x3))
def f_X9_ones (a1 : Int32) (M : pv_M) : Option Int32 := pv_lp2 f_X9_ones_L4 pv_FU 0 a1
set_option maxHeartbeats 4000000 in
set_option maxRecDepth 100000 in
theorem k_X9_ones (l : Launch) (κ : pv_K) (a1 : Int32) (M : pv_M) : pv_MtP l yX9_ones cX9_ones 3 (some .int) 0 κ [.int a1] M pv_ji (f_X9_ones a1 M) := by
  refine pv_enterP (by decide +kernel) (Nat.le_of_ble_eq_true rfl) (fun g hl hR C => ?_)
  have C : pv_Ok g κ 3 cX9_ones RX9 (some .int) := C
  show pv_R g κ pv_T pv_RF 3 0 0 (pv_QP g κ pv_ji M) 0 [(0, .int a1)] [] M (f_X9_ones a1 M)
  unfold f_X9_ones
  refine rw_iconst (c := 0) C dX9_ones_0 ci_0 ?_
  refine rw_istore_n (lv' := [(1, .int 0), (0, .int a1)]) C dX9_ones_1 rfl (by decide) rfl ?_
  refine rw_iload_n C dX9_ones_2 rfl 1 rfl ?_
  refine rw_istore_n (lv' := [(2, .int a1), (1, .int 0), (0, .int a1)]) C dX9_ones_3 rfl (by decide) rfl ?_
  refine rw_lv (lv' := [(1, .int 0), (2, .int a1)]) [1, 0] rfl ?_
  refine pv_lp2_ind (fun x1 x2 xx => pv_R g κ pv_T pv_RF 3 0 0 (pv_QP g κ pv_ji M) 4 [(1, .int x1), (2, .int x2)] [] M xx) (fun _ _ => rw_none) (fun rec1 hrec1 x1 x2 => ?_) _ _ _
  unfold f_X9_ones_L4
  refine rw_iload_n C dX9_ones_4 rfl 1 rfl ?_
  refine rw_if_eq (tgt := 20) C dX9_ones_5 (by decide) ?_ ?_
  · refine rw_iload_n C dX9_ones_20 rfl 0 rfl ?_
    exact rw_iretP C dX9_ones_21
  · refine rw_iinc (c := 1) (lv' := [(1, .int (x1 + 1)), (2, .int x2)]) C dX9_ones_8 0 rfl (by decide) (by decide) rfl ?_
    refine rw_iload_n C dX9_ones_11 rfl 1 rfl ?_
    refine rw_iload_n C dX9_ones_12 rfl 1 rfl ?_
    refine rw_iconst (c := 1) C dX9_ones_13 ci_1 ?_
    refine rw_isub C dX9_ones_14 ?_
    refine rw_iand C dX9_ones_15 ?_
    refine rw_nm (fun x3 => ?_)
    refine rw_istore_n (lv' := [(2, .int x3), (1, .int (x1 + 1))]) C dX9_ones_16 rfl (by decide) rfl ?_
    refine rw_goto (tgt := 4) C dX9_ones_17 (by decide) ?_
    exact rw_lv [1, 0] rfl (hrec1 (x1 + 1) x3)
def f_X9_amount (a1 : Int32) (M : pv_M) : Option Int32 := (if 0 ≤ a1 then some a1 else some (-a1))
set_option maxHeartbeats 4000000 in
set_option maxRecDepth 100000 in
theorem k_X9_amount (l : Launch) (κ : pv_K) (a1 : Int32) (M : pv_M) : pv_MtP l yX9_amount cX9_amount 1 (some .int) 0 κ [.int a1] M pv_ji (f_X9_amount a1 M) := by
  refine pv_enterP (by decide +kernel) (Nat.le_of_ble_eq_true rfl) (fun g hl hR C => ?_)
  have C : pv_Ok g κ 1 cX9_amount RX9 (some .int) := C
  show pv_R g κ pv_T pv_RF 1 0 0 (pv_QP g κ pv_ji M) 0 [(0, .int a1)] [] M (f_X9_amount a1 M)
  unfold f_X9_amount
  refine rw_iload_n C dX9_amount_0 rfl 0 rfl ?_
  refine rw_if_ge (tgt := 9) C dX9_amount_1 (by decide) ?_ ?_
  · refine rw_iload_n C dX9_amount_9 rfl 0 rfl ?_
    exact rw_iretP C dX9_amount_10
  · refine rw_iload_n C dX9_amount_4 rfl 0 rfl ?_
    refine rw_ineg C dX9_amount_5 ?_
    refine rw_goto (tgt := 10) C dX9_amount_6 (by decide) ?_
    exact rw_iretP C dX9_amount_10
def f_X9_common_L6 (rec1 : Int64 → Int64 → Option Int64) (x1 : Int64) (x2 : Int64) : Option Int64 := (if (lg_cmp x2 0) = 0 then some x1 else pv_ck (decide (¬ x2 = 0)) (pv_nm (x1 - x1 / x2 * x2) (fun x3 => rec1 x2 x3)))
def f_X9_common (a1 : Int64) (a2 : Int64) (M : pv_M) : Option Int64 := pv_lp2 f_X9_common_L6 pv_FU a1 a2
set_option maxHeartbeats 4000000 in
set_option maxRecDepth 100000 in
theorem k_X9_common (l : Launch) (κ : pv_K) (a1 : Int64) (a2 : Int64) (M : pv_M) : pv_MtP l yX9_common cX9_common 10 (some .long) 0 κ [.long a1, .long a2] M pv_jl (f_X9_common a1 a2 M) := by
  refine pv_enterP (by decide +kernel) (Nat.le_of_ble_eq_true rfl) (fun g hl hR C => ?_)
  have C : pv_Ok g κ 10 cX9_common RX9 (some .long) := C
  show pv_R g κ pv_T pv_RF 10 0 0 (pv_QP g κ pv_jl M) 0 [(0, .long a1), (2, .long a2)] [] M (f_X9_common a1 a2 M)
  unfold f_X9_common
  refine rw_lload_n C dX9_common_0 rfl 0 rfl ?_
  refine rw_lstore (lv' := [(4, .long a1), (0, .long a1), (2, .long a2)]) C dX9_common_1 (by decide) rfl ?_
  refine rw_lload_n C dX9_common_3 rfl 2 rfl ?_
  refine rw_lstore (lv' := [(6, .long a2), (4, .long a1), (0, .long a1), (2, .long a2)]) C dX9_common_4 (by decide) rfl ?_
  refine rw_lv (lv' := [(4, .long a1), (6, .long a2)]) [1, 0] rfl ?_
  refine pv_lp2_ind (fun x1 x2 xx => pv_R g κ pv_T pv_RF 10 0 0 (pv_QP g κ pv_jl M) 6 [(4, .long x1), (6, .long x2)] [] M xx) (fun _ _ => rw_none) (fun rec1 hrec1 x1 x2 => ?_) _ _ _
  unfold f_X9_common_L6
  refine rw_lload C dX9_common_6 1 rfl ?_
  refine rw_lconst (c := 0) C dX9_common_8 (by decide) ?_
  refine rw_lcmp C dX9_common_9 ?_
  refine rw_if_eq (tgt := 31) C dX9_common_10 (by decide) ?_ ?_
  · refine rw_lload C dX9_common_31 0 rfl ?_
    exact rw_lretP C dX9_common_33
  · refine rw_lload C dX9_common_13 0 rfl ?_
    refine rw_lload C dX9_common_15 1 rfl ?_
    refine rw_ck (fun hb1 => ?_)
    refine rw_lrem C dX9_common_17 (of_decide_eq_true hb1) ?_
    refine rw_nmL (fun x3 => ?_)
    refine rw_lstore (lv' := [(8, .long x3), (4, .long x1), (6, .long x2)]) C dX9_common_18 (by decide) rfl ?_
    refine rw_lload C dX9_common_20 2 rfl ?_
    refine rw_lstore (lv' := [(4, .long x2), (8, .long x3), (6, .long x2)]) C dX9_common_22 (by decide) rfl ?_
    refine rw_lload C dX9_common_24 1 rfl ?_
    refine rw_lstore (lv' := [(6, .long x3), (4, .long x2), (8, .long x3)]) C dX9_common_26 (by decide) rfl ?_
    refine rw_goto (tgt := 6) C dX9_common_28 (by decide) ?_
    exact rw_lv [1, 0] rfl (hrec1 x2 x3)
def f_X9_met (a1 : Int32) (M : pv_M) : Option (Int32 × pv_M) := pv_nm (pv_u M.1 196 4 a1, M.2) (fun M1 => some (((-10)) - a1, M1))
set_option maxHeartbeats 4000000 in
set_option maxRecDepth 100000 in
theorem k_X9_met (l : Launch) (κ : pv_K) (a1 : Int32) (M : pv_M) : pv_Mt l yX9_met cX9_met 2 (some .int) 0 κ [.ref (κ.1 + 196), .int a1] M pv_ji (f_X9_met a1 M) := by
  refine pv_enter (by decide +kernel) (Nat.le_of_ble_eq_true rfl) (fun g hl hR C => ?_)
  have C : pv_Ok g κ 2 cX9_met RX9 (some .int) := C
  show pv_R g κ pv_T pv_RF 2 0 0 (pv_QF g κ pv_ji) 0 [(0, .ref (κ.1 + 196)), (1, .int a1)] [] M (f_X9_met a1 M)
  unfold f_X9_met
  refine rw_aload_n C dX9_met_0 rfl 0 rfl ?_
  refine rw_iload_n C dX9_met_1 rfl 1 rfl ?_
  refine rw_put (k0 := 196) C dX9_met_2 fl_X9_92 ff_X9_4 rfl rfl rfl (by decide) sh_196 (by decide) (fun M1 => ?_)
  refine rw_bipush (c := (-10)) C dX9_met_5 (by decide) ?_
  refine rw_iload_n C dX9_met_7 rfl 1 rfl ?_
  refine rw_isub C dX9_met_8 ?_
  exact rw_iret C dX9_met_9
def f_X9_isSheet (a1 : Int32) (M : pv_M) : Option Int32 := pv_cap (f_X9_in a1.toInt64 0 3 M) (fun x1 => (if x1 = 0 ∨ x1 = 1 then some x1 else none))
set_option maxHeartbeats 4000000 in
set_option maxRecDepth 100000 in
theorem k_X9_isSheet (l : Launch) (κ : pv_K) (a1 : Int32) (M : pv_M) : pv_MtP l yX9_isSheet cX9_isSheet 1 (some .boolean) 1 κ [.int a1] M pv_ji (f_X9_isSheet a1 M) := by
  refine pv_enterP (by decide +kernel) (Nat.le_of_ble_eq_true rfl) (fun g hl hR C => ?_)
  have C : pv_Ok g κ 1 cX9_isSheet RX9 (some .boolean) := C
  show pv_R g κ pv_T pv_RF 1 0 0 (pv_QP g κ pv_ji M) 0 [(0, .int a1)] [] M (f_X9_isSheet a1 M)
  unfold f_X9_isSheet
  refine rw_iload_n C dX9_isSheet_0 rfl 0 rfl ?_
  refine rw_i2l C dX9_isSheet_1 ?_
  refine rw_lconst (c := 0) C dX9_isSheet_2 (by decide) ?_
  refine rw_ldc2_w (c := 3) C dX9_isSheet_3 mw_446 ?_
  refine rw_callSPi (As := [.long (a1.toInt64), .long 0, .long 3]) C hR dX9_isSheet_6 cs_X9_88 (k_X9_in g.2.1 κ a1.toInt64 0 3 M) (by decide) (by decide) rfl (Nat.le_of_ble_eq_true rfl) rfl (fun x1 => ?_)
  exact rw_zret_ckP C dX9_isSheet_9
def f_X9_sheet_L55 (a3 : Int32) (a1 : Int32) (rec1 : Int32 → pv_M → Option (Int32 × pv_M)) (x3 : Int32) (M3 : pv_M) : Option (Int32 × pv_M) := (if a3 ≤ x3 then some (a3, M3) else pv_stI pv_T 199 ((60 * a1) + x3) 0 M3 (fun M4 => rec1 (x3 + 1) M4))
def f_X9_sheet (a1 : Int32) (a2 : Int32) (a3 : Int32) (M : pv_M) : Option (Int32 × pv_M) := pv_cap (f_X9_isSheet a1 M) (fun x1 => (if x1 = 0 then some ((-2), M) else pv_cap (f_X9_in a2.toInt64 0 2 M) (fun x2 => (if x2 = 0 then some ((-2), M) else (if a3 ≤ 60 then (if 0 ≤ a3 then pv_stI pv_T 197 a1 a2 M (fun M1 => pv_stI pv_T 198 a1 a3 M1 (fun M2 => pv_lp2 (f_X9_sheet_L55 a3 a1) pv_FU 0 M2)) else pv_cal (f_X9_met 5 M) (fun x4 M5 => some (x4, M5))) else some ((-2), M))))))
set_option maxHeartbeats 4000000 in
set_option maxRecDepth 100000 in
theorem k_X9_sheet (l : Launch) (κ : pv_K) (a1 : Int32) (a2 : Int32) (a3 : Int32) (M : pv_M) : pv_Mt l yX9_sheet cX9_sheet 5 (some .int) 2 κ [.ref (κ.1 + 196), .int a1, .int a2, .int a3] M pv_ji (f_X9_sheet a1 a2 a3 M) := by
  refine pv_enter (by decide +kernel) (Nat.le_of_ble_eq_true rfl) (fun g hl hR C => ?_)
  have C : pv_Ok g κ 5 cX9_sheet RX9 (some .int) := C
  show pv_R g κ pv_T pv_RF 5 0 0 (pv_QF g κ pv_ji) 0 [(0, .ref (κ.1 + 196)), (1, .int a1), (2, .int a2), (3, .int a3)] [] M (f_X9_sheet a1 a2 a3 M)
  unfold f_X9_sheet
  refine rw_iload_n C dX9_sheet_0 rfl 1 rfl ?_
  refine rw_callSPi (As := [.int a1]) C hR dX9_sheet_1 cs_X9_98 (k_X9_isSheet g.2.1 κ a1 M) (by decide) (by decide) rfl (Nat.le_of_ble_eq_true rfl) rfl (fun x1 => ?_)
  refine rw_if_eq (tgt := 25) C dX9_sheet_4 (by decide) ?_ ?_
  · refine rw_bipush (c := (-2)) C dX9_sheet_25 (by decide) ?_
    exact rw_iret C dX9_sheet_27
  · refine rw_iload_n C dX9_sheet_7 rfl 2 rfl ?_
    refine rw_i2l C dX9_sheet_8 ?_
    refine rw_lconst (c := 0) C dX9_sheet_9 (by decide) ?_
    refine rw_ldc2_w (c := 2) C dX9_sheet_10 mw_196 ?_
    refine rw_callSPi (As := [.long (a2.toInt64), .long 0, .long 2]) C hR dX9_sheet_13 cs_X9_88 (k_X9_in g.2.1 κ a2.toInt64 0 2 M) (by decide) (by decide) rfl (Nat.le_of_ble_eq_true rfl) rfl (fun x2 => ?_)
    refine rw_if_eq (tgt := 25) C dX9_sheet_16 (by decide) ?_ ?_
    · refine rw_bipush (c := (-2)) C dX9_sheet_25 (by decide) ?_
      exact rw_iret C dX9_sheet_27
    · refine rw_iload_n C dX9_sheet_19 rfl 3 rfl ?_
      refine rw_bipush (c := 60) C dX9_sheet_20 (by decide) ?_
      refine rw_icmp_le (tgt := 28) C dX9_sheet_22 (by decide) ?_ ?_
      · refine rw_iload_n C dX9_sheet_28 rfl 3 rfl ?_
        refine rw_if_ge (tgt := 38) C dX9_sheet_29 (by decide) ?_ ?_
        · refine rw_aload_n C dX9_sheet_38 rfl 0 rfl ?_
          refine rw_getR (k0 := 196) (k1 := 197) C dX9_sheet_39 fl_X9_7 rfl (by decide) sh_196 (by decide) rfl ?_
          refine rw_iload_n C dX9_sheet_42 rfl 1 rfl ?_
          refine rw_iload_n C dX9_sheet_43 rfl 2 rfl ?_
          refine rw_stI C dX9_sheet_44 (fun M1 => ?_)
          refine rw_aload_n C dX9_sheet_45 rfl 0 rfl ?_
          refine rw_getR (k0 := 196) (k1 := 198) C dX9_sheet_46 fl_X9_13 rfl (by decide) sh_196 (by decide) rfl ?_
          refine rw_iload_n C dX9_sheet_49 rfl 1 rfl ?_
          refine rw_iload_n C dX9_sheet_50 rfl 3 rfl ?_
          refine rw_stI C dX9_sheet_51 (fun M2 => ?_)
          refine rw_iconst (c := 0) C dX9_sheet_52 ci_0 ?_
          refine rw_istore (lv' := [(4, .int 0), (0, .ref (κ.1 + 196)), (1, .int a1), (2, .int a2), (3, .int a3)]) C dX9_sheet_53 (by decide) rfl ?_
          refine rw_lv (lv' := [(0, .ref (κ.1 + 196)), (1, .int a1), (3, .int a3), (4, .int 0)]) [1, 2, 4, 0] rfl ?_
          refine pv_lp2_ind (fun x3 M3 xx => pv_R g κ pv_T pv_RF 5 0 0 (pv_QF g κ pv_ji) 55 [(0, .ref (κ.1 + 196)), (1, .int a1), (3, .int a3), (4, .int x3)] [] M3 xx) (fun _ _ => rw_none) (fun rec1 hrec1 x3 M3 => ?_) _ _ _
          unfold f_X9_sheet_L55
          refine rw_iload C dX9_sheet_55 3 rfl ?_
          refine rw_iload_n C dX9_sheet_57 rfl 2 rfl ?_
          refine rw_icmp_ge (tgt := 80) C dX9_sheet_58 (by decide) ?_ ?_
          · refine rw_iload_n C dX9_sheet_80 rfl 2 rfl ?_
            exact rw_iret C dX9_sheet_81
          · refine rw_aload_n C dX9_sheet_61 rfl 0 rfl ?_
            refine rw_getR (k0 := 196) (k1 := 199) C dX9_sheet_62 fl_X9_16 rfl (by decide) sh_196 (by decide) rfl ?_
            refine rw_bipush (c := 60) C dX9_sheet_65 (by decide) ?_
            refine rw_iload_n C dX9_sheet_67 rfl 1 rfl ?_
            refine rw_imul C dX9_sheet_68 ?_
            refine rw_iload C dX9_sheet_69 3 rfl ?_
            refine rw_iadd C dX9_sheet_71 ?_
            refine rw_iconst (c := 0) C dX9_sheet_72 ci_0 ?_
            refine rw_stI C dX9_sheet_73 (fun M4 => ?_)
            refine rw_iinc (c := 1) (lv' := [(4, .int (x3 + 1)), (0, .ref (κ.1 + 196)), (1, .int a1), (3, .int a3)]) C dX9_sheet_74 3 rfl (by decide) (by decide) rfl ?_
            refine rw_goto (tgt := 55) C dX9_sheet_77 (by decide) ?_
            exact rw_lv [1, 2, 3, 0] rfl (hrec1 (x3 + 1) M4)
        · refine rw_aload_n C dX9_sheet_32 rfl 0 rfl ?_
          refine rw_iconst (c := 5) C dX9_sheet_33 ci_5 ?_
          refine rw_callVi (As := [.int 5]) (k0 := 196) C hR dX9_sheet_34 cv_X9_104 (k_X9_met g.2.1 κ 5 M) (by decide) (by decide) (by decide) sh_196 rfl rfl (Nat.le_of_ble_eq_true rfl) rfl (fun x4 M5 => ?_)
          exact rw_iret C dX9_sheet_37
      · refine rw_bipush (c := (-2)) C dX9_sheet_25 (by decide) ?_
        exact rw_iret C dX9_sheet_27
def f_X9_lose (a1 : Int32) (M : pv_M) : Option (Int32 × pv_M) := pv_cap (f_X9_isSheet a1 M) (fun x1 => (if x1 = 0 then some ((-2), M) else pv_ldI pv_T 197 a1 M (fun x2 => (if 0 ≤ x2 then pv_stI pv_T 197 a1 ((-1)) M (fun M1 => pv_ldI pv_T 198 a1 M1 (fun x3 => some (x3, M1))) else pv_cal (f_X9_met 1 M) (fun x4 M2 => some (x4, M2))))))
set_option maxHeartbeats 4000000 in
set_option maxRecDepth 100000 in
theorem k_X9_lose (l : Launch) (κ : pv_K) (a1 : Int32) (M : pv_M) : pv_Mt l yX9_lose cX9_lose 2 (some .int) 2 κ [.ref (κ.1 + 196), .int a1] M pv_ji (f_X9_lose a1 M) := by
  refine pv_enter (by decide +kernel) (Nat.le_of_ble_eq_true rfl) (fun g hl hR C => ?_)
  have C : pv_Ok g κ 2 cX9_lose RX9 (some .int) := C
  show pv_R g κ pv_T pv_RF 2 0 0 (pv_QF g κ pv_ji) 0 [(0, .ref (κ.1 + 196)), (1, .int a1)] [] M (f_X9_lose a1 M)
  unfold f_X9_lose
  refine rw_iload_n C dX9_lose_0 rfl 1 rfl ?_
  refine rw_callSPi (As := [.int a1]) C hR dX9_lose_1 cs_X9_98 (k_X9_isSheet g.2.1 κ a1 M) (by decide) (by decide) rfl (Nat.le_of_ble_eq_true rfl) rfl (fun x1 => ?_)
  refine rw_if_ne (tgt := 10) C dX9_lose_4 (by decide) ?_ ?_
  · refine rw_aload_n C dX9_lose_10 rfl 0 rfl ?_
    refine rw_getR (k0 := 196) (k1 := 197) C dX9_lose_11 fl_X9_7 rfl (by decide) sh_196 (by decide) rfl ?_
    refine rw_iload_n C dX9_lose_14 rfl 1 rfl ?_
    refine rw_ldI C dX9_lose_15 (fun x2 => ?_)
    refine rw_if_ge (tgt := 25) C dX9_lose_16 (by decide) ?_ ?_
    · refine rw_aload_n C dX9_lose_25 rfl 0 rfl ?_
      refine rw_getR (k0 := 196) (k1 := 197) C dX9_lose_26 fl_X9_7 rfl (by decide) sh_196 (by decide) rfl ?_
      refine rw_iload_n C dX9_lose_29 rfl 1 rfl ?_
      refine rw_iconst (c := (-1)) C dX9_lose_30 ci_m1 ?_
      refine rw_stI C dX9_lose_31 (fun M1 => ?_)
      refine rw_aload_n C dX9_lose_32 rfl 0 rfl ?_
      refine rw_getR (k0 := 196) (k1 := 198) C dX9_lose_33 fl_X9_13 rfl (by decide) sh_196 (by decide) rfl ?_
      refine rw_iload_n C dX9_lose_36 rfl 1 rfl ?_
      refine rw_ldI C dX9_lose_37 (fun x3 => ?_)
      exact rw_iret C dX9_lose_38
    · refine rw_aload_n C dX9_lose_19 rfl 0 rfl ?_
      refine rw_iconst (c := 1) C dX9_lose_20 ci_1 ?_
      refine rw_callVi (As := [.int 1]) (k0 := 196) C hR dX9_lose_21 cv_X9_104 (k_X9_met g.2.1 κ 1 M) (by decide) (by decide) (by decide) sh_196 rfl rfl (Nat.le_of_ble_eq_true rfl) rfl (fun x4 M2 => ?_)
      exact rw_iret C dX9_lose_24
  · refine rw_bipush (c := (-2)) C dX9_lose_7 (by decide) ?_
    exact rw_iret C dX9_lose_9
def f_X9_lacks (a1 : Int32) (a2 : Int32) (a3 : Int32) (M : pv_M) : Option (Int32 × pv_M) := pv_ldI pv_T 197 a1 M (fun x1 => (if 0 ≤ x1 then pv_ldI pv_T 197 a1 M (fun x2 => (if x2 = a2 then pv_ldI pv_T 198 a1 M (fun x3 => pv_cap (f_X9_in a3.toInt64 0 ((x3 - 1).toInt64) M) (fun x4 => (if x4 = 0 then pv_cal (f_X9_met 2 M) (fun x5 M1 => some (x5, M1)) else some (0, M)))) else pv_cal (f_X9_met 3 M) (fun x6 M2 => some (x6, M2)))) else pv_cal (f_X9_met 1 M) (fun x7 M3 => some (x7, M3))))
set_option maxHeartbeats 4000000 in
set_option maxRecDepth 100000 in
theorem k_X9_lacks (l : Launch) (κ : pv_K) (a1 : Int32) (a2 : Int32) (a3 : Int32) (M : pv_M) : pv_Mt l yX9_lacks cX9_lacks 4 (some .int) 1 κ [.ref (κ.1 + 196), .int a1, .int a2, .int a3] M pv_ji (f_X9_lacks a1 a2 a3 M) := by
  refine pv_enter (by decide +kernel) (Nat.le_of_ble_eq_true rfl) (fun g hl hR C => ?_)
  have C : pv_Ok g κ 4 cX9_lacks RX9 (some .int) := C
  show pv_R g κ pv_T pv_RF 4 0 0 (pv_QF g κ pv_ji) 0 [(0, .ref (κ.1 + 196)), (1, .int a1), (2, .int a2), (3, .int a3)] [] M (f_X9_lacks a1 a2 a3 M)
  unfold f_X9_lacks
  refine rw_aload_n C dX9_lacks_0 rfl 0 rfl ?_
  refine rw_getR (k0 := 196) (k1 := 197) C dX9_lacks_1 fl_X9_7 rfl (by decide) sh_196 (by decide) rfl ?_
  refine rw_iload_n C dX9_lacks_4 rfl 1 rfl ?_
  refine rw_ldI C dX9_lacks_5 (fun x1 => ?_)
  refine rw_if_ge (tgt := 15) C dX9_lacks_6 (by decide) ?_ ?_
  · refine rw_aload_n C dX9_lacks_15 rfl 0 rfl ?_
    refine rw_getR (k0 := 196) (k1 := 197) C dX9_lacks_16 fl_X9_7 rfl (by decide) sh_196 (by decide) rfl ?_
    refine rw_iload_n C dX9_lacks_19 rfl 1 rfl ?_
    refine rw_ldI C dX9_lacks_20 (fun x2 => ?_)
    refine rw_iload_n C dX9_lacks_21 rfl 2 rfl ?_
    refine rw_icmp_eq (tgt := 31) C dX9_lacks_22 (by decide) ?_ ?_
    · refine rw_iload_n C dX9_lacks_31 rfl 3 rfl ?_
      refine rw_i2l C dX9_lacks_32 ?_
      refine rw_lconst (c := 0) C dX9_lacks_33 (by decide) ?_
      refine rw_aload_n C dX9_lacks_34 rfl 0 rfl ?_
      refine rw_getR (k0 := 196) (k1 := 198) C dX9_lacks_35 fl_X9_13 rfl (by decide) sh_196 (by decide) rfl ?_
      refine rw_iload_n C dX9_lacks_38 rfl 1 rfl ?_
      refine rw_ldI C dX9_lacks_39 (fun x3 => ?_)
      refine rw_iconst (c := 1) C dX9_lacks_40 ci_1 ?_
      refine rw_isub C dX9_lacks_41 ?_
      refine rw_i2l C dX9_lacks_42 ?_
      refine rw_callSPi (As := [.long (a3.toInt64), .long 0, .long ((x3 - 1).toInt64)]) C hR dX9_lacks_43 cs_X9_88 (k_X9_in g.2.1 κ a3.toInt64 0 ((x3 - 1).toInt64) M) (by decide) (by decide) rfl (Nat.le_of_ble_eq_true rfl) rfl (fun x4 => ?_)
      refine rw_if_eq (tgt := 53) C dX9_lacks_46 (by decide) ?_ ?_
      · refine rw_aload_n C dX9_lacks_53 rfl 0 rfl ?_
        refine rw_iconst (c := 2) C dX9_lacks_54 ci_2 ?_
        refine rw_callVi (As := [.int 2]) (k0 := 196) C hR dX9_lacks_55 cv_X9_104 (k_X9_met g.2.1 κ 2 M) (by decide) (by decide) (by decide) sh_196 rfl rfl (Nat.le_of_ble_eq_true rfl) rfl (fun x5 M1 => ?_)
        exact rw_iret C dX9_lacks_58
      · refine rw_iconst (c := 0) C dX9_lacks_49 ci_0 ?_
        refine rw_goto (tgt := 58) C dX9_lacks_50 (by decide) ?_
        exact rw_iret C dX9_lacks_58
    · refine rw_aload_n C dX9_lacks_25 rfl 0 rfl ?_
      refine rw_iconst (c := 3) C dX9_lacks_26 ci_3 ?_
      refine rw_callVi (As := [.int 3]) (k0 := 196) C hR dX9_lacks_27 cv_X9_104 (k_X9_met g.2.1 κ 3 M) (by decide) (by decide) (by decide) sh_196 rfl rfl (Nat.le_of_ble_eq_true rfl) rfl (fun x6 M2 => ?_)
      exact rw_iret C dX9_lacks_30
  · refine rw_aload_n C dX9_lacks_9 rfl 0 rfl ?_
    refine rw_iconst (c := 1) C dX9_lacks_10 ci_1 ?_
    refine rw_callVi (As := [.int 1]) (k0 := 196) C hR dX9_lacks_11 cv_X9_104 (k_X9_met g.2.1 κ 1 M) (by decide) (by decide) (by decide) sh_196 rfl rfl (Nat.le_of_ble_eq_true rfl) rfl (fun x7 M3 => ?_)
    exact rw_iret C dX9_lacks_14
def f_X9_cut (a1 : Int32) (a2 : Int32) (M : pv_M) : Option Int32 := (if a1 = 0 then some a2.toInt8.toInt32 else (if a1 = 1 then some a2.toInt16.toInt32 else some a2))
set_option maxHeartbeats 4000000 in
set_option maxRecDepth 100000 in
theorem k_X9_cut (l : Launch) (κ : pv_K) (a1 : Int32) (a2 : Int32) (M : pv_M) : pv_MtP l yX9_cut cX9_cut 2 (some .int) 0 κ [.int a1, .int a2] M pv_ji (f_X9_cut a1 a2 M) := by
  refine pv_enterP (by decide +kernel) (Nat.le_of_ble_eq_true rfl) (fun g hl hR C => ?_)
  have C : pv_Ok g κ 2 cX9_cut RX9 (some .int) := C
  show pv_R g κ pv_T pv_RF 2 0 0 (pv_QP g κ pv_ji M) 0 [(0, .int a1), (1, .int a2)] [] M (f_X9_cut a1 a2 M)
  unfold f_X9_cut
  refine rw_iload_n C dX9_cut_0 rfl 0 rfl ?_
  refine rw_if_ne (tgt := 9) C dX9_cut_1 (by decide) ?_ ?_
  · refine rw_iload_n C dX9_cut_9 rfl 0 rfl ?_
    refine rw_iconst (c := 1) C dX9_cut_10 ci_1 ?_
    refine rw_icmp_ne (tgt := 19) C dX9_cut_11 (by decide) ?_ ?_
    · refine rw_iload_n C dX9_cut_19 rfl 1 rfl ?_
      exact rw_iretP C dX9_cut_20
    · refine rw_iload_n C dX9_cut_14 rfl 1 rfl ?_
      refine rw_i2s C dX9_cut_15 ?_
      refine rw_goto (tgt := 20) C dX9_cut_16 (by decide) ?_
      exact rw_iretP C dX9_cut_20
  · refine rw_iload_n C dX9_cut_4 rfl 1 rfl ?_
    refine rw_i2b C dX9_cut_5 ?_
    refine rw_goto (tgt := 20) C dX9_cut_6 (by decide) ?_
    exact rw_iretP C dX9_cut_20
def f_X9_lay (a1 : Int32) (a2 : Int32) (a3 : Int32) (a4 : Int32) (M : pv_M) : Option (Int32 × pv_M) := pv_cap (f_X9_isSheet a1 M) (fun x1 => (if x1 = 0 then some ((-2), M) else pv_cap (f_X9_in a2.toInt64 0 2 M) (fun x2 => (if x2 = 0 then some ((-2), M) else pv_cal (f_X9_lacks a1 a2 a3 M) (fun x3 M1 => (if x3 = 0 then pv_cap (f_X9_cut a2 a4 M1) (fun x4 => pv_stI pv_T 199 ((60 * a1) + a3) x4 M1 (fun M2 => some (1, M2))) else some (x3, M1)))))))
set_option maxHeartbeats 4000000 in
set_option maxRecDepth 100000 in
theorem k_X9_lay (l : Launch) (κ : pv_K) (a1 : Int32) (a2 : Int32) (a3 : Int32) (a4 : Int32) (M : pv_M) : pv_Mt l yX9_lay cX9_lay 6 (some .int) 2 κ [.ref (κ.1 + 196), .int a1, .int a2, .int a3, .int a4] M pv_ji (f_X9_lay a1 a2 a3 a4 M) := by
  refine pv_enter (by decide +kernel) (Nat.le_of_ble_eq_true rfl) (fun g hl hR C => ?_)
  have C : pv_Ok g κ 6 cX9_lay RX9 (some .int) := C
  show pv_R g κ pv_T pv_RF 6 0 0 (pv_QF g κ pv_ji) 0 [(0, .ref (κ.1 + 196)), (1, .int a1), (2, .int a2), (3, .int a3), (4, .int a4)] [] M (f_X9_lay a1 a2 a3 a4 M)
  unfold f_X9_lay
  refine rw_iload_n C dX9_lay_0 rfl 1 rfl ?_
  refine rw_callSPi (As := [.int a1]) C hR dX9_lay_1 cs_X9_98 (k_X9_isSheet g.2.1 κ a1 M) (by decide) (by decide) rfl (Nat.le_of_ble_eq_true rfl) rfl (fun x1 => ?_)
  refine rw_if_eq (tgt := 19) C dX9_lay_4 (by decide) ?_ ?_
  · refine rw_bipush (c := (-2)) C dX9_lay_19 (by decide) ?_
    exact rw_iret C dX9_lay_21
  · refine rw_iload_n C dX9_lay_7 rfl 2 rfl ?_
    refine rw_i2l C dX9_lay_8 ?_
    refine rw_lconst (c := 0) C dX9_lay_9 (by decide) ?_
    refine rw_ldc2_w (c := 2) C dX9_lay_10 mw_196 ?_
    refine rw_callSPi (As := [.long (a2.toInt64), .long 0, .long 2]) C hR dX9_lay_13 cs_X9_88 (k_X9_in g.2.1 κ a2.toInt64 0 2 M) (by decide) (by decide) rfl (Nat.le_of_ble_eq_true rfl) rfl (fun x2 => ?_)
    refine rw_if_ne (tgt := 22) C dX9_lay_16 (by decide) ?_ ?_
    · refine rw_aload_n C dX9_lay_22 rfl 0 rfl ?_
      refine rw_iload_n C dX9_lay_23 rfl 1 rfl ?_
      refine rw_iload_n C dX9_lay_24 rfl 2 rfl ?_
      refine rw_iload_n C dX9_lay_25 rfl 3 rfl ?_
      refine rw_callVi (As := [.int a1, .int a2, .int a3]) (k0 := 196) C hR dX9_lay_26 cv_X9_108 (k_X9_lacks g.2.1 κ a1 a2 a3 M) (by decide) (by decide) (by decide) sh_196 rfl rfl (Nat.le_of_ble_eq_true rfl) rfl (fun x3 M1 => ?_)
      refine rw_istore (lv' := [(5, .int x3), (0, .ref (κ.1 + 196)), (1, .int a1), (2, .int a2), (3, .int a3), (4, .int a4)]) C dX9_lay_29 (by decide) rfl ?_
      refine rw_iload C dX9_lay_31 0 rfl ?_
      refine rw_if_eq (tgt := 39) C dX9_lay_33 (by decide) ?_ ?_
      · refine rw_aload_n C dX9_lay_39 rfl 1 rfl ?_
        refine rw_getR (k0 := 196) (k1 := 199) C dX9_lay_40 fl_X9_16 rfl (by decide) sh_196 (by decide) rfl ?_
        refine rw_bipush (c := 60) C dX9_lay_43 (by decide) ?_
        refine rw_iload_n C dX9_lay_45 rfl 2 rfl ?_
        refine rw_imul C dX9_lay_46 ?_
        refine rw_iload_n C dX9_lay_47 rfl 4 rfl ?_
        refine rw_iadd C dX9_lay_48 ?_
        refine rw_iload_n C dX9_lay_49 rfl 3 rfl ?_
        refine rw_iload C dX9_lay_50 5 rfl ?_
        refine rw_callSPi (As := [.int a2, .int a4]) C hR dX9_lay_52 cs_X9_112 (k_X9_cut g.2.1 κ a2 a4 M1) (by decide) (by decide) rfl (Nat.le_of_ble_eq_true rfl) rfl (fun x4 => ?_)
        refine rw_stI C dX9_lay_55 (fun M2 => ?_)
        refine rw_iconst (c := 1) C dX9_lay_56 ci_1 ?_
        exact rw_iret C dX9_lay_57
      · refine rw_iload C dX9_lay_36 0 rfl ?_
        exact rw_iret C dX9_lay_38
    · refine rw_bipush (c := (-2)) C dX9_lay_19 (by decide) ?_
      exact rw_iret C dX9_lay_21
def f_X9_get (a1 : Int32) (a2 : Int32) (a3 : Int32) (M : pv_M) : Option (Int32 × pv_M) := pv_cap (f_X9_isSheet a1 M) (fun x1 => (if x1 = 0 then some ((-2147483648), M) else pv_cap (f_X9_in a2.toInt64 0 2 M) (fun x2 => (if x2 = 0 then some ((-2147483648), M) else pv_cal (f_X9_lacks a1 a2 a3 M) (fun x3 M1 => (if x3 = 0 then pv_ldI pv_T 199 ((60 * a1) + a3) M1 (fun x4 => some (x4, M1)) else some ((-2147483648), M1)))))))
set_option maxHeartbeats 4000000 in
set_option maxRecDepth 100000 in
theorem k_X9_get (l : Launch) (κ : pv_K) (a1 : Int32) (a2 : Int32) (a3 : Int32) (M : pv_M) : pv_Mt l yX9_get cX9_get 4 (some .int) 2 κ [.ref (κ.1 + 196), .int a1, .int a2, .int a3] M pv_ji (f_X9_get a1 a2 a3 M) := by
  refine pv_enter (by decide +kernel) (Nat.le_of_ble_eq_true rfl) (fun g hl hR C => ?_)
  have C : pv_Ok g κ 4 cX9_get RX9 (some .int) := C
  show pv_R g κ pv_T pv_RF 4 0 0 (pv_QF g κ pv_ji) 0 [(0, .ref (κ.1 + 196)), (1, .int a1), (2, .int a2), (3, .int a3)] [] M (f_X9_get a1 a2 a3 M)
  unfold f_X9_get
  refine rw_iload_n C dX9_get_0 rfl 1 rfl ?_
  refine rw_callSPi (As := [.int a1]) C hR dX9_get_1 cs_X9_98 (k_X9_isSheet g.2.1 κ a1 M) (by decide) (by decide) rfl (Nat.le_of_ble_eq_true rfl) rfl (fun x1 => ?_)
  refine rw_if_eq (tgt := 29) C dX9_get_4 (by decide) ?_ ?_
  · refine rw_ldc (c := (-2147483648)) C dX9_get_29 mw_1057 ?_
    exact rw_iret C dX9_get_31
  · refine rw_iload_n C dX9_get_7 rfl 2 rfl ?_
    refine rw_i2l C dX9_get_8 ?_
    refine rw_lconst (c := 0) C dX9_get_9 (by decide) ?_
    refine rw_ldc2_w (c := 2) C dX9_get_10 mw_196 ?_
    refine rw_callSPi (As := [.long (a2.toInt64), .long 0, .long 2]) C hR dX9_get_13 cs_X9_88 (k_X9_in g.2.1 κ a2.toInt64 0 2 M) (by decide) (by decide) rfl (Nat.le_of_ble_eq_true rfl) rfl (fun x2 => ?_)
    refine rw_if_eq (tgt := 29) C dX9_get_16 (by decide) ?_ ?_
    · refine rw_ldc (c := (-2147483648)) C dX9_get_29 mw_1057 ?_
      exact rw_iret C dX9_get_31
    · refine rw_aload_n C dX9_get_19 rfl 0 rfl ?_
      refine rw_iload_n C dX9_get_20 rfl 1 rfl ?_
      refine rw_iload_n C dX9_get_21 rfl 2 rfl ?_
      refine rw_iload_n C dX9_get_22 rfl 3 rfl ?_
      refine rw_callVi (As := [.int a1, .int a2, .int a3]) (k0 := 196) C hR dX9_get_23 cv_X9_108 (k_X9_lacks g.2.1 κ a1 a2 a3 M) (by decide) (by decide) (by decide) sh_196 rfl rfl (Nat.le_of_ble_eq_true rfl) rfl (fun x3 M1 => ?_)
      refine rw_if_eq (tgt := 32) C dX9_get_26 (by decide) ?_ ?_
      · refine rw_aload_n C dX9_get_32 rfl 0 rfl ?_
        refine rw_getR (k0 := 196) (k1 := 199) C dX9_get_33 fl_X9_16 rfl (by decide) sh_196 (by decide) rfl ?_
        refine rw_bipush (c := 60) C dX9_get_36 (by decide) ?_
        refine rw_iload_n C dX9_get_38 rfl 1 rfl ?_
        refine rw_imul C dX9_get_39 ?_
        refine rw_iload_n C dX9_get_40 rfl 3 rfl ?_
        refine rw_iadd C dX9_get_41 ?_
        refine rw_ldI C dX9_get_42 (fun x4 => ?_)
        exact rw_iret C dX9_get_43
      · refine rw_ldc (c := (-2147483648)) C dX9_get_29 mw_1057 ?_
        exact rw_iret C dX9_get_31
def f_X9_copy_L157 (a5 : Int32) (a3 : Int32) (a4 : Int32) (rec1 : Int32 → pv_M → Option (Int32 × pv_M)) (x11 : Int32) (M4 : pv_M) : Option (Int32 × pv_M) := (if a5 ≤ x11 then some (1, M4) else pv_ldI pv_T 200 x11 M4 (fun x12 => pv_stI pv_T 199 (((60 * a3) + a4) + x11) x12 M4 (fun M5 => rec1 (x11 + 1) M5)))
def f_X9_copy_L120 (a5 : Int32) (j3 : pv_M → Option (Int32 × pv_M)) (a1 : Int32) (a2 : Int32) (rec2 : Int32 → pv_M → Option (Int32 × pv_M)) (x13 : Int32) (M6 : pv_M) : Option (Int32 × pv_M) := (if a5 ≤ x13 then j3 M6 else pv_ldI pv_T 199 (((60 * a1) + a2) + x13) M6 (fun x14 => pv_stI pv_T 200 x13 x14 M6 (fun M7 => rec2 (x13 + 1) M7)))
def f_X9_copy (a1 : Int32) (a2 : Int32) (a3 : Int32) (a4 : Int32) (a5 : Int32) (M : pv_M) : Option (Int32 × pv_M) := pv_cap (f_X9_isSheet a1 M) (fun x1 => (if x1 = 0 then some ((-2), M) else pv_cap (f_X9_isSheet a3 M) (fun x2 => (if x2 = 0 then some ((-2), M) else pv_ldI pv_T 197 a1 M (fun x3 => pv_jn (pv_cal (f_X9_met 1 M) (fun x4 M1 => some (x4, M1))) (fun j1 => (if x3 < 0 then j1 else pv_ldI pv_T 197 a3 M (fun x5 => (if 0 ≤ x5 then pv_ldI pv_T 197 a1 M (fun x6 => pv_ldI pv_T 197 a3 M (fun x7 => (if x6 = x7 then pv_jn (pv_cal (f_X9_met 2 M) (fun x8 M2 => some (x8, M2))) (fun j2 => (if a2 < 0 then j2 else (if a4 < 0 then j2 else (if a5 < 0 then j2 else pv_ldI pv_T 198 a1 M (fun x9 => (if 0 < (lg_cmp (a2.toInt64 + a5.toInt64) x9.toInt64) then j2 else pv_ldI pv_T 198 a3 M (fun x10 => (if (lg_cmp (a4.toInt64 + a5.toInt64) x10.toInt64) ≤ 0 then pv_jn (fun (M3 : pv_M) => pv_lp2 (f_X9_copy_L157 a5 a3 a4) pv_FU 0 M3) (fun j3 => pv_lp2 (f_X9_copy_L120 a5 j3 a1 a2) pv_FU 0 M) else j2)))))))) else pv_cal (f_X9_met 4 M) (fun x15 M8 => some (x15, M8))))) else j1)))))))))
set_option maxHeartbeats 4000000 in
set_option maxRecDepth 100000 in
theorem k_X9_copy (l : Launch) (κ : pv_K) (a1 : Int32) (a2 : Int32) (a3 : Int32) (a4 : Int32) (a5 : Int32) (M : pv_M) : pv_Mt l yX9_copy cX9_copy 7 (some .int) 2 κ [.ref (κ.1 + 196), .int a1, .int a2, .int a3, .int a4, .int a5] M pv_ji (f_X9_copy a1 a2 a3 a4 a5 M) := by
  refine pv_enter (by decide +kernel) (Nat.le_of_ble_eq_true rfl) (fun g hl hR C => ?_)
  have C : pv_Ok g κ 7 cX9_copy RX9 (some .int) := C
  show pv_R g κ pv_T pv_RF 7 0 0 (pv_QF g κ pv_ji) 0 [(0, .ref (κ.1 + 196)), (1, .int a1), (2, .int a2), (3, .int a3), (4, .int a4), (5, .int a5)] [] M (f_X9_copy a1 a2 a3 a4 a5 M)
  unfold f_X9_copy
  refine rw_iload_n C dX9_copy_0 rfl 1 rfl ?_
  refine rw_callSPi (As := [.int a1]) C hR dX9_copy_1 cs_X9_98 (k_X9_isSheet g.2.1 κ a1 M) (by decide) (by decide) rfl (Nat.le_of_ble_eq_true rfl) rfl (fun x1 => ?_)
  refine rw_if_eq (tgt := 14) C dX9_copy_4 (by decide) ?_ ?_
  · refine rw_bipush (c := (-2)) C dX9_copy_14 (by decide) ?_
    exact rw_iret C dX9_copy_16
  · refine rw_iload_n C dX9_copy_7 rfl 3 rfl ?_
    refine rw_callSPi (As := [.int a3]) C hR dX9_copy_8 cs_X9_98 (k_X9_isSheet g.2.1 κ a3 M) (by decide) (by decide) rfl (Nat.le_of_ble_eq_true rfl) rfl (fun x2 => ?_)
    refine rw_if_ne (tgt := 17) C dX9_copy_11 (by decide) ?_ ?_
    · refine rw_aload_n C dX9_copy_17 rfl 0 rfl ?_
      refine rw_getR (k0 := 196) (k1 := 197) C dX9_copy_18 fl_X9_7 rfl (by decide) sh_196 (by decide) rfl ?_
      refine rw_iload_n C dX9_copy_21 rfl 1 rfl ?_
      refine rw_ldI C dX9_copy_22 (fun x3 => ?_)
      refine rw_jn (fun j1 => pv_R g κ pv_T pv_RF 7 0 0 (pv_QF g κ pv_ji) 35 [(0, .ref (κ.1 + 196))] [] M (j1)) (?_) (fun j1 hj1 => ?_)
      · refine rw_aload_n C dX9_copy_35 rfl 0 rfl ?_
        refine rw_iconst (c := 1) C dX9_copy_36 ci_1 ?_
        refine rw_callVi (As := [.int 1]) (k0 := 196) C hR dX9_copy_37 cv_X9_104 (k_X9_met g.2.1 κ 1 M) (by decide) (by decide) (by decide) sh_196 rfl rfl (Nat.le_of_ble_eq_true rfl) rfl (fun x4 M1 => ?_)
        exact rw_iret C dX9_copy_40
      · refine rw_if_lt (tgt := 35) C dX9_copy_23 (by decide) ?_ ?_
        · exact rw_lv [0] rfl (hj1 )
        · refine rw_aload_n C dX9_copy_26 rfl 0 rfl ?_
          refine rw_getR (k0 := 196) (k1 := 197) C dX9_copy_27 fl_X9_7 rfl (by decide) sh_196 (by decide) rfl ?_
          refine rw_iload_n C dX9_copy_30 rfl 3 rfl ?_
          refine rw_ldI C dX9_copy_31 (fun x5 => ?_)
          refine rw_if_ge (tgt := 41) C dX9_copy_32 (by decide) ?_ ?_
          · refine rw_aload_n C dX9_copy_41 rfl 0 rfl ?_
            refine rw_getR (k0 := 196) (k1 := 197) C dX9_copy_42 fl_X9_7 rfl (by decide) sh_196 (by decide) rfl ?_
            refine rw_iload_n C dX9_copy_45 rfl 1 rfl ?_
            refine rw_ldI C dX9_copy_46 (fun x6 => ?_)
            refine rw_aload_n C dX9_copy_47 rfl 0 rfl ?_
            refine rw_getR (k0 := 196) (k1 := 197) C dX9_copy_48 fl_X9_7 rfl (by decide) sh_196 (by decide) rfl ?_
            refine rw_iload_n C dX9_copy_51 rfl 3 rfl ?_
            refine rw_ldI C dX9_copy_52 (fun x7 => ?_)
            refine rw_icmp_eq (tgt := 62) C dX9_copy_53 (by decide) ?_ ?_
            · refine rw_iload_n C dX9_copy_62 rfl 2 rfl ?_
              refine rw_jn (fun j2 => pv_R g κ pv_T pv_RF 7 0 0 (pv_QF g κ pv_ji) 111 [(0, .ref (κ.1 + 196))] [] M (j2)) (?_) (fun j2 hj2 => ?_)
              · refine rw_aload_n C dX9_copy_111 rfl 0 rfl ?_
                refine rw_iconst (c := 2) C dX9_copy_112 ci_2 ?_
                refine rw_callVi (As := [.int 2]) (k0 := 196) C hR dX9_copy_113 cv_X9_104 (k_X9_met g.2.1 κ 2 M) (by decide) (by decide) (by decide) sh_196 rfl rfl (Nat.le_of_ble_eq_true rfl) rfl (fun x8 M2 => ?_)
                exact rw_iret C dX9_copy_116
              · refine rw_if_lt (tgt := 111) C dX9_copy_63 (by decide) ?_ ?_
                · exact rw_lv [0] rfl (hj2 )
                · refine rw_iload C dX9_copy_66 4 rfl ?_
                  refine rw_if_lt (tgt := 111) C dX9_copy_68 (by decide) ?_ ?_
                  · exact rw_lv [0] rfl (hj2 )
                  · refine rw_iload C dX9_copy_71 5 rfl ?_
                    refine rw_if_lt (tgt := 111) C dX9_copy_73 (by decide) ?_ ?_
                    · exact rw_lv [0] rfl (hj2 )
                    · refine rw_iload_n C dX9_copy_76 rfl 2 rfl ?_
                      refine rw_i2l C dX9_copy_77 ?_
                      refine rw_iload C dX9_copy_78 5 rfl ?_
                      refine rw_i2l C dX9_copy_80 ?_
                      refine rw_ladd C dX9_copy_81 ?_
                      refine rw_aload_n C dX9_copy_82 rfl 0 rfl ?_
                      refine rw_getR (k0 := 196) (k1 := 198) C dX9_copy_83 fl_X9_13 rfl (by decide) sh_196 (by decide) rfl ?_
                      refine rw_iload_n C dX9_copy_86 rfl 1 rfl ?_
                      refine rw_ldI C dX9_copy_87 (fun x9 => ?_)
                      refine rw_i2l C dX9_copy_88 ?_
                      refine rw_lcmp C dX9_copy_89 ?_
                      refine rw_if_gt (tgt := 111) C dX9_copy_90 (by decide) ?_ ?_
                      · exact rw_lv [0] rfl (hj2 )
                      · refine rw_iload C dX9_copy_93 4 rfl ?_
                        refine rw_i2l C dX9_copy_95 ?_
                        refine rw_iload C dX9_copy_96 5 rfl ?_
                        refine rw_i2l C dX9_copy_98 ?_
                        refine rw_ladd C dX9_copy_99 ?_
                        refine rw_aload_n C dX9_copy_100 rfl 0 rfl ?_
                        refine rw_getR (k0 := 196) (k1 := 198) C dX9_copy_101 fl_X9_13 rfl (by decide) sh_196 (by decide) rfl ?_
                        refine rw_iload_n C dX9_copy_104 rfl 3 rfl ?_
                        refine rw_ldI C dX9_copy_105 (fun x10 => ?_)
                        refine rw_i2l C dX9_copy_106 ?_
                        refine rw_lcmp C dX9_copy_107 ?_
                        refine rw_if_le (tgt := 117) C dX9_copy_108 (by decide) ?_ ?_
                        · refine rw_iconst (c := 0) C dX9_copy_117 ci_0 ?_
                          refine rw_istore (lv' := [(6, .int 0), (0, .ref (κ.1 + 196)), (1, .int a1), (2, .int a2), (3, .int a3), (4, .int a4), (5, .int a5)]) C dX9_copy_118 (by decide) rfl ?_
                          refine rw_jn (fun j3 => ∀ (M3 : pv_M), pv_R g κ pv_T pv_RF 7 0 0 (pv_QF g κ pv_ji) 154 [(0, .ref (κ.1 + 196)), (3, .int a3), (4, .int a4), (5, .int a5)] [] M3 (j3 M3)) (fun M3 => ?_) (fun j3 hj3 => ?_)
                          · refine rw_iconst (c := 0) C dX9_copy_154 ci_0 ?_
                            refine rw_istore (lv' := [(6, .int 0), (0, .ref (κ.1 + 196)), (3, .int a3), (4, .int a4), (5, .int a5)]) C dX9_copy_155 (by decide) rfl ?_
                            refine rw_lv (lv' := [(0, .ref (κ.1 + 196)), (3, .int a3), (4, .int a4), (5, .int a5), (6, .int 0)]) [1, 2, 3, 4, 0] rfl ?_
                            refine pv_lp2_ind (fun x11 M4 xx => pv_R g κ pv_T pv_RF 7 0 0 (pv_QF g κ pv_ji) 157 [(0, .ref (κ.1 + 196)), (3, .int a3), (4, .int a4), (5, .int a5), (6, .int x11)] [] M4 xx) (fun _ _ => rw_none) (fun rec1 hrec1 x11 M4 => ?_) _ _ _
                            unfold f_X9_copy_L157
                            refine rw_iload C dX9_copy_157 4 rfl ?_
                            refine rw_iload C dX9_copy_159 3 rfl ?_
                            refine rw_icmp_ge (tgt := 192) C dX9_copy_161 (by decide) ?_ ?_
                            · refine rw_iconst (c := 1) C dX9_copy_192 ci_1 ?_
                              exact rw_iret C dX9_copy_193
                            · refine rw_aload_n C dX9_copy_164 rfl 0 rfl ?_
                              refine rw_getR (k0 := 196) (k1 := 199) C dX9_copy_165 fl_X9_16 rfl (by decide) sh_196 (by decide) rfl ?_
                              refine rw_bipush (c := 60) C dX9_copy_168 (by decide) ?_
                              refine rw_iload_n C dX9_copy_170 rfl 1 rfl ?_
                              refine rw_imul C dX9_copy_171 ?_
                              refine rw_iload C dX9_copy_172 2 rfl ?_
                              refine rw_iadd C dX9_copy_174 ?_
                              refine rw_iload C dX9_copy_175 4 rfl ?_
                              refine rw_iadd C dX9_copy_177 ?_
                              refine rw_aload_n C dX9_copy_178 rfl 0 rfl ?_
                              refine rw_getR (k0 := 196) (k1 := 200) C dX9_copy_179 fl_X9_19 rfl (by decide) sh_196 (by decide) rfl ?_
                              refine rw_iload C dX9_copy_182 4 rfl ?_
                              refine rw_ldI C dX9_copy_184 (fun x12 => ?_)
                              refine rw_stI C dX9_copy_185 (fun M5 => ?_)
                              refine rw_iinc (c := 1) (lv' := [(6, .int (x11 + 1)), (0, .ref (κ.1 + 196)), (3, .int a3), (4, .int a4), (5, .int a5)]) C dX9_copy_186 4 rfl (by decide) (by decide) rfl ?_
                              refine rw_goto (tgt := 157) C dX9_copy_189 (by decide) ?_
                              exact rw_lv [1, 2, 3, 4, 0] rfl (hrec1 (x11 + 1) M5)
                          · refine rw_lv (lv' := [(0, .ref (κ.1 + 196)), (1, .int a1), (2, .int a2), (3, .int a3), (4, .int a4), (5, .int a5), (6, .int 0)]) [1, 2, 3, 4, 5, 6, 0] rfl ?_
                            refine pv_lp2_ind (fun x13 M6 xx => pv_R g κ pv_T pv_RF 7 0 0 (pv_QF g κ pv_ji) 120 [(0, .ref (κ.1 + 196)), (1, .int a1), (2, .int a2), (3, .int a3), (4, .int a4), (5, .int a5), (6, .int x13)] [] M6 xx) (fun _ _ => rw_none) (fun rec2 hrec2 x13 M6 => ?_) _ _ _
                            unfold f_X9_copy_L120
                            refine rw_iload C dX9_copy_120 6 rfl ?_
                            refine rw_iload C dX9_copy_122 5 rfl ?_
                            refine rw_icmp_ge (tgt := 154) C dX9_copy_124 (by decide) ?_ ?_
                            · exact rw_lv [0, 3, 4, 5] rfl (hj3 M6)
                            · refine rw_aload_n C dX9_copy_127 rfl 0 rfl ?_
                              refine rw_getR (k0 := 196) (k1 := 200) C dX9_copy_128 fl_X9_19 rfl (by decide) sh_196 (by decide) rfl ?_
                              refine rw_iload C dX9_copy_131 6 rfl ?_
                              refine rw_aload_n C dX9_copy_133 rfl 0 rfl ?_
                              refine rw_getR (k0 := 196) (k1 := 199) C dX9_copy_134 fl_X9_16 rfl (by decide) sh_196 (by decide) rfl ?_
                              refine rw_bipush (c := 60) C dX9_copy_137 (by decide) ?_
                              refine rw_iload_n C dX9_copy_139 rfl 1 rfl ?_
                              refine rw_imul C dX9_copy_140 ?_
                              refine rw_iload_n C dX9_copy_141 rfl 2 rfl ?_
                              refine rw_iadd C dX9_copy_142 ?_
                              refine rw_iload C dX9_copy_143 6 rfl ?_
                              refine rw_iadd C dX9_copy_145 ?_
                              refine rw_ldI C dX9_copy_146 (fun x14 => ?_)
                              refine rw_stI C dX9_copy_147 (fun M7 => ?_)
                              refine rw_iinc (c := 1) (lv' := [(6, .int (x13 + 1)), (0, .ref (κ.1 + 196)), (1, .int a1), (2, .int a2), (3, .int a3), (4, .int a4), (5, .int a5)]) C dX9_copy_148 6 rfl (by decide) (by decide) rfl ?_
                              refine rw_goto (tgt := 120) C dX9_copy_151 (by decide) ?_
                              exact rw_lv [1, 2, 3, 4, 5, 6, 0] rfl (hrec2 (x13 + 1) M7)
                        · exact rw_lv [0] rfl (hj2 )
            · refine rw_aload_n C dX9_copy_56 rfl 0 rfl ?_
              refine rw_iconst (c := 4) C dX9_copy_57 ci_4 ?_
              refine rw_callVi (As := [.int 4]) (k0 := 196) C hR dX9_copy_58 cv_X9_104 (k_X9_met g.2.1 κ 4 M) (by decide) (by decide) (by decide) sh_196 rfl rfl (Nat.le_of_ble_eq_true rfl) rfl (fun x15 M8 => ?_)
              exact rw_iret C dX9_copy_61
          · exact rw_lv [0] rfl (hj1 )
    · refine rw_bipush (c := (-2)) C dX9_copy_14 (by decide) ?_
      exact rw_iret C dX9_copy_16
def f_X9_isText (a1 : Int32) (M : pv_M) : Option Int32 := pv_cap (f_X9_in a1.toInt64 0 2 M) (fun x1 => (if x1 = 0 ∨ x1 = 1 then some x1 else none))
set_option maxHeartbeats 4000000 in
set_option maxRecDepth 100000 in
theorem k_X9_isText (l : Launch) (κ : pv_K) (a1 : Int32) (M : pv_M) : pv_MtP l yX9_isText cX9_isText 1 (some .boolean) 1 κ [.int a1] M pv_ji (f_X9_isText a1 M) := by
  refine pv_enterP (by decide +kernel) (Nat.le_of_ble_eq_true rfl) (fun g hl hR C => ?_)
  have C : pv_Ok g κ 1 cX9_isText RX9 (some .boolean) := C
  show pv_R g κ pv_T pv_RF 1 0 0 (pv_QP g κ pv_ji M) 0 [(0, .int a1)] [] M (f_X9_isText a1 M)
  unfold f_X9_isText
  refine rw_iload_n C dX9_isText_0 rfl 0 rfl ?_
  refine rw_i2l C dX9_isText_1 ?_
  refine rw_lconst (c := 0) C dX9_isText_2 (by decide) ?_
  refine rw_ldc2_w (c := 2) C dX9_isText_3 mw_196 ?_
  refine rw_callSPi (As := [.long (a1.toInt64), .long 0, .long 2]) C hR dX9_isText_6 cs_X9_88 (k_X9_in g.2.1 κ a1.toInt64 0 2 M) (by decide) (by decide) rfl (Nat.le_of_ble_eq_true rfl) rfl (fun x1 => ?_)
  exact rw_zret_ckP C dX9_isText_9
def f_X9_type (a1 : Int32) (a2 : Int32) (M : pv_M) : Option (Int32 × pv_M) := pv_cap (f_X9_isText a1 M) (fun x1 => (if x1 = 0 then some ((-2), M) else pv_cap (f_X9_in a2.toInt64 0 255 M) (fun x2 => (if x2 = 0 then some ((-2), M) else pv_ldI pv_T 202 a1 M (fun x3 => pv_jn (fun (x4 : Int32) => (if x3 = x4 then some ((-4), M) else pv_ldI pv_T 202 a1 M (fun x5 => pv_stI pv_T 201 ((40 * a1) + x5) a2 M (fun M1 => pv_ldI pv_T 202 a1 M1 (fun x6 => pv_stI pv_T 202 a1 (x6 + 1) M1 (fun M2 => pv_ldI pv_T 202 a1 M2 (fun x7 => some (x7, M2)))))))) (fun j1 => (if a1 = 0 then j1 15 else j1 31)))))))
set_option maxHeartbeats 4000000 in
set_option maxRecDepth 100000 in
theorem k_X9_type (l : Launch) (κ : pv_K) (a1 : Int32) (a2 : Int32) (M : pv_M) : pv_Mt l yX9_type cX9_type 3 (some .int) 2 κ [.ref (κ.1 + 196), .int a1, .int a2] M pv_ji (f_X9_type a1 a2 M) := by
  refine pv_enter (by decide +kernel) (Nat.le_of_ble_eq_true rfl) (fun g hl hR C => ?_)
  have C : pv_Ok g κ 3 cX9_type RX9 (some .int) := C
  show pv_R g κ pv_T pv_RF 3 0 0 (pv_QF g κ pv_ji) 0 [(0, .ref (κ.1 + 196)), (1, .int a1), (2, .int a2)] [] M (f_X9_type a1 a2 M)
  unfold f_X9_type
  refine rw_iload_n C dX9_type_0 rfl 1 rfl ?_
  refine rw_callSPi (As := [.int a1]) C hR dX9_type_1 cs_X9_117 (k_X9_isText g.2.1 κ a1 M) (by decide) (by decide) rfl (Nat.le_of_ble_eq_true rfl) rfl (fun x1 => ?_)
  refine rw_if_eq (tgt := 19) C dX9_type_4 (by decide) ?_ ?_
  · refine rw_bipush (c := (-2)) C dX9_type_19 (by decide) ?_
    exact rw_iret C dX9_type_21
  · refine rw_iload_n C dX9_type_7 rfl 2 rfl ?_
    refine rw_i2l C dX9_type_8 ?_
    refine rw_lconst (c := 0) C dX9_type_9 (by decide) ?_
    refine rw_ldc2_w (c := 255) C dX9_type_10 mw_192 ?_
    refine rw_callSPi (As := [.long (a2.toInt64), .long 0, .long 255]) C hR dX9_type_13 cs_X9_88 (k_X9_in g.2.1 κ a2.toInt64 0 255 M) (by decide) (by decide) rfl (Nat.le_of_ble_eq_true rfl) rfl (fun x2 => ?_)
    refine rw_if_ne (tgt := 22) C dX9_type_16 (by decide) ?_ ?_
    · refine rw_aload_n C dX9_type_22 rfl 0 rfl ?_
      refine rw_getR (k0 := 196) (k1 := 202) C dX9_type_23 fl_X9_25 rfl (by decide) sh_196 (by decide) rfl ?_
      refine rw_iload_n C dX9_type_26 rfl 1 rfl ?_
      refine rw_ldI C dX9_type_27 (fun x3 => ?_)
      refine rw_iload_n C dX9_type_28 rfl 1 rfl ?_
      refine rw_jn (fun j1 => ∀ (x4 : Int32), pv_R g κ pv_T pv_RF 3 0 0 (pv_QF g κ pv_ji) 39 [(0, .ref (κ.1 + 196)), (1, .int a1), (2, .int a2)] [.int x4, .int x3] M (j1 x4)) (fun x4 => ?_) (fun j1 hj1 => ?_)
      · refine rw_icmp_ne (tgt := 45) C dX9_type_39 (by decide) ?_ ?_
        · refine rw_aload_n C dX9_type_45 rfl 0 rfl ?_
          refine rw_getR (k0 := 196) (k1 := 201) C dX9_type_46 fl_X9_22 rfl (by decide) sh_196 (by decide) rfl ?_
          refine rw_bipush (c := 40) C dX9_type_49 (by decide) ?_
          refine rw_iload_n C dX9_type_51 rfl 1 rfl ?_
          refine rw_imul C dX9_type_52 ?_
          refine rw_aload_n C dX9_type_53 rfl 0 rfl ?_
          refine rw_getR (k0 := 196) (k1 := 202) C dX9_type_54 fl_X9_25 rfl (by decide) sh_196 (by decide) rfl ?_
          refine rw_iload_n C dX9_type_57 rfl 1 rfl ?_
          refine rw_ldI C dX9_type_58 (fun x5 => ?_)
          refine rw_iadd C dX9_type_59 ?_
          refine rw_iload_n C dX9_type_60 rfl 2 rfl ?_
          refine rw_stI C dX9_type_61 (fun M1 => ?_)
          refine rw_aload_n C dX9_type_62 rfl 0 rfl ?_
          refine rw_getR (k0 := 196) (k1 := 202) C dX9_type_63 fl_X9_25 rfl (by decide) sh_196 (by decide) rfl ?_
          refine rw_iload_n C dX9_type_66 rfl 1 rfl ?_
          refine rw_dup2 C dX9_type_67 rfl rfl ?_
          refine rw_ldI C dX9_type_68 (fun x6 => ?_)
          refine rw_iconst (c := 1) C dX9_type_69 ci_1 ?_
          refine rw_iadd C dX9_type_70 ?_
          refine rw_stI C dX9_type_71 (fun M2 => ?_)
          refine rw_aload_n C dX9_type_72 rfl 0 rfl ?_
          refine rw_getR (k0 := 196) (k1 := 202) C dX9_type_73 fl_X9_25 rfl (by decide) sh_196 (by decide) rfl ?_
          refine rw_iload_n C dX9_type_76 rfl 1 rfl ?_
          refine rw_ldI C dX9_type_77 (fun x7 => ?_)
          exact rw_iret C dX9_type_78
        · refine rw_bipush (c := (-4)) C dX9_type_42 (by decide) ?_
          exact rw_iret C dX9_type_44
      · refine rw_if_ne (tgt := 37) C dX9_type_29 (by decide) ?_ ?_
        · refine rw_bipush (c := 31) C dX9_type_37 (by decide) ?_
          exact hj1 31
        · refine rw_bipush (c := 15) C dX9_type_32 (by decide) ?_
          refine rw_goto (tgt := 39) C dX9_type_34 (by decide) ?_
          exact hj1 15
    · refine rw_bipush (c := (-2)) C dX9_type_19 (by decide) ?_
      exact rw_iret C dX9_type_21
def f_X9_wipe (a1 : Int32) (M : pv_M) : Option (Int32 × pv_M) := pv_cap (f_X9_isText a1 M) (fun x1 => (if x1 = 0 then some ((-2), M) else pv_ldI pv_T 202 a1 M (fun x2 => pv_stI pv_T 202 a1 0 M (fun M1 => some (x2, M1)))))
set_option maxHeartbeats 4000000 in
set_option maxRecDepth 100000 in
theorem k_X9_wipe (l : Launch) (κ : pv_K) (a1 : Int32) (M : pv_M) : pv_Mt l yX9_wipe cX9_wipe 3 (some .int) 2 κ [.ref (κ.1 + 196), .int a1] M pv_ji (f_X9_wipe a1 M) := by
  refine pv_enter (by decide +kernel) (Nat.le_of_ble_eq_true rfl) (fun g hl hR C => ?_)
  have C : pv_Ok g κ 3 cX9_wipe RX9 (some .int) := C
  show pv_R g κ pv_T pv_RF 3 0 0 (pv_QF g κ pv_ji) 0 [(0, .ref (κ.1 + 196)), (1, .int a1)] [] M (f_X9_wipe a1 M)
  unfold f_X9_wipe
  refine rw_iload_n C dX9_wipe_0 rfl 1 rfl ?_
  refine rw_callSPi (As := [.int a1]) C hR dX9_wipe_1 cs_X9_117 (k_X9_isText g.2.1 κ a1 M) (by decide) (by decide) rfl (Nat.le_of_ble_eq_true rfl) rfl (fun x1 => ?_)
  refine rw_if_ne (tgt := 10) C dX9_wipe_4 (by decide) ?_ ?_
  · refine rw_aload_n C dX9_wipe_10 rfl 0 rfl ?_
    refine rw_getR (k0 := 196) (k1 := 202) C dX9_wipe_11 fl_X9_25 rfl (by decide) sh_196 (by decide) rfl ?_
    refine rw_iload_n C dX9_wipe_14 rfl 1 rfl ?_
    refine rw_ldI C dX9_wipe_15 (fun x2 => ?_)
    refine rw_istore_n (lv' := [(2, .int x2), (0, .ref (κ.1 + 196)), (1, .int a1)]) C dX9_wipe_16 rfl (by decide) rfl ?_
    refine rw_aload_n C dX9_wipe_17 rfl 1 rfl ?_
    refine rw_getR (k0 := 196) (k1 := 202) C dX9_wipe_18 fl_X9_25 rfl (by decide) sh_196 (by decide) rfl ?_
    refine rw_iload_n C dX9_wipe_21 rfl 2 rfl ?_
    refine rw_iconst (c := 0) C dX9_wipe_22 ci_0 ?_
    refine rw_stI C dX9_wipe_23 (fun M1 => ?_)
    refine rw_iload_n C dX9_wipe_24 rfl 0 rfl ?_
    exact rw_iret C dX9_wipe_25
  · refine rw_bipush (c := (-2)) C dX9_wipe_7 (by decide) ?_
    exact rw_iret C dX9_wipe_9
def f_X9_undo (a1 : Int32) (M : pv_M) : Option (Int32 × pv_M) := pv_cap (f_X9_isText a1 M) (fun x1 => (if x1 = 0 then some ((-2), M) else pv_ldI pv_T 202 a1 M (fun x2 => (if x2 = 0 then some ((-3), M) else pv_ldI pv_T 202 a1 M (fun x3 => pv_stI pv_T 202 a1 (x3 - 1) M (fun M1 => pv_ldI pv_T 202 a1 M1 (fun x4 => some (x4, M1))))))))
set_option maxHeartbeats 4000000 in
set_option maxRecDepth 100000 in
theorem k_X9_undo (l : Launch) (κ : pv_K) (a1 : Int32) (M : pv_M) : pv_Mt l yX9_undo cX9_undo 2 (some .int) 2 κ [.ref (κ.1 + 196), .int a1] M pv_ji (f_X9_undo a1 M) := by
  refine pv_enter (by decide +kernel) (Nat.le_of_ble_eq_true rfl) (fun g hl hR C => ?_)
  have C : pv_Ok g κ 2 cX9_undo RX9 (some .int) := C
  show pv_R g κ pv_T pv_RF 2 0 0 (pv_QF g κ pv_ji) 0 [(0, .ref (κ.1 + 196)), (1, .int a1)] [] M (f_X9_undo a1 M)
  unfold f_X9_undo
  refine rw_iload_n C dX9_undo_0 rfl 1 rfl ?_
  refine rw_callSPi (As := [.int a1]) C hR dX9_undo_1 cs_X9_117 (k_X9_isText g.2.1 κ a1 M) (by decide) (by decide) rfl (Nat.le_of_ble_eq_true rfl) rfl (fun x1 => ?_)
  refine rw_if_ne (tgt := 10) C dX9_undo_4 (by decide) ?_ ?_
  · refine rw_aload_n C dX9_undo_10 rfl 0 rfl ?_
    refine rw_getR (k0 := 196) (k1 := 202) C dX9_undo_11 fl_X9_25 rfl (by decide) sh_196 (by decide) rfl ?_
    refine rw_iload_n C dX9_undo_14 rfl 1 rfl ?_
    refine rw_ldI C dX9_undo_15 (fun x2 => ?_)
    refine rw_if_ne (tgt := 22) C dX9_undo_16 (by decide) ?_ ?_
    · refine rw_aload_n C dX9_undo_22 rfl 0 rfl ?_
      refine rw_getR (k0 := 196) (k1 := 202) C dX9_undo_23 fl_X9_25 rfl (by decide) sh_196 (by decide) rfl ?_
      refine rw_iload_n C dX9_undo_26 rfl 1 rfl ?_
      refine rw_dup2 C dX9_undo_27 rfl rfl ?_
      refine rw_ldI C dX9_undo_28 (fun x3 => ?_)
      refine rw_iconst (c := 1) C dX9_undo_29 ci_1 ?_
      refine rw_isub C dX9_undo_30 ?_
      refine rw_stI C dX9_undo_31 (fun M1 => ?_)
      refine rw_aload_n C dX9_undo_32 rfl 0 rfl ?_
      refine rw_getR (k0 := 196) (k1 := 202) C dX9_undo_33 fl_X9_25 rfl (by decide) sh_196 (by decide) rfl ?_
      refine rw_iload_n C dX9_undo_36 rfl 1 rfl ?_
      refine rw_ldI C dX9_undo_37 (fun x4 => ?_)
      exact rw_iret C dX9_undo_38
    · refine rw_bipush (c := (-3)) C dX9_undo_19 (by decide) ?_
      exact rw_iret C dX9_undo_21
  · refine rw_bipush (c := (-2)) C dX9_undo_7 (by decide) ?_
    exact rw_iret C dX9_undo_9
def f_X9_here (a1 : Int32) (M : pv_M) : Option Int32 := pv_nm (M.1 196 7) (fun x1 => pv_ldI pv_T 202 a1 M (fun x2 => (if x2 ≤ x1 then some ((-1)) else pv_nm (M.1 196 7) (fun x3 => pv_ldI pv_T 201 ((40 * a1) + x3) M (fun x4 => some x4)))))
set_option maxHeartbeats 4000000 in
set_option maxRecDepth 100000 in
theorem k_X9_here (l : Launch) (κ : pv_K) (a1 : Int32) (M : pv_M) : pv_MtP l yX9_here cX9_here 2 (some .int) 0 κ [.ref (κ.1 + 196), .int a1] M pv_ji (f_X9_here a1 M) := by
  refine pv_enterP (by decide +kernel) (Nat.le_of_ble_eq_true rfl) (fun g hl hR C => ?_)
  have C : pv_Ok g κ 2 cX9_here RX9 (some .int) := C
  show pv_R g κ pv_T pv_RF 2 0 0 (pv_QP g κ pv_ji M) 0 [(0, .ref (κ.1 + 196)), (1, .int a1)] [] M (f_X9_here a1 M)
  unfold f_X9_here
  refine rw_aload_n C dX9_here_0 rfl 0 rfl ?_
  refine rw_getI (k0 := 196) C dX9_here_1 fl_X9_122 rfl (by decide) sh_196 (by decide) (fun x1 => ?_)
  refine rw_aload_n C dX9_here_4 rfl 0 rfl ?_
  refine rw_getR (k0 := 196) (k1 := 202) C dX9_here_5 fl_X9_25 rfl (by decide) sh_196 (by decide) rfl ?_
  refine rw_iload_n C dX9_here_8 rfl 1 rfl ?_
  refine rw_ldI C dX9_here_9 (fun x2 => ?_)
  refine rw_icmp_ge (tgt := 30) C dX9_here_10 (by decide) ?_ ?_
  · refine rw_iconst (c := (-1)) C dX9_here_30 ci_m1 ?_
    exact rw_iretP C dX9_here_31
  · refine rw_aload_n C dX9_here_13 rfl 0 rfl ?_
    refine rw_getR (k0 := 196) (k1 := 201) C dX9_here_14 fl_X9_22 rfl (by decide) sh_196 (by decide) rfl ?_
    refine rw_bipush (c := 40) C dX9_here_17 (by decide) ?_
    refine rw_iload_n C dX9_here_19 rfl 1 rfl ?_
    refine rw_imul C dX9_here_20 ?_
    refine rw_aload_n C dX9_here_21 rfl 0 rfl ?_
    refine rw_getI (k0 := 196) C dX9_here_22 fl_X9_122 rfl (by decide) sh_196 (by decide) (fun x3 => ?_)
    refine rw_iadd C dX9_here_25 ?_
    refine rw_ldI C dX9_here_26 (fun x4 => ?_)
    refine rw_goto (tgt := 31) C dX9_here_27 (by decide) ?_
    exact rw_iretP C dX9_here_31
def f_X9_tells_J31 (a1 : Int32) (a2 : Int32) (x1 : Int32) (M : pv_M) (a3 : Int32) (x3 : Int32) : Option Int32 := (if a1 = 0 then some x3 else (if a2 = 2 then some x3 else (if a1 = 1 then (if a2 = 0 then pv_cap (f_X9_in x1.toInt64 97 99 M) (fun x6 => (if x6 = 0 then some ((-1)) else some (x1 - 97))) else (if x1 = 43 then some 1 else (if x1 = 45 then some 0 else some ((-1))))) else pv_cap (f_X9_in x1.toInt64 97 102 M) (fun x4 => (if x4 = 0 then some ((-1)) else pv_jn (some (x1 - 97)) (fun j2 => (if a2 = 0 then j2 else pv_ldI pv_T 204 a3 M (fun x5 => (if (x1 - 97) = x5 then some ((-1)) else j2)))))))))
def f_X9_tells (a1 : Int32) (a2 : Int32) (a3 : Int32) (M : pv_M) : Option Int32 := pv_cap (f_X9_here a1 M) (fun x1 => pv_cap (f_X9_in x1.toInt64 49 57 M) (fun x2 => pv_jn (f_X9_tells_J31 a1 a2 x1 M a3) (fun j1 => (if x2 = 0 then j1 ((-1)) else j1 (x1 - 48)))))
set_option maxHeartbeats 4000000 in
set_option maxRecDepth 100000 in
theorem k_X9_tells (l : Launch) (κ : pv_K) (a1 : Int32) (a2 : Int32) (a3 : Int32) (M : pv_M) : pv_MtP l yX9_tells cX9_tells 6 (some .int) 1 κ [.ref (κ.1 + 196), .int a1, .int a2, .int a3] M pv_ji (f_X9_tells a1 a2 a3 M) := by
  refine pv_enterP (by decide +kernel) (Nat.le_of_ble_eq_true rfl) (fun g hl hR C => ?_)
  have C : pv_Ok g κ 6 cX9_tells RX9 (some .int) := C
  show pv_R g κ pv_T pv_RF 6 0 0 (pv_QP g κ pv_ji M) 0 [(0, .ref (κ.1 + 196)), (1, .int a1), (2, .int a2), (3, .int a3)] [] M (f_X9_tells a1 a2 a3 M)
  unfold f_X9_tells
  refine rw_aload_n C dX9_tells_0 rfl 0 rfl ?_
  refine rw_iload_n C dX9_tells_1 rfl 1 rfl ?_
  refine rw_callVPi (As := [.int a1]) (k0 := 196) C hR dX9_tells_2 cv_X9_125 (k_X9_here g.2.1 κ a1 M) (by decide) (by decide) (by decide) sh_196 rfl rfl (Nat.le_of_ble_eq_true rfl) rfl (fun x1 => ?_)
  refine rw_istore (lv' := [(4, .int x1), (0, .ref (κ.1 + 196)), (1, .int a1), (2, .int a2), (3, .int a3)]) C dX9_tells_5 (by decide) rfl ?_
  refine rw_iload C dX9_tells_7 0 rfl ?_
  refine rw_i2l C dX9_tells_9 ?_
  refine rw_ldc2_w (c := 49) C dX9_tells_10 mw_245 ?_
  refine rw_ldc2_w (c := 57) C dX9_tells_13 mw_246 ?_
  refine rw_callSPi (As := [.long (x1.toInt64), .long 49, .long 57]) C hR dX9_tells_16 cs_X9_88 (k_X9_in g.2.1 κ x1.toInt64 49 57 M) (by decide) (by decide) rfl (Nat.le_of_ble_eq_true rfl) rfl (fun x2 => ?_)
  refine rw_jn (fun j1 => ∀ (x3 : Int32), pv_R g κ pv_T pv_RF 6 0 0 (pv_QP g κ pv_ji M) 31 [(0, .ref (κ.1 + 196)), (1, .int a1), (2, .int a2), (3, .int a3), (4, .int x1)] [.int x3] M (j1 x3)) (fun x3 => ?_) (fun j1 hj1 => ?_)
  · unfold f_X9_tells_J31
    refine rw_istore (lv' := [(5, .int x3), (0, .ref (κ.1 + 196)), (1, .int a1), (2, .int a2), (3, .int a3), (4, .int x1)]) C dX9_tells_31 (by decide) rfl ?_
    refine rw_iload_n C dX9_tells_33 rfl 2 rfl ?_
    refine rw_if_eq (tgt := 42) C dX9_tells_34 (by decide) ?_ ?_
    · refine rw_iload C dX9_tells_42 0 rfl ?_
      exact rw_iretP C dX9_tells_44
    · refine rw_iload_n C dX9_tells_37 rfl 3 rfl ?_
      refine rw_iconst (c := 2) C dX9_tells_38 ci_2 ?_
      refine rw_icmp_ne (tgt := 45) C dX9_tells_39 (by decide) ?_ ?_
      · refine rw_iload_n C dX9_tells_45 rfl 2 rfl ?_
        refine rw_iconst (c := 1) C dX9_tells_46 ci_1 ?_
        refine rw_icmp_ne (tgt := 105) C dX9_tells_47 (by decide) ?_ ?_
        · refine rw_iload C dX9_tells_105 5 rfl ?_
          refine rw_i2l C dX9_tells_107 ?_
          refine rw_ldc2_w (c := 97) C dX9_tells_108 mw_247 ?_
          refine rw_ldc2_w (c := 102) C dX9_tells_111 mw_249 ?_
          refine rw_callSPi (As := [.long (x1.toInt64), .long 97, .long 102]) C hR dX9_tells_114 cs_X9_88 (k_X9_in g.2.1 κ x1.toInt64 97 102 M) (by decide) (by decide) rfl (Nat.le_of_ble_eq_true rfl) rfl (fun x4 => ?_)
          refine rw_if_eq (tgt := 146) C dX9_tells_117 (by decide) ?_ ?_
          · refine rw_iconst (c := (-1)) C dX9_tells_146 ci_m1 ?_
            exact rw_iretP C dX9_tells_147
          · refine rw_iload_n C dX9_tells_120 rfl 3 rfl ?_
            refine rw_jn (fun j2 => pv_R g κ pv_T pv_RF 6 0 0 (pv_QP g κ pv_ji M) 138 [(4, .int x1)] [] M (j2)) (?_) (fun j2 hj2 => ?_)
            · refine rw_iload C dX9_tells_138 0 rfl ?_
              refine rw_bipush (c := 97) C dX9_tells_140 (by decide) ?_
              refine rw_isub C dX9_tells_142 ?_
              refine rw_goto (tgt := 147) C dX9_tells_143 (by decide) ?_
              exact rw_iretP C dX9_tells_147
            · refine rw_if_eq (tgt := 138) C dX9_tells_121 (by decide) ?_ ?_
              · exact rw_lv [5] rfl (hj2 )
              · refine rw_iload C dX9_tells_124 5 rfl ?_
                refine rw_bipush (c := 97) C dX9_tells_126 (by decide) ?_
                refine rw_isub C dX9_tells_128 ?_
                refine rw_aload_n C dX9_tells_129 rfl 1 rfl ?_
                refine rw_getR (k0 := 196) (k1 := 204) C dX9_tells_130 fl_X9_31 rfl (by decide) sh_196 (by decide) rfl ?_
                refine rw_iload_n C dX9_tells_133 rfl 4 rfl ?_
                refine rw_ldI C dX9_tells_134 (fun x5 => ?_)
                refine rw_icmp_eq (tgt := 146) C dX9_tells_135 (by decide) ?_ ?_
                · refine rw_iconst (c := (-1)) C dX9_tells_146 ci_m1 ?_
                  exact rw_iretP C dX9_tells_147
                · exact rw_lv [5] rfl (hj2 )
        · refine rw_iload_n C dX9_tells_50 rfl 3 rfl ?_
          refine rw_if_ne (tgt := 81) C dX9_tells_51 (by decide) ?_ ?_
          · refine rw_iload C dX9_tells_81 5 rfl ?_
            refine rw_bipush (c := 43) C dX9_tells_83 (by decide) ?_
            refine rw_icmp_ne (tgt := 92) C dX9_tells_85 (by decide) ?_ ?_
            · refine rw_iload C dX9_tells_92 5 rfl ?_
              refine rw_bipush (c := 45) C dX9_tells_94 (by decide) ?_
              refine rw_icmp_ne (tgt := 103) C dX9_tells_96 (by decide) ?_ ?_
              · refine rw_iconst (c := (-1)) C dX9_tells_103 ci_m1 ?_
                exact rw_iretP C dX9_tells_104
              · refine rw_iconst (c := 0) C dX9_tells_99 ci_0 ?_
                refine rw_goto (tgt := 104) C dX9_tells_100 (by decide) ?_
                exact rw_iretP C dX9_tells_104
            · refine rw_iconst (c := 1) C dX9_tells_88 ci_1 ?_
              refine rw_goto (tgt := 104) C dX9_tells_89 (by decide) ?_
              exact rw_iretP C dX9_tells_104
          · refine rw_iload C dX9_tells_54 5 rfl ?_
            refine rw_i2l C dX9_tells_56 ?_
            refine rw_ldc2_w (c := 97) C dX9_tells_57 mw_247 ?_
            refine rw_ldc2_w (c := 99) C dX9_tells_60 mw_248 ?_
            refine rw_callSPi (As := [.long (x1.toInt64), .long 97, .long 99]) C hR dX9_tells_63 cs_X9_88 (k_X9_in g.2.1 κ x1.toInt64 97 99 M) (by decide) (by decide) rfl (Nat.le_of_ble_eq_true rfl) rfl (fun x6 => ?_)
            refine rw_if_eq (tgt := 77) C dX9_tells_66 (by decide) ?_ ?_
            · refine rw_iconst (c := (-1)) C dX9_tells_77 ci_m1 ?_
              refine rw_goto (tgt := 104) C dX9_tells_78 (by decide) ?_
              exact rw_iretP C dX9_tells_104
            · refine rw_iload C dX9_tells_69 5 rfl ?_
              refine rw_bipush (c := 97) C dX9_tells_71 (by decide) ?_
              refine rw_isub C dX9_tells_73 ?_
              refine rw_goto (tgt := 104) C dX9_tells_74 (by decide) ?_
              exact rw_iretP C dX9_tells_104
      · refine rw_iload C dX9_tells_42 0 rfl ?_
        exact rw_iretP C dX9_tells_44
  · refine rw_if_eq (tgt := 30) C dX9_tells_19 (by decide) ?_ ?_
    · refine rw_iconst (c := (-1)) C dX9_tells_30 ci_m1 ?_
      exact rw_lv [1, 2, 3, 4, 0] rfl (hj1 ((-1)))
    · refine rw_iload C dX9_tells_22 0 rfl ?_
      refine rw_bipush (c := 48) C dX9_tells_24 (by decide) ?_
      refine rw_isub C dX9_tells_26 ?_
      refine rw_goto (tgt := 31) C dX9_tells_27 (by decide) ?_
      exact rw_lv [1, 2, 3, 4, 0] rfl (hj1 (x1 - 48))
def f_X9_readsThing_L37 (j2 : pv_M → Option (Int32 × pv_M)) (a1 : Int32) (x4 : Int32) (rec1 : Int32 → pv_M → Option (Int32 × pv_M)) (x6 : Int32) (M3 : pv_M) : Option (Int32 × pv_M) := (if 3 ≤ x6 then j2 M3 else pv_cap (f_X9_tells a1 x6 x4 M3) (fun x7 => (if x7 = ((-1)) then some (0, M3) else pv_stI pv_T 204 (x4 + x6) x7 M3 (fun M4 => pv_nm (M4.1 196 7) (fun x8 => pv_nm (pv_u M4.1 196 7 (x8 + 1), M4.2) (fun M5 => rec1 (x6 + 1) M5))))))
def f_X9_readsThing (a1 : Int32) (M : pv_M) : Option (Int32 × pv_M) := pv_ldI pv_T 203 a1 M (fun x1 => pv_jn (fun (x2 : Int32) => (if x1 = x2 then some (0, M) else pv_ldI pv_T 203 a1 M (fun x3 => pv_nm ((24 * a1) + (3 * x3)) (fun x4 => pv_jn (fun (M1 : pv_M) => pv_ldI pv_T 203 a1 M1 (fun x5 => pv_stI pv_T 203 a1 (x5 + 1) M1 (fun M2 => some (1, M2)))) (fun j2 => pv_lp2 (f_X9_readsThing_L37 j2 a1 x4) pv_FU 0 M))))) (fun j1 => (if a1 = 0 then j1 4 else j1 8)))
set_option maxHeartbeats 4000000 in
set_option maxRecDepth 100000 in
theorem k_X9_readsThing (l : Launch) (κ : pv_K) (a1 : Int32) (M : pv_M) : pv_Mt l yX9_readsThing cX9_readsThing 5 (some .boolean) 2 κ [.ref (κ.1 + 196), .int a1] M pv_ji (f_X9_readsThing a1 M) := by
  refine pv_enter (by decide +kernel) (Nat.le_of_ble_eq_true rfl) (fun g hl hR C => ?_)
  have C : pv_Ok g κ 5 cX9_readsThing RX9 (some .boolean) := C
  show pv_R g κ pv_T pv_RF 5 0 0 (pv_QF g κ pv_ji) 0 [(0, .ref (κ.1 + 196)), (1, .int a1)] [] M (f_X9_readsThing a1 M)
  unfold f_X9_readsThing
  refine rw_aload_n C dX9_readsThing_0 rfl 0 rfl ?_
  refine rw_getR (k0 := 196) (k1 := 203) C dX9_readsThing_1 fl_X9_28 rfl (by decide) sh_196 (by decide) rfl ?_
  refine rw_iload_n C dX9_readsThing_4 rfl 1 rfl ?_
  refine rw_ldI C dX9_readsThing_5 (fun x1 => ?_)
  refine rw_iload_n C dX9_readsThing_6 rfl 1 rfl ?_
  refine rw_jn (fun j1 => ∀ (x2 : Int32), pv_R g κ pv_T pv_RF 5 0 0 (pv_QF g κ pv_ji) 16 [(0, .ref (κ.1 + 196)), (1, .int a1)] [.int x2, .int x1] M (j1 x2)) (fun x2 => ?_) (fun j1 hj1 => ?_)
  · refine rw_icmp_ne (tgt := 21) C dX9_readsThing_16 (by decide) ?_ ?_
    · refine rw_bipush (c := 24) C dX9_readsThing_21 (by decide) ?_
      refine rw_iload_n C dX9_readsThing_23 rfl 1 rfl ?_
      refine rw_imul C dX9_readsThing_24 ?_
      refine rw_iconst (c := 3) C dX9_readsThing_25 ci_3 ?_
      refine rw_aload_n C dX9_readsThing_26 rfl 0 rfl ?_
      refine rw_getR (k0 := 196) (k1 := 203) C dX9_readsThing_27 fl_X9_28 rfl (by decide) sh_196 (by decide) rfl ?_
      refine rw_iload_n C dX9_readsThing_30 rfl 1 rfl ?_
      refine rw_ldI C dX9_readsThing_31 (fun x3 => ?_)
      refine rw_imul C dX9_readsThing_32 ?_
      refine rw_iadd C dX9_readsThing_33 ?_
      refine rw_nm (fun x4 => ?_)
      refine rw_istore_n (lv' := [(2, .int x4), (0, .ref (κ.1 + 196)), (1, .int a1)]) C dX9_readsThing_34 rfl (by decide) rfl ?_
      refine rw_iconst (c := 0) C dX9_readsThing_35 ci_0 ?_
      refine rw_istore_n (lv' := [(3, .int 0), (2, .int x4), (0, .ref (κ.1 + 196)), (1, .int a1)]) C dX9_readsThing_36 rfl (by decide) rfl ?_
      refine rw_jn (fun j2 => ∀ (M1 : pv_M), pv_R g κ pv_T pv_RF 5 0 0 (pv_QF g κ pv_ji) 85 [(0, .ref (κ.1 + 196)), (1, .int a1)] [] M1 (j2 M1)) (fun M1 => ?_) (fun j2 hj2 => ?_)
      · refine rw_aload_n C dX9_readsThing_85 rfl 0 rfl ?_
        refine rw_getR (k0 := 196) (k1 := 203) C dX9_readsThing_86 fl_X9_28 rfl (by decide) sh_196 (by decide) rfl ?_
        refine rw_iload_n C dX9_readsThing_89 rfl 1 rfl ?_
        refine rw_dup2 C dX9_readsThing_90 rfl rfl ?_
        refine rw_ldI C dX9_readsThing_91 (fun x5 => ?_)
        refine rw_iconst (c := 1) C dX9_readsThing_92 ci_1 ?_
        refine rw_iadd C dX9_readsThing_93 ?_
        refine rw_stI C dX9_readsThing_94 (fun M2 => ?_)
        refine rw_iconst (c := 1) C dX9_readsThing_95 ci_1 ?_
        exact rw_zret (Or.inr rfl) C dX9_readsThing_96
      · refine rw_lv (lv' := [(0, .ref (κ.1 + 196)), (1, .int a1), (2, .int x4), (3, .int 0)]) [2, 3, 1, 0] rfl ?_
        refine pv_lp2_ind (fun x6 M3 xx => pv_R g κ pv_T pv_RF 5 0 0 (pv_QF g κ pv_ji) 37 [(0, .ref (κ.1 + 196)), (1, .int a1), (2, .int x4), (3, .int x6)] [] M3 xx) (fun _ _ => rw_none) (fun rec1 hrec1 x6 M3 => ?_) _ _ _
        unfold f_X9_readsThing_L37
        refine rw_iload_n C dX9_readsThing_37 rfl 3 rfl ?_
        refine rw_iconst (c := 3) C dX9_readsThing_38 ci_3 ?_
        refine rw_icmp_ge (tgt := 85) C dX9_readsThing_39 (by decide) ?_ ?_
        · exact rw_lv [0, 1] rfl (hj2 M3)
        · refine rw_aload_n C dX9_readsThing_42 rfl 0 rfl ?_
          refine rw_iload_n C dX9_readsThing_43 rfl 1 rfl ?_
          refine rw_iload_n C dX9_readsThing_44 rfl 3 rfl ?_
          refine rw_iload_n C dX9_readsThing_45 rfl 2 rfl ?_
          refine rw_callVPi (As := [.int a1, .int x6, .int x4]) (k0 := 196) C hR dX9_readsThing_46 cv_X9_138 (k_X9_tells g.2.1 κ a1 x6 x4 M3) (by decide) (by decide) (by decide) sh_196 rfl rfl (Nat.le_of_ble_eq_true rfl) rfl (fun x7 => ?_)
          refine rw_istore (lv' := [(4, .int x7), (0, .ref (κ.1 + 196)), (1, .int a1), (2, .int x4), (3, .int x6)]) C dX9_readsThing_49 (by decide) rfl ?_
          refine rw_iload C dX9_readsThing_51 0 rfl ?_
          refine rw_iconst (c := (-1)) C dX9_readsThing_53 ci_m1 ?_
          refine rw_icmp_ne (tgt := 59) C dX9_readsThing_54 (by decide) ?_ ?_
          · refine rw_aload_n C dX9_readsThing_59 rfl 1 rfl ?_
            refine rw_getR (k0 := 196) (k1 := 204) C dX9_readsThing_60 fl_X9_31 rfl (by decide) sh_196 (by decide) rfl ?_
            refine rw_iload_n C dX9_readsThing_63 rfl 3 rfl ?_
            refine rw_iload_n C dX9_readsThing_64 rfl 4 rfl ?_
            refine rw_iadd C dX9_readsThing_65 ?_
            refine rw_iload C dX9_readsThing_66 0 rfl ?_
            refine rw_stI C dX9_readsThing_68 (fun M4 => ?_)
            refine rw_aload_n C dX9_readsThing_69 rfl 1 rfl ?_
            refine rw_dup C dX9_readsThing_70 rfl ?_
            refine rw_getI (k0 := 196) C dX9_readsThing_71 fl_X9_122 rfl (by decide) sh_196 (by decide) (fun x8 => ?_)
            refine rw_iconst (c := 1) C dX9_readsThing_74 ci_1 ?_
            refine rw_iadd C dX9_readsThing_75 ?_
            refine rw_put (k0 := 196) C dX9_readsThing_76 fl_X9_122 ff_X9_7 rfl rfl rfl (by decide) sh_196 (by decide) (fun M5 => ?_)
            refine rw_iinc (c := 1) (lv' := [(3, .int (x6 + 1)), (4, .int x7), (0, .ref (κ.1 + 196)), (1, .int a1), (2, .int x4)]) C dX9_readsThing_79 4 rfl (by decide) (by decide) rfl ?_
            refine rw_goto (tgt := 37) C dX9_readsThing_82 (by decide) ?_
            exact rw_lv [2, 3, 4, 0] rfl (hrec1 (x6 + 1) M5)
          · refine rw_iconst (c := 0) C dX9_readsThing_57 ci_0 ?_
            exact rw_zret (Or.inl rfl) C dX9_readsThing_58
    · refine rw_iconst (c := 0) C dX9_readsThing_19 ci_0 ?_
      exact rw_zret (Or.inl rfl) C dX9_readsThing_20
  · refine rw_if_ne (tgt := 14) C dX9_readsThing_7 (by decide) ?_ ?_
    · refine rw_bipush (c := 8) C dX9_readsThing_14 (by decide) ?_
      exact hj1 8
    · refine rw_iconst (c := 4) C dX9_readsThing_10 ci_4 ?_
      refine rw_goto (tgt := 16) C dX9_readsThing_11 (by decide) ?_
      exact hj1 4
def f_X9_readsText_J59 (x5 : Int32) (j2 : pv_M → Option (Int32 × pv_M)) (M6 : pv_M) (rec1 : Int32 → pv_M → Option (Int32 × pv_M)) (a1 : Int32) (x6 : Int32) : Option (Int32 × pv_M) := (if x5 = 0 then j2 M6 else pv_jn (pv_nm (M6.1 196 7) (fun x7 => pv_jn (fun (x8 : Int32) => pv_nm (pv_u M6.1 196 7 (x7 + x8), M6.2) (fun M7 => rec1 x6 M7)) (fun j5 => (if x6 = 0 then j5 0 else j5 1)))) (fun j4 => (if x6 = 0 then j4 else pv_cap (f_X9_here a1 M6) (fun x9 => (if x9 = 59 then j4 else j2 M6)))))
def f_X9_readsText_L27 (a1 : Int32) (j2 : pv_M → Option (Int32 × pv_M)) (rec1 : Int32 → pv_M → Option (Int32 × pv_M)) (x4 : Int32) (M5 : pv_M) : Option (Int32 × pv_M) := (if x4 = 0 then some ((-1), M5) else pv_cal (f_X9_readsThing a1 M5) (fun x5 M6 => pv_jn (f_X9_readsText_J59 x5 j2 M6 rec1 a1) (fun j3 => (if x5 = 0 then j3 0 else pv_nm (M6.1 196 7) (fun x10 => pv_ldI pv_T 202 a1 M6 (fun x11 => (if x11 ≤ x10 then j3 0 else j3 1)))))))
def f_X9_readsText (a1 : Int32) (M : pv_M) : Option (Int32 × pv_M) := pv_nm (pv_u M.1 196 7 0, M.2) (fun M1 => pv_stI pv_T 203 a1 0 M1 (fun M2 => pv_ldI pv_T 202 a1 M2 (fun x1 => pv_jn (fun (x2 : Int32) => pv_jn (fun (M3 : pv_M) => pv_stI pv_T 203 a1 0 M3 (fun M4 => pv_nm (M4.1 196 7) (fun x3 => some (x3, M4)))) (fun j2 => pv_lp2 (f_X9_readsText_L27 a1 j2) pv_FU x2 M2)) (fun j1 => (if x1 ≤ 0 then j1 0 else j1 1)))))
set_option maxHeartbeats 4000000 in
set_option maxRecDepth 100000 in
theorem k_X9_readsText (l : Launch) (κ : pv_K) (a1 : Int32) (M : pv_M) : pv_Mt l yX9_readsText cX9_readsText 4 (some .int) 3 κ [.ref (κ.1 + 196), .int a1] M pv_ji (f_X9_readsText a1 M) := by
  refine pv_enter (by decide +kernel) (Nat.le_of_ble_eq_true rfl) (fun g hl hR C => ?_)
  have C : pv_Ok g κ 4 cX9_readsText RX9 (some .int) := C
  show pv_R g κ pv_T pv_RF 4 0 0 (pv_QF g κ pv_ji) 0 [(0, .ref (κ.1 + 196)), (1, .int a1)] [] M (f_X9_readsText a1 M)
  unfold f_X9_readsText
  refine rw_aload_n C dX9_readsText_0 rfl 0 rfl ?_
  refine rw_iconst (c := 0) C dX9_readsText_1 ci_0 ?_
  refine rw_put (k0 := 196) C dX9_readsText_2 fl_X9_122 ff_X9_7 rfl rfl rfl (by decide) sh_196 (by decide) (fun M1 => ?_)
  refine rw_aload_n C dX9_readsText_5 rfl 0 rfl ?_
  refine rw_getR (k0 := 196) (k1 := 203) C dX9_readsText_6 fl_X9_28 rfl (by decide) sh_196 (by decide) rfl ?_
  refine rw_iload_n C dX9_readsText_9 rfl 1 rfl ?_
  refine rw_iconst (c := 0) C dX9_readsText_10 ci_0 ?_
  refine rw_stI C dX9_readsText_11 (fun M2 => ?_)
  refine rw_aload_n C dX9_readsText_12 rfl 0 rfl ?_
  refine rw_getR (k0 := 196) (k1 := 202) C dX9_readsText_13 fl_X9_25 rfl (by decide) sh_196 (by decide) rfl ?_
  refine rw_iload_n C dX9_readsText_16 rfl 1 rfl ?_
  refine rw_ldI C dX9_readsText_17 (fun x1 => ?_)
  refine rw_jn (fun j1 => ∀ (x2 : Int32), pv_R g κ pv_T pv_RF 4 0 0 (pv_QF g κ pv_ji) 26 [(0, .ref (κ.1 + 196)), (1, .int a1)] [.int x2] M2 (j1 x2)) (fun x2 => ?_) (fun j1 hj1 => ?_)
  · refine rw_istore_n (lv' := [(2, .int x2), (0, .ref (κ.1 + 196)), (1, .int a1)]) C dX9_readsText_26 rfl (by decide) rfl ?_
    refine rw_jn (fun j2 => ∀ (M3 : pv_M), pv_R g κ pv_T pv_RF 4 0 0 (pv_QF g κ pv_ji) 78 [(0, .ref (κ.1 + 196)), (1, .int a1)] [] M3 (j2 M3)) (fun M3 => ?_) (fun j2 hj2 => ?_)
    · refine rw_aload_n C dX9_readsText_78 rfl 0 rfl ?_
      refine rw_getR (k0 := 196) (k1 := 203) C dX9_readsText_79 fl_X9_28 rfl (by decide) sh_196 (by decide) rfl ?_
      refine rw_iload_n C dX9_readsText_82 rfl 1 rfl ?_
      refine rw_iconst (c := 0) C dX9_readsText_83 ci_0 ?_
      refine rw_stI C dX9_readsText_84 (fun M4 => ?_)
      refine rw_aload_n C dX9_readsText_85 rfl 0 rfl ?_
      refine rw_getI (k0 := 196) C dX9_readsText_86 fl_X9_122 rfl (by decide) sh_196 (by decide) (fun x3 => ?_)
      exact rw_iret C dX9_readsText_89
    · refine rw_lv (lv' := [(0, .ref (κ.1 + 196)), (1, .int a1), (2, .int x2)]) [1, 2, 0] rfl ?_
      refine pv_lp2_ind (fun x4 M5 xx => pv_R g κ pv_T pv_RF 4 0 0 (pv_QF g κ pv_ji) 27 [(0, .ref (κ.1 + 196)), (1, .int a1), (2, .int x4)] [] M5 xx) (fun _ _ => rw_none) (fun rec1 hrec1 x4 M5 => ?_) _ _ _
      unfold f_X9_readsText_L27
      refine rw_iload_n C dX9_readsText_27 rfl 2 rfl ?_
      refine rw_if_eq (tgt := 111) C dX9_readsText_28 (by decide) ?_ ?_
      · refine rw_iconst (c := (-1)) C dX9_readsText_111 ci_m1 ?_
        exact rw_iret C dX9_readsText_112
      · refine rw_aload_n C dX9_readsText_31 rfl 0 rfl ?_
        refine rw_iload_n C dX9_readsText_32 rfl 1 rfl ?_
        refine rw_callVi (As := [.int a1]) (k0 := 196) C hR dX9_readsText_33 cv_X9_141 (k_X9_readsThing g.2.1 κ a1 M5) (by decide) (by decide) (by decide) sh_196 rfl rfl (Nat.le_of_ble_eq_true rfl) rfl (fun x5 M6 => ?_)
        refine rw_istore_n (lv' := [(3, .int x5), (0, .ref (κ.1 + 196)), (1, .int a1), (2, .int x4)]) C dX9_readsText_36 rfl (by decide) rfl ?_
        refine rw_iload_n C dX9_readsText_37 rfl 0 rfl ?_
        refine rw_jn (fun j3 => ∀ (x6 : Int32), pv_R g κ pv_T pv_RF 4 0 0 (pv_QF g κ pv_ji) 59 [(0, .ref (κ.1 + 196)), (1, .int a1), (3, .int x5)] [.int x6] M6 (j3 x6)) (fun x6 => ?_) (fun j3 hj3 => ?_)
        · unfold f_X9_readsText_J59
          refine rw_istore_n (lv' := [(2, .int x6), (0, .ref (κ.1 + 196)), (1, .int a1), (3, .int x5)]) C dX9_readsText_59 rfl (by decide) rfl ?_
          refine rw_iload_n C dX9_readsText_60 rfl 3 rfl ?_
          refine rw_if_eq (tgt := 78) C dX9_readsText_61 (by decide) ?_ ?_
          · exact rw_lv [1, 2] rfl (hj2 M6)
          · refine rw_iload_n C dX9_readsText_64 rfl 0 rfl ?_
            refine rw_jn (fun j4 => pv_R g κ pv_T pv_RF 4 0 0 (pv_QF g κ pv_ji) 90 [(0, .ref (κ.1 + 196)), (1, .int a1), (2, .int x6)] [] M6 (j4)) (?_) (fun j4 hj4 => ?_)
            · refine rw_aload_n C dX9_readsText_90 rfl 0 rfl ?_
              refine rw_dup C dX9_readsText_91 rfl ?_
              refine rw_getI (k0 := 196) C dX9_readsText_92 fl_X9_122 rfl (by decide) sh_196 (by decide) (fun x7 => ?_)
              refine rw_iload_n C dX9_readsText_95 rfl 2 rfl ?_
              refine rw_jn (fun j5 => ∀ (x8 : Int32), pv_R g κ pv_T pv_RF 4 0 0 (pv_QF g κ pv_ji) 104 [(0, .ref (κ.1 + 196)), (1, .int a1), (2, .int x6)] [.int x8, .int x7, .ref (κ.1 + 196)] M6 (j5 x8)) (fun x8 => ?_) (fun j5 hj5 => ?_)
              · refine rw_iadd C dX9_readsText_104 ?_
                refine rw_put (k0 := 196) C dX9_readsText_105 fl_X9_122 ff_X9_7 rfl rfl rfl (by decide) sh_196 (by decide) (fun M7 => ?_)
                refine rw_goto (tgt := 27) C dX9_readsText_108 (by decide) ?_
                exact hrec1 x6 M7
              · refine rw_if_eq (tgt := 103) C dX9_readsText_96 (by decide) ?_ ?_
                · refine rw_iconst (c := 0) C dX9_readsText_103 ci_0 ?_
                  exact hj5 0
                · refine rw_iconst (c := 1) C dX9_readsText_99 ci_1 ?_
                  refine rw_goto (tgt := 104) C dX9_readsText_100 (by decide) ?_
                  exact hj5 1
            · refine rw_if_eq (tgt := 90) C dX9_readsText_65 (by decide) ?_ ?_
              · exact rw_lv [1, 2, 0] rfl (hj4 )
              · refine rw_aload_n C dX9_readsText_68 rfl 1 rfl ?_
                refine rw_iload_n C dX9_readsText_69 rfl 2 rfl ?_
                refine rw_callVPi (As := [.int a1]) (k0 := 196) C hR dX9_readsText_70 cv_X9_125 (k_X9_here g.2.1 κ a1 M6) (by decide) (by decide) (by decide) sh_196 rfl rfl (Nat.le_of_ble_eq_true rfl) rfl (fun x9 => ?_)
                refine rw_bipush (c := 59) C dX9_readsText_73 (by decide) ?_
                refine rw_icmp_eq (tgt := 90) C dX9_readsText_75 (by decide) ?_ ?_
                · exact rw_lv [1, 2, 0] rfl (hj4 )
                · exact rw_lv [1, 2] rfl (hj2 M6)
        · refine rw_if_eq (tgt := 58) C dX9_readsText_38 (by decide) ?_ ?_
          · refine rw_iconst (c := 0) C dX9_readsText_58 ci_0 ?_
            exact rw_lv [1, 2, 0] rfl (hj3 0)
          · refine rw_aload_n C dX9_readsText_41 rfl 1 rfl ?_
            refine rw_getI (k0 := 196) C dX9_readsText_42 fl_X9_122 rfl (by decide) sh_196 (by decide) (fun x10 => ?_)
            refine rw_aload_n C dX9_readsText_45 rfl 1 rfl ?_
            refine rw_getR (k0 := 196) (k1 := 202) C dX9_readsText_46 fl_X9_25 rfl (by decide) sh_196 (by decide) rfl ?_
            refine rw_iload_n C dX9_readsText_49 rfl 2 rfl ?_
            refine rw_ldI C dX9_readsText_50 (fun x11 => ?_)
            refine rw_icmp_ge (tgt := 58) C dX9_readsText_51 (by decide) ?_ ?_
            · refine rw_iconst (c := 0) C dX9_readsText_58 ci_0 ?_
              exact rw_lv [1, 2, 0] rfl (hj3 0)
            · refine rw_iconst (c := 1) C dX9_readsText_54 ci_1 ?_
              refine rw_goto (tgt := 59) C dX9_readsText_55 (by decide) ?_
              exact rw_lv [1, 2, 0] rfl (hj3 1)
  · refine rw_if_le (tgt := 25) C dX9_readsText_18 (by decide) ?_ ?_
    · refine rw_iconst (c := 0) C dX9_readsText_25 ci_0 ?_
      exact hj1 0
    · refine rw_iconst (c := 1) C dX9_readsText_21 ci_1 ?_
      refine rw_goto (tgt := 26) C dX9_readsText_22 (by decide) ?_
      exact hj1 1
def f_X9_reads_L2 (rec1 : Int32 → pv_M → Option (Unit × pv_M)) (x1 : Int32) (M1 : pv_M) : Option (Unit × pv_M) := (if 3 ≤ x1 then some ((), M1) else pv_cal (f_X9_readsText x1 M1) (fun x2 M2 => rec1 (x1 + 1) M2))
def f_X9_reads (M : pv_M) : Option (Unit × pv_M) := pv_lp2 f_X9_reads_L2 pv_FU 0 M
set_option maxHeartbeats 4000000 in
set_option maxRecDepth 100000 in
theorem k_X9_reads (l : Launch) (κ : pv_K) (M : pv_M) : pv_Mt l yX9_reads cX9_reads 2 none 4 κ [.ref (κ.1 + 196)] M pv_ju (f_X9_reads M) := by
  refine pv_enter (by decide +kernel) (Nat.le_of_ble_eq_true rfl) (fun g hl hR C => ?_)
  have C : pv_Ok g κ 2 cX9_reads RX9 none := C
  show pv_R g κ pv_T pv_RF 2 0 0 (pv_QF g κ pv_ju) 0 [(0, .ref (κ.1 + 196))] [] M (f_X9_reads M)
  unfold f_X9_reads
  refine rw_iconst (c := 0) C dX9_reads_0 ci_0 ?_
  refine rw_istore_n (lv' := [(1, .int 0), (0, .ref (κ.1 + 196))]) C dX9_reads_1 rfl (by decide) rfl ?_
  refine rw_lv (lv' := [(0, .ref (κ.1 + 196)), (1, .int 0)]) [1, 0] rfl ?_
  refine pv_lp2_ind (fun x1 M1 xx => pv_R g κ pv_T pv_RF 2 0 0 (pv_QF g κ pv_ju) 2 [(0, .ref (κ.1 + 196)), (1, .int x1)] [] M1 xx) (fun _ _ => rw_none) (fun rec1 hrec1 x1 M1 => ?_) _ _ _
  unfold f_X9_reads_L2
  refine rw_iload_n C dX9_reads_2 rfl 1 rfl ?_
  refine rw_iconst (c := 3) C dX9_reads_3 ci_3 ?_
  refine rw_icmp_ge (tgt := 19) C dX9_reads_4 (by decide) ?_ ?_
  · exact rw_vret C dX9_reads_19
  · refine rw_aload_n C dX9_reads_7 rfl 0 rfl ?_
    refine rw_iload_n C dX9_reads_8 rfl 1 rfl ?_
    refine rw_callVi (As := [.int x1]) (k0 := 196) C hR dX9_reads_9 cv_X9_144 (k_X9_readsText g.2.1 κ x1 M1) (by decide) (by decide) (by decide) sh_196 rfl rfl (Nat.le_of_ble_eq_true rfl) rfl (fun x2 M2 => ?_)
    refine rw_pop C dX9_reads_12 rfl ?_
    refine rw_iinc (c := 1) (lv' := [(1, .int (x1 + 1)), (0, .ref (κ.1 + 196))]) C dX9_reads_13 1 rfl (by decide) (by decide) rfl ?_
    refine rw_goto (tgt := 2) C dX9_reads_16 (by decide) ?_
    exact rw_lv [1, 0] rfl (hrec1 (x1 + 1) M2)
def f_X9_fault (a1 : Int32) (M : pv_M) : Option (Int32 × pv_M) := pv_cap (f_X9_isText a1 M) (fun x1 => (if x1 = 0 then some ((-2), M) else pv_cal (f_X9_readsText a1 M) (fun x2 M1 => some (x2, M1))))
set_option maxHeartbeats 4000000 in
set_option maxRecDepth 100000 in
theorem k_X9_fault (l : Launch) (κ : pv_K) (a1 : Int32) (M : pv_M) : pv_Mt l yX9_fault cX9_fault 2 (some .int) 4 κ [.ref (κ.1 + 196), .int a1] M pv_ji (f_X9_fault a1 M) := by
  refine pv_enter (by decide +kernel) (Nat.le_of_ble_eq_true rfl) (fun g hl hR C => ?_)
  have C : pv_Ok g κ 2 cX9_fault RX9 (some .int) := C
  show pv_R g κ pv_T pv_RF 2 0 0 (pv_QF g κ pv_ji) 0 [(0, .ref (κ.1 + 196)), (1, .int a1)] [] M (f_X9_fault a1 M)
  unfold f_X9_fault
  refine rw_iload_n C dX9_fault_0 rfl 1 rfl ?_
  refine rw_callSPi (As := [.int a1]) C hR dX9_fault_1 cs_X9_117 (k_X9_isText g.2.1 κ a1 M) (by decide) (by decide) rfl (Nat.le_of_ble_eq_true rfl) rfl (fun x1 => ?_)
  refine rw_if_eq (tgt := 15) C dX9_fault_4 (by decide) ?_ ?_
  · refine rw_bipush (c := (-2)) C dX9_fault_15 (by decide) ?_
    exact rw_iret C dX9_fault_17
  · refine rw_aload_n C dX9_fault_7 rfl 0 rfl ?_
    refine rw_iload_n C dX9_fault_8 rfl 1 rfl ?_
    refine rw_callVi (As := [.int a1]) (k0 := 196) C hR dX9_fault_9 cv_X9_144 (k_X9_readsText g.2.1 κ a1 M) (by decide) (by decide) (by decide) sh_196 rfl rfl (Nat.le_of_ble_eq_true rfl) rfl (fun x2 M1 => ?_)
    refine rw_goto (tgt := 17) C dX9_fault_12 (by decide) ?_
    exact rw_iret C dX9_fault_17
