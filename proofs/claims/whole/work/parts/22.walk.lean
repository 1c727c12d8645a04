def f_X4_isLost (a1 : Int32) (M : pv_M) : Option Int32 := pv_ldI pv_T 189 a1 M (fun x1 => (if x1 = ((-1)) then some 1 else some 0))
set_option maxHeartbeats 4000000 in
set_option maxRecDepth 100000 in
theorem k_X4_isLost (l : Launch) (κ : pv_K) (a1 : Int32) (M : pv_M) : pv_MtP l yX4_isLost cX4_isLost 2 (some .boolean) 0 κ [.ref (κ.1 + 188), .int a1] M pv_ji (f_X4_isLost a1 M) := by
  refine pv_enterP (by decide +kernel) (Nat.le_of_ble_eq_true rfl) (fun g hl hR C => ?_)
  have C : pv_Ok g κ 2 cX4_isLost RX4 (some .boolean) := C
  show pv_R g κ pv_T pv_RF 2 0 0 (pv_QP g κ pv_ji M) 0 [(0, .ref (κ.1 + 188)), (1, .int a1)] [] M (f_X4_isLost a1 M)
  unfold f_X4_isLost
  refine rw_aload_n C dX4_isLost_0 rfl 0 rfl ?_
  refine rw_getR (k0 := 188) (k1 := 189) C dX4_isLost_1 fl_X4_11 rfl (by decide) sh_188 (by decide) rfl ?_
  refine rw_iload_n C dX4_isLost_4 rfl 1 rfl ?_
  refine rw_ldI C dX4_isLost_5 (fun x1 => ?_)
  refine rw_iconst (c := (-1)) C dX4_isLost_6 ci_m1 ?_
  refine rw_icmp_ne (tgt := 14) C dX4_isLost_7 (by decide) ?_ ?_
  · refine rw_iconst (c := 0) C dX4_isLost_14 ci_0 ?_
    exact rw_zretP (Or.inl rfl) C dX4_isLost_15
  · refine rw_iconst (c := 1) C dX4_isLost_10 ci_1 ?_
    refine rw_goto (tgt := 15) C dX4_isLost_11 (by decide) ?_
    exact rw_zretP (Or.inr rfl) C dX4_isLost_15
def f_X4_begin (a1 : Int32) (a2 : Int32) (a3 : Int32) (M : pv_M) : Option (Unit × pv_M) := pv_stI pv_T 189 a1 a2 M (fun M1 => pv_stI pv_T 190 a1 a3 M1 (fun M2 => pv_ldR pv_T 191 a1 (fun k1 => pv_cal (f_J7_fill_53178 k1 0 M2) (fun u1 M3 => some ((), M3)))))
set_option maxHeartbeats 4000000 in
set_option maxRecDepth 100000 in
theorem k_X4_begin (l : Launch) (κ : pv_K) (a1 : Int32) (a2 : Int32) (a3 : Int32) (M : pv_M) : pv_Mt l yX4_begin cX4_begin 4 none 1 κ [.ref (κ.1 + 188), .int a1, .int a2, .int a3] M pv_ju (f_X4_begin a1 a2 a3 M) := by
  refine pv_enter (by decide +kernel) (Nat.le_of_ble_eq_true rfl) (fun g hl hR C => ?_)
  have C : pv_Ok g κ 4 cX4_begin RX4 none := C
  show pv_R g κ pv_T pv_RF 4 0 0 (pv_QF g κ pv_ju) 0 [(0, .ref (κ.1 + 188)), (1, .int a1), (2, .int a2), (3, .int a3)] [] M (f_X4_begin a1 a2 a3 M)
  unfold f_X4_begin
  refine rw_aload_n C dX4_begin_0 rfl 0 rfl ?_
  refine rw_getR (k0 := 188) (k1 := 189) C dX4_begin_1 fl_X4_11 rfl (by decide) sh_188 (by decide) rfl ?_
  refine rw_iload_n C dX4_begin_4 rfl 1 rfl ?_
  refine rw_iload_n C dX4_begin_5 rfl 2 rfl ?_
  refine rw_stI C dX4_begin_6 (fun M1 => ?_)
  refine rw_aload_n C dX4_begin_7 rfl 0 rfl ?_
  refine rw_getR (k0 := 188) (k1 := 190) C dX4_begin_8 fl_X4_15 rfl (by decide) sh_188 (by decide) rfl ?_
  refine rw_iload_n C dX4_begin_11 rfl 1 rfl ?_
  refine rw_iload_n C dX4_begin_12 rfl 3 rfl ?_
  refine rw_stI C dX4_begin_13 (fun M2 => ?_)
  refine rw_aload_n C dX4_begin_14 rfl 0 rfl ?_
  refine rw_getR (k0 := 188) (k1 := 191) C dX4_begin_15 fl_X4_20 rfl (by decide) sh_188 (by decide) rfl ?_
  refine rw_iload_n C dX4_begin_18 rfl 1 rfl ?_
  refine rw_ldR C dX4_begin_19 (fun k1 => ?_)
  refine rw_iconst (c := 0) C dX4_begin_20 ci_0 ?_
  refine rw_callSu (As := [.ref (κ.1 + k1), .int 0]) C hR dX4_begin_21 cs_X4_23 (k_J7_fill_53178 g.2.1 κ k1 0 M2) (by decide) (by decide) rfl (Nat.le_of_ble_eq_true rfl) rfl (fun u1 M3 => ?_)
  exact rw_vret C dX4_begin_24
def f_X4_forget (a1 : Int32) (M : pv_M) : Option (Unit × pv_M) := pv_stI pv_T 189 a1 ((-1)) M (fun M1 => pv_stI pv_T 190 a1 0 M1 (fun M2 => some ((), M2)))
set_option maxHeartbeats 4000000 in
set_option maxRecDepth 100000 in
theorem k_X4_forget (l : Launch) (κ : pv_K) (a1 : Int32) (M : pv_M) : pv_Mt l yX4_forget cX4_forget 2 none 0 κ [.ref (κ.1 + 188), .int a1] M pv_ju (f_X4_forget a1 M) := by
  refine pv_enter (by decide +kernel) (Nat.le_of_ble_eq_true rfl) (fun g hl hR C => ?_)
  have C : pv_Ok g κ 2 cX4_forget RX4 none := C
  show pv_R g κ pv_T pv_RF 2 0 0 (pv_QF g κ pv_ju) 0 [(0, .ref (κ.1 + 188)), (1, .int a1)] [] M (f_X4_forget a1 M)
  unfold f_X4_forget
  refine rw_aload_n C dX4_forget_0 rfl 0 rfl ?_
  refine rw_getR (k0 := 188) (k1 := 189) C dX4_forget_1 fl_X4_11 rfl (by decide) sh_188 (by decide) rfl ?_
  refine rw_iload_n C dX4_forget_4 rfl 1 rfl ?_
  refine rw_iconst (c := (-1)) C dX4_forget_5 ci_m1 ?_
  refine rw_stI C dX4_forget_6 (fun M1 => ?_)
  refine rw_aload_n C dX4_forget_7 rfl 0 rfl ?_
  refine rw_getR (k0 := 188) (k1 := 190) C dX4_forget_8 fl_X4_15 rfl (by decide) sh_188 (by decide) rfl ?_
  refine rw_iload_n C dX4_forget_11 rfl 1 rfl ?_
  refine rw_iconst (c := 0) C dX4_forget_12 ci_0 ?_
  refine rw_stI C dX4_forget_13 (fun M2 => ?_)
  exact rw_vret C dX4_forget_14
def f_X4_accessFinding (a1 : Int32) (a2 : Int32) (a3 : Int32) (M : pv_M) : Option Int32 := pv_cap (f_X4_isLost a1 M) (fun x1 => (if x1 = 0 then pv_ldI pv_T 189 a1 M (fun x2 => (if x2 = a2 then pv_ldI pv_T 190 a1 M (fun x3 => pv_cap (f_X8_isWithin a3 0 (x3 - 1) M) (fun x4 => (if x4 = 0 then some 2 else some 0))) else some 3)) else some 1))
set_option maxHeartbeats 4000000 in
set_option maxRecDepth 100000 in
theorem k_X4_accessFinding (l : Launch) (κ : pv_K) (a1 : Int32) (a2 : Int32) (a3 : Int32) (M : pv_M) : pv_MtP l yX4_accessFinding cX4_accessFinding 4 (some .int) 1 κ [.ref (κ.1 + 188), .int a1, .int a2, .int a3] M pv_ji (f_X4_accessFinding a1 a2 a3 M) := by
  refine pv_enterP (by decide +kernel) (Nat.le_of_ble_eq_true rfl) (fun g hl hR C => ?_)
  have C : pv_Ok g κ 4 cX4_accessFinding RX4 (some .int) := C
  show pv_R g κ pv_T pv_RF 4 0 0 (pv_QP g κ pv_ji M) 0 [(0, .ref (κ.1 + 188)), (1, .int a1), (2, .int a2), (3, .int a3)] [] M (f_X4_accessFinding a1 a2 a3 M)
  unfold f_X4_accessFinding
  refine rw_aload_n C dX4_accessFinding_0 rfl 0 rfl ?_
  refine rw_iload_n C dX4_accessFinding_1 rfl 1 rfl ?_
  refine rw_callVPi (As := [.int a1]) (k0 := 188) C hR dX4_accessFinding_2 cv_X4_33 (k_X4_isLost g.2.1 κ a1 M) (by decide) (by decide) (by decide) sh_188 rfl rfl (Nat.le_of_ble_eq_true rfl) rfl (fun x1 => ?_)
  refine rw_if_eq (tgt := 10) C dX4_accessFinding_5 (by decide) ?_ ?_
  · refine rw_aload_n C dX4_accessFinding_10 rfl 0 rfl ?_
    refine rw_getR (k0 := 188) (k1 := 189) C dX4_accessFinding_11 fl_X4_11 rfl (by decide) sh_188 (by decide) rfl ?_
    refine rw_iload_n C dX4_accessFinding_14 rfl 1 rfl ?_
    refine rw_ldI C dX4_accessFinding_15 (fun x2 => ?_)
    refine rw_iload_n C dX4_accessFinding_16 rfl 2 rfl ?_
    refine rw_icmp_eq (tgt := 22) C dX4_accessFinding_17 (by decide) ?_ ?_
    · refine rw_iload_n C dX4_accessFinding_22 rfl 3 rfl ?_
      refine rw_iconst (c := 0) C dX4_accessFinding_23 ci_0 ?_
      refine rw_aload_n C dX4_accessFinding_24 rfl 0 rfl ?_
      refine rw_getR (k0 := 188) (k1 := 190) C dX4_accessFinding_25 fl_X4_15 rfl (by decide) sh_188 (by decide) rfl ?_
      refine rw_iload_n C dX4_accessFinding_28 rfl 1 rfl ?_
      refine rw_ldI C dX4_accessFinding_29 (fun x3 => ?_)
      refine rw_iconst (c := 1) C dX4_accessFinding_30 ci_1 ?_
      refine rw_isub C dX4_accessFinding_31 ?_
      refine rw_callNPi (As := [.int a3, .int 0, .int (x3 - 1)]) C hR dX4_accessFinding_32 cn_X4_29 (k_X8_isWithin g.2.1 κ a3 0 (x3 - 1) M) (by decide) (by decide) rfl (Nat.le_of_ble_eq_true rfl) rfl (fun x4 => ?_)
      refine rw_if_eq (tgt := 42) C dX4_accessFinding_35 (by decide) ?_ ?_
      · refine rw_iconst (c := 2) C dX4_accessFinding_42 ci_2 ?_
        exact rw_iretP C dX4_accessFinding_43
      · refine rw_iconst (c := 0) C dX4_accessFinding_38 ci_0 ?_
        refine rw_goto (tgt := 43) C dX4_accessFinding_39 (by decide) ?_
        exact rw_iretP C dX4_accessFinding_43
    · refine rw_iconst (c := 3) C dX4_accessFinding_20 ci_3 ?_
      exact rw_iretP C dX4_accessFinding_21
  · refine rw_iconst (c := 1) C dX4_accessFinding_8 ci_1 ?_
    exact rw_iretP C dX4_accessFinding_9
def f_X4_hasItems (a1 : Int32) (a2 : Int32) (a3 : Int32) (M : pv_M) : Option Int32 := (if a2 < 0 then some 0 else (if a3 < 0 then some 0 else pv_ldI pv_T 190 a1 M (fun x1 => (if (x1 - a2) < a3 then some 0 else some 1))))
set_option maxHeartbeats 4000000 in
set_option maxRecDepth 100000 in
theorem k_X4_hasItems (l : Launch) (κ : pv_K) (a1 : Int32) (a2 : Int32) (a3 : Int32) (M : pv_M) : pv_MtP l yX4_hasItems cX4_hasItems 4 (some .boolean) 0 κ [.ref (κ.1 + 188), .int a1, .int a2, .int a3] M pv_ji (f_X4_hasItems a1 a2 a3 M) := by
  refine pv_enterP (by decide +kernel) (Nat.le_of_ble_eq_true rfl) (fun g hl hR C => ?_)
  have C : pv_Ok g κ 4 cX4_hasItems RX4 (some .boolean) := C
  show pv_R g κ pv_T pv_RF 4 0 0 (pv_QP g κ pv_ji M) 0 [(0, .ref (κ.1 + 188)), (1, .int a1), (2, .int a2), (3, .int a3)] [] M (f_X4_hasItems a1 a2 a3 M)
  unfold f_X4_hasItems
  refine rw_iload_n C dX4_hasItems_0 rfl 2 rfl ?_
  refine rw_if_lt (tgt := 24) C dX4_hasItems_1 (by decide) ?_ ?_
  · refine rw_iconst (c := 0) C dX4_hasItems_24 ci_0 ?_
    exact rw_zretP (Or.inl rfl) C dX4_hasItems_25
  · refine rw_iload_n C dX4_hasItems_4 rfl 3 rfl ?_
    refine rw_if_lt (tgt := 24) C dX4_hasItems_5 (by decide) ?_ ?_
    · refine rw_iconst (c := 0) C dX4_hasItems_24 ci_0 ?_
      exact rw_zretP (Or.inl rfl) C dX4_hasItems_25
    · refine rw_iload_n C dX4_hasItems_8 rfl 3 rfl ?_
      refine rw_aload_n C dX4_hasItems_9 rfl 0 rfl ?_
      refine rw_getR (k0 := 188) (k1 := 190) C dX4_hasItems_10 fl_X4_15 rfl (by decide) sh_188 (by decide) rfl ?_
      refine rw_iload_n C dX4_hasItems_13 rfl 1 rfl ?_
      refine rw_ldI C dX4_hasItems_14 (fun x1 => ?_)
      refine rw_iload_n C dX4_hasItems_15 rfl 2 rfl ?_
      refine rw_isub C dX4_hasItems_16 ?_
      refine rw_icmp_gt (tgt := 24) C dX4_hasItems_17 (by decide) ?_ ?_
      · refine rw_iconst (c := 0) C dX4_hasItems_24 ci_0 ?_
        exact rw_zretP (Or.inl rfl) C dX4_hasItems_25
      · refine rw_iconst (c := 1) C dX4_hasItems_20 ci_1 ?_
        refine rw_goto (tgt := 25) C dX4_hasItems_21 (by decide) ?_
        exact rw_zretP (Or.inr rfl) C dX4_hasItems_25
def f_X4_store (a1 : Int32) (a2 : Int32) (a3 : Int32) (M : pv_M) : Option (Unit × pv_M) := pv_ldR pv_T 191 a1 (fun k1 => pv_ldI pv_T 189 a1 M (fun x1 => (if x1 = 0 then pv_stI pv_T k1 a2 a3.toInt8.toInt32 M (fun M3 => some ((), M3)) else pv_ldI pv_T 189 a1 M (fun x2 => (if x2 = 1 then pv_stI pv_T k1 a2 a3.toInt16.toInt32 M (fun M2 => some ((), M2)) else pv_stI pv_T k1 a2 a3 M (fun M1 => some ((), M1)))))))
set_option maxHeartbeats 4000000 in
set_option maxRecDepth 100000 in
theorem k_X4_store (l : Launch) (κ : pv_K) (a1 : Int32) (a2 : Int32) (a3 : Int32) (M : pv_M) : pv_Mt l yX4_store cX4_store 4 none 0 κ [.ref (κ.1 + 188), .int a1, .int a2, .int a3] M pv_ju (f_X4_store a1 a2 a3 M) := by
  refine pv_enter (by decide +kernel) (Nat.le_of_ble_eq_true rfl) (fun g hl hR C => ?_)
  have C : pv_Ok g κ 4 cX4_store RX4 none := C
  show pv_R g κ pv_T pv_RF 4 0 0 (pv_QF g κ pv_ju) 0 [(0, .ref (κ.1 + 188)), (1, .int a1), (2, .int a2), (3, .int a3)] [] M (f_X4_store a1 a2 a3 M)
  unfold f_X4_store
  refine rw_aload_n C dX4_store_0 rfl 0 rfl ?_
  refine rw_getR (k0 := 188) (k1 := 191) C dX4_store_1 fl_X4_20 rfl (by decide) sh_188 (by decide) rfl ?_
  refine rw_iload_n C dX4_store_4 rfl 1 rfl ?_
  refine rw_ldR C dX4_store_5 (fun k1 => ?_)
  refine rw_iload_n C dX4_store_6 rfl 2 rfl ?_
  refine rw_aload_n C dX4_store_7 rfl 0 rfl ?_
  refine rw_getR (k0 := 188) (k1 := 189) C dX4_store_8 fl_X4_11 rfl (by decide) sh_188 (by decide) rfl ?_
  refine rw_iload_n C dX4_store_11 rfl 1 rfl ?_
  refine rw_ldI C dX4_store_12 (fun x1 => ?_)
  refine rw_if_ne (tgt := 21) C dX4_store_13 (by decide) ?_ ?_
  · refine rw_aload_n C dX4_store_21 rfl 0 rfl ?_
    refine rw_getR (k0 := 188) (k1 := 189) C dX4_store_22 fl_X4_11 rfl (by decide) sh_188 (by decide) rfl ?_
    refine rw_iload_n C dX4_store_25 rfl 1 rfl ?_
    refine rw_ldI C dX4_store_26 (fun x2 => ?_)
    refine rw_iconst (c := 1) C dX4_store_27 ci_1 ?_
    refine rw_icmp_ne (tgt := 36) C dX4_store_28 (by decide) ?_ ?_
    · refine rw_iload_n C dX4_store_36 rfl 3 rfl ?_
      refine rw_stI C dX4_store_37 (fun M1 => ?_)
      exact rw_vret C dX4_store_38
    · refine rw_iload_n C dX4_store_31 rfl 3 rfl ?_
      refine rw_i2s C dX4_store_32 ?_
      refine rw_goto (tgt := 37) C dX4_store_33 (by decide) ?_
      refine rw_stI C dX4_store_37 (fun M2 => ?_)
      exact rw_vret C dX4_store_38
  · refine rw_iload_n C dX4_store_16 rfl 3 rfl ?_
    refine rw_i2b C dX4_store_17 ?_
    refine rw_goto (tgt := 37) C dX4_store_18 (by decide) ?_
    refine rw_stI C dX4_store_37 (fun M3 => ?_)
    exact rw_vret C dX4_store_38
def f_X5_isFull (o : Nat) (M : pv_M) : Option Int32 := pv_ck (pv_isT o) (pv_nm (M.1 o 2) (fun x1 => pv_len pv_T (o + 1) (fun x2 => (if x1 < x2 then some 0 else some 1))))
set_option maxHeartbeats 4000000 in
set_option maxRecDepth 100000 in
theorem k_X5_isFull (l : Launch) (κ : pv_K) (o : Nat) (M : pv_M) : pv_MtP l yX5_isFull cX5_isFull 1 (some .boolean) 0 κ [.ref (κ.1 + o)] M pv_ji (f_X5_isFull o M) := by
  refine pv_enterP (by decide +kernel) (Nat.le_of_ble_eq_true rfl) (fun g hl hR C => ?_)
  have C : pv_Ok g κ 1 cX5_isFull RX5 (some .boolean) := C
  show pv_R g κ pv_T pv_RF 1 0 0 (pv_QP g κ pv_ji M) 0 [(0, .ref (κ.1 + o))] [] M (f_X5_isFull o M)
  unfold f_X5_isFull
  refine rw_ck (fun hc0 => ?_)
  refine rw_aload_n C dX5_isFull_0 rfl 0 rfl ?_
  refine rw_getI (k0 := o) C dX5_isFull_1 fl_X5_19 rfl (pv_isT_lt hc0) (pv_isT_sh hc0) (by decide) (fun x1 => ?_)
  refine rw_aload_n C dX5_isFull_4 rfl 0 rfl ?_
  refine rw_getR (k0 := o) (k1 := (o + 1)) C dX5_isFull_5 fl_X5_15 rfl (pv_isT_lt hc0) (pv_isT_sh hc0) (by decide) (pv_isT_r1 hc0) ?_
  refine rw_len C dX5_isFull_8 (fun x2 => ?_)
  refine rw_icmp_lt (tgt := 16) C dX5_isFull_9 (by decide) ?_ ?_
  · refine rw_iconst (c := 0) C dX5_isFull_16 ci_0 ?_
    exact rw_zretP (Or.inl rfl) C dX5_isFull_17
  · refine rw_iconst (c := 1) C dX5_isFull_12 ci_1 ?_
    refine rw_goto (tgt := 17) C dX5_isFull_13 (by decide) ?_
    exact rw_zretP (Or.inr rfl) C dX5_isFull_17
def f_X5_append (o : Nat) (a1 : Int32) (M : pv_M) : Option (Unit × pv_M) := pv_ck (pv_isT o) (pv_cap (f_X5_isFull o M) (fun x1 => (if x1 = 0 then pv_nm (M.1 o 2) (fun x2 => pv_stI pv_T (o + 1) x2 a1 M (fun M1 => pv_nm (M1.1 o 2) (fun x3 => pv_nm (pv_u M1.1 o 2 (x3 + 1), M1.2) (fun M2 => some ((), M2))))) else some ((), M))))
set_option maxHeartbeats 4000000 in
set_option maxRecDepth 100000 in
theorem k_X5_append (l : Launch) (κ : pv_K) (o : Nat) (a1 : Int32) (M : pv_M) : pv_Mt l yX5_append cX5_append 2 none 1 κ [.ref (κ.1 + o), .int a1] M pv_ju (f_X5_append o a1 M) := by
  refine pv_enter (by decide +kernel) (Nat.le_of_ble_eq_true rfl) (fun g hl hR C => ?_)
  have C : pv_Ok g κ 2 cX5_append RX5 none := C
  show pv_R g κ pv_T pv_RF 2 0 0 (pv_QF g κ pv_ju) 0 [(0, .ref (κ.1 + o)), (1, .int a1)] [] M (f_X5_append o a1 M)
  unfold f_X5_append
  refine rw_ck (fun hc0 => ?_)
  refine rw_aload_n C dX5_append_0 rfl 0 rfl ?_
  refine rw_callVPi (As := []) (k0 := o) C hR dX5_append_1 cv_X5_22 (k_X5_isFull g.2.1 κ o M) (by decide) (by decide) (pv_isT_lt hc0) (pv_isT_sh hc0) rfl rfl (Nat.le_of_ble_eq_true rfl) rfl (fun x1 => ?_)
  refine rw_if_eq (tgt := 8) C dX5_append_4 (by decide) ?_ ?_
  · refine rw_aload_n C dX5_append_8 rfl 0 rfl ?_
    refine rw_getR (k0 := o) (k1 := (o + 1)) C dX5_append_9 fl_X5_15 rfl (pv_isT_lt hc0) (pv_isT_sh hc0) (by decide) (pv_isT_r1 hc0) ?_
    refine rw_aload_n C dX5_append_12 rfl 0 rfl ?_
    refine rw_getI (k0 := o) C dX5_append_13 fl_X5_19 rfl (pv_isT_lt hc0) (pv_isT_sh hc0) (by decide) (fun x2 => ?_)
    refine rw_iload_n C dX5_append_16 rfl 1 rfl ?_
    refine rw_stI C dX5_append_17 (fun M1 => ?_)
    refine rw_aload_n C dX5_append_18 rfl 0 rfl ?_
    refine rw_dup C dX5_append_19 rfl ?_
    refine rw_getI (k0 := o) C dX5_append_20 fl_X5_19 rfl (pv_isT_lt hc0) (pv_isT_sh hc0) (by decide) (fun x3 => ?_)
    refine rw_iconst (c := 1) C dX5_append_23 ci_1 ?_
    refine rw_iadd C dX5_append_24 ?_
    refine rw_put (k0 := o) C dX5_append_25 fl_X5_19 ff_X5_2 rfl rfl rfl (pv_isT_lt hc0) (pv_isT_sh hc0) (by decide) (fun M2 => ?_)
    exact rw_vret C dX5_append_28
  · exact rw_vret C dX5_append_7
def f_X6_isTown (a1 : Int32) (M : pv_M) : Option Int32 := pv_cap (f_X8_isWithin a1 0 3 M) (fun x1 => (if x1 = 0 ∨ x1 = 1 then some x1 else none))
set_option maxHeartbeats 4000000 in
set_option maxRecDepth 100000 in
theorem k_X6_isTown (l : Launch) (κ : pv_K) (a1 : Int32) (M : pv_M) : pv_MtP l yX6_isTown cX6_isTown 1 (some .boolean) 1 κ [.int a1] M pv_ji (f_X6_isTown a1 M) := by
  refine pv_enterP (by decide +kernel) (Nat.le_of_ble_eq_true rfl) (fun g hl hR C => ?_)
  have C : pv_Ok g κ 1 cX6_isTown RX6 (some .boolean) := C
  show pv_R g κ pv_T pv_RF 1 0 0 (pv_QP g κ pv_ji M) 0 [(0, .int a1)] [] M (f_X6_isTown a1 M)
  unfold f_X6_isTown
  refine rw_iload_n C dX6_isTown_0 rfl 0 rfl ?_
  refine rw_iconst (c := 0) C dX6_isTown_1 ci_0 ?_
  refine rw_iconst (c := 3) C dX6_isTown_2 ci_3 ?_
  refine rw_callNPi (As := [.int a1, .int 0, .int 3]) C hR dX6_isTown_3 cn_X6_37 (k_X8_isWithin g.2.1 κ a1 0 3 M) (by decide) (by decide) rfl (Nat.le_of_ble_eq_true rfl) rfl (fun x1 => ?_)
  exact rw_zret_ckP C dX6_isTown_6
def f_X6_replaceRate (a1 : Int32) (a2 : Int32) (a3 : Int32) (a4 : Int32) (M : pv_M) : Option (Int32 × pv_M) := pv_nm ((a1 * 4) + a2) (fun x1 => pv_ldI pv_T 186 x1 M (fun x2 => pv_ldI pv_T 187 x1 M (fun x3 => pv_nm ((10 * x2) + x3) (fun x4 => pv_stI pv_T 186 x1 a3 M (fun M1 => pv_stI pv_T 187 x1 a4 M1 (fun M2 => some (x4, M2)))))))
set_option maxHeartbeats 4000000 in
set_option maxRecDepth 100000 in
theorem k_X6_replaceRate (l : Launch) (κ : pv_K) (a1 : Int32) (a2 : Int32) (a3 : Int32) (a4 : Int32) (M : pv_M) : pv_Mt l yX6_replaceRate cX6_replaceRate 7 (some .int) 0 κ [.ref (κ.1 + 183), .int a1, .int a2, .int a3, .int a4] M pv_ji (f_X6_replaceRate a1 a2 a3 a4 M) := by
  refine pv_enter (by decide +kernel) (Nat.le_of_ble_eq_true rfl) (fun g hl hR C => ?_)
  have C : pv_Ok g κ 7 cX6_replaceRate RX6 (some .int) := C
  show pv_R g κ pv_T pv_RF 7 0 0 (pv_QF g κ pv_ji) 0 [(0, .ref (κ.1 + 183)), (1, .int a1), (2, .int a2), (3, .int a3), (4, .int a4)] [] M (f_X6_replaceRate a1 a2 a3 a4 M)
  unfold f_X6_replaceRate
  refine rw_iload_n C dX6_replaceRate_0 rfl 1 rfl ?_
  refine rw_iconst (c := 4) C dX6_replaceRate_1 ci_4 ?_
  refine rw_imul C dX6_replaceRate_2 ?_
  refine rw_iload_n C dX6_replaceRate_3 rfl 2 rfl ?_
  refine rw_iadd C dX6_replaceRate_4 ?_
  refine rw_nm (fun x1 => ?_)
  refine rw_istore (lv' := [(5, .int x1), (0, .ref (κ.1 + 183)), (1, .int a1), (2, .int a2), (3, .int a3), (4, .int a4)]) C dX6_replaceRate_5 (by decide) rfl ?_
  refine rw_bipush (c := 10) C dX6_replaceRate_7 (by decide) ?_
  refine rw_aload_n C dX6_replaceRate_9 rfl 1 rfl ?_
  refine rw_getR (k0 := 183) (k1 := 186) C dX6_replaceRate_10 fl_X6_25 rfl (by decide) sh_183 (by decide) rfl ?_
  refine rw_iload C dX6_replaceRate_13 0 rfl ?_
  refine rw_ldI C dX6_replaceRate_15 (fun x2 => ?_)
  refine rw_imul C dX6_replaceRate_16 ?_
  refine rw_aload_n C dX6_replaceRate_17 rfl 1 rfl ?_
  refine rw_getR (k0 := 183) (k1 := 187) C dX6_replaceRate_18 fl_X6_28 rfl (by decide) sh_183 (by decide) rfl ?_
  refine rw_iload C dX6_replaceRate_21 0 rfl ?_
  refine rw_ldI C dX6_replaceRate_23 (fun x3 => ?_)
  refine rw_iadd C dX6_replaceRate_24 ?_
  refine rw_nm (fun x4 => ?_)
  refine rw_istore (lv' := [(6, .int x4), (5, .int x1), (0, .ref (κ.1 + 183)), (1, .int a1), (2, .int a2), (3, .int a3), (4, .int a4)]) C dX6_replaceRate_25 (by decide) rfl ?_
  refine rw_aload_n C dX6_replaceRate_27 rfl 2 rfl ?_
  refine rw_getR (k0 := 183) (k1 := 186) C dX6_replaceRate_28 fl_X6_25 rfl (by decide) sh_183 (by decide) rfl ?_
  refine rw_iload C dX6_replaceRate_31 1 rfl ?_
  refine rw_iload_n C dX6_replaceRate_33 rfl 5 rfl ?_
  refine rw_stI C dX6_replaceRate_34 (fun M1 => ?_)
  refine rw_aload_n C dX6_replaceRate_35 rfl 2 rfl ?_
  refine rw_getR (k0 := 183) (k1 := 187) C dX6_replaceRate_36 fl_X6_28 rfl (by decide) sh_183 (by decide) rfl ?_
  refine rw_iload C dX6_replaceRate_39 1 rfl ?_
  refine rw_iload C dX6_replaceRate_41 6 rfl ?_
  refine rw_stI C dX6_replaceRate_43 (fun M2 => ?_)
  refine rw_iload C dX6_replaceRate_44 0 rfl ?_
  exact rw_iret C dX6_replaceRate_46
def f_X6_bestTown (a1 : Int32) (M : pv_M) : Option Int32 := pv_nm (M.1 183 2) (fun x1 => (if x1 ≤ a1 then some ((-1)) else pv_ldI pv_T 184 a1 M (fun x2 => some x2)))
set_option maxHeartbeats 4000000 in
set_option maxRecDepth 100000 in
theorem k_X6_bestTown (l : Launch) (κ : pv_K) (a1 : Int32) (M : pv_M) : pv_MtP l yX6_bestTown cX6_bestTown 2 (some .int) 0 κ [.ref (κ.1 + 183), .int a1] M pv_ji (f_X6_bestTown a1 M) := by
  refine pv_enterP (by decide +kernel) (Nat.le_of_ble_eq_true rfl) (fun g hl hR C => ?_)
  have C : pv_Ok g κ 2 cX6_bestTown RX6 (some .int) := C
  show pv_R g κ pv_T pv_RF 2 0 0 (pv_QP g κ pv_ji M) 0 [(0, .ref (κ.1 + 183)), (1, .int a1)] [] M (f_X6_bestTown a1 M)
  unfold f_X6_bestTown
  refine rw_iload_n C dX6_bestTown_0 rfl 1 rfl ?_
  refine rw_aload_n C dX6_bestTown_1 rfl 0 rfl ?_
  refine rw_getI (k0 := 183) C dX6_bestTown_2 fl_X6_41 rfl (by decide) sh_183 (by decide) (fun x1 => ?_)
  refine rw_icmp_ge (tgt := 17) C dX6_bestTown_5 (by decide) ?_ ?_
  · refine rw_iconst (c := (-1)) C dX6_bestTown_17 ci_m1 ?_
    exact rw_iretP C dX6_bestTown_18
  · refine rw_aload_n C dX6_bestTown_8 rfl 0 rfl ?_
    refine rw_getR (k0 := 183) (k1 := 184) C dX6_bestTown_9 fl_X6_18 rfl (by decide) sh_183 (by decide) rfl ?_
    refine rw_iload_n C dX6_bestTown_12 rfl 1 rfl ?_
    refine rw_ldI C dX6_bestTown_13 (fun x2 => ?_)
    refine rw_goto (tgt := 18) C dX6_bestTown_14 (by decide) ?_
    exact rw_iretP C dX6_bestTown_18
def f_X6_comeBack (a1 : Int32) (a2 : Int32) (a3 : Int32) (M : pv_M) : Option (Unit × pv_M) := pv_nm (M.1 183 1) (fun x1 => pv_nm (M.1 183 0) (fun x2 => (if (x2 * a3) < (a2 * x1) then pv_nm (pv_u M.1 183 0 a2, M.2) (fun M1 => pv_nm (pv_u M1.1 183 1 a3, M1.2) (fun M2 => pv_nm (pv_u M2.1 183 2 a1, M2.2) (fun M3 => pv_ck (pv_cpyb pv_T 185 0 184 0 a1) (pv_nm (pv_cpy M3 185 0 184 0 a1) (fun M4 => some ((), M4)))))) else some ((), M))))
set_option maxHeartbeats 4000000 in
set_option maxRecDepth 100000 in
theorem k_X6_comeBack (l : Launch) (κ : pv_K) (a1 : Int32) (a2 : Int32) (a3 : Int32) (M : pv_M) : pv_Mt l yX6_comeBack cX6_comeBack 4 none 1 κ [.ref (κ.1 + 183), .int a1, .int a2, .int a3] M pv_ju (f_X6_comeBack a1 a2 a3 M) := by
  refine pv_enter (by decide +kernel) (Nat.le_of_ble_eq_true rfl) (fun g hl hR C => ?_)
  have C : pv_Ok g κ 4 cX6_comeBack RX6 none := C
  show pv_R g κ pv_T pv_RF 4 0 0 (pv_QF g κ pv_ju) 0 [(0, .ref (κ.1 + 183)), (1, .int a1), (2, .int a2), (3, .int a3)] [] M (f_X6_comeBack a1 a2 a3 M)
  unfold f_X6_comeBack
  refine rw_iload_n C dX6_comeBack_0 rfl 2 rfl ?_
  refine rw_aload_n C dX6_comeBack_1 rfl 0 rfl ?_
  refine rw_getI (k0 := 183) C dX6_comeBack_2 fl_X6_15 rfl (by decide) sh_183 (by decide) (fun x1 => ?_)
  refine rw_imul C dX6_comeBack_5 ?_
  refine rw_aload_n C dX6_comeBack_6 rfl 0 rfl ?_
  refine rw_getI (k0 := 183) C dX6_comeBack_7 fl_X6_9 rfl (by decide) sh_183 (by decide) (fun x2 => ?_)
  refine rw_iload_n C dX6_comeBack_10 rfl 3 rfl ?_
  refine rw_imul C dX6_comeBack_11 ?_
  refine rw_icmp_gt (tgt := 16) C dX6_comeBack_12 (by decide) ?_ ?_
  · refine rw_aload_n C dX6_comeBack_16 rfl 0 rfl ?_
    refine rw_iload_n C dX6_comeBack_17 rfl 2 rfl ?_
    refine rw_put (k0 := 183) C dX6_comeBack_18 fl_X6_9 ff_X6_0 rfl rfl rfl (by decide) sh_183 (by decide) (fun M1 => ?_)
    refine rw_aload_n C dX6_comeBack_21 rfl 0 rfl ?_
    refine rw_iload_n C dX6_comeBack_22 rfl 3 rfl ?_
    refine rw_put (k0 := 183) C dX6_comeBack_23 fl_X6_15 ff_X6_1 rfl rfl rfl (by decide) sh_183 (by decide) (fun M2 => ?_)
    refine rw_aload_n C dX6_comeBack_26 rfl 0 rfl ?_
    refine rw_iload_n C dX6_comeBack_27 rfl 1 rfl ?_
    refine rw_put (k0 := 183) C dX6_comeBack_28 fl_X6_41 ff_X6_2 rfl rfl rfl (by decide) sh_183 (by decide) (fun M3 => ?_)
    refine rw_aload_n C dX6_comeBack_31 rfl 0 rfl ?_
    refine rw_getR (k0 := 183) (k1 := 185) C dX6_comeBack_32 fl_X6_22 rfl (by decide) sh_183 (by decide) rfl ?_
    refine rw_iconst (c := 0) C dX6_comeBack_35 ci_0 ?_
    refine rw_aload_n C dX6_comeBack_36 rfl 0 rfl ?_
    refine rw_getR (k0 := 183) (k1 := 184) C dX6_comeBack_37 fl_X6_18 rfl (by decide) sh_183 (by decide) rfl ?_
    refine rw_iconst (c := 0) C dX6_comeBack_40 ci_0 ?_
    refine rw_iload_n C dX6_comeBack_41 rfl 1 rfl ?_
    refine rw_copy C hR dX6_comeBack_42 ⟨mw_925, mw_336, mw_337, mw_338⟩ (by decide) (Nat.le_of_ble_eq_true rfl) (fun M4 => ?_)
    exact rw_vret C dX6_comeBack_45
  · exact rw_vret C dX6_comeBack_15
def f_X6_isOnWay_L2 (a2 : Int32) (M : pv_M) (a1 : Int32) (rec1 : Int32 → Option Int32) (x1 : Int32) : Option Int32 := (if a2 ≤ x1 then some 0 else pv_ldI pv_T 185 x1 M (fun x2 => (if x2 = a1 then some 1 else rec1 (x1 + 1))))
def f_X6_isOnWay (a1 : Int32) (a2 : Int32) (M : pv_M) : Option Int32 := pv_lp1 (f_X6_isOnWay_L2 a2 M a1) pv_FU 0
set_option maxHeartbeats 4000000 in
set_option maxRecDepth 100000 in
theorem k_X6_isOnWay (l : Launch) (κ : pv_K) (a1 : Int32) (a2 : Int32) (M : pv_M) : pv_MtP l yX6_isOnWay cX6_isOnWay 4 (some .boolean) 0 κ [.ref (κ.1 + 183), .int a1, .int a2] M pv_ji (f_X6_isOnWay a1 a2 M) := by
  refine pv_enterP (by decide +kernel) (Nat.le_of_ble_eq_true rfl) (fun g hl hR C => ?_)
  have C : pv_Ok g κ 4 cX6_isOnWay RX6 (some .boolean) := C
  show pv_R g κ pv_T pv_RF 4 0 0 (pv_QP g κ pv_ji M) 0 [(0, .ref (κ.1 + 183)), (1, .int a1), (2, .int a2)] [] M (f_X6_isOnWay a1 a2 M)
  unfold f_X6_isOnWay
  refine rw_iconst (c := 0) C dX6_isOnWay_0 ci_0 ?_
  refine rw_istore_n (lv' := [(3, .int 0), (0, .ref (κ.1 + 183)), (1, .int a1), (2, .int a2)]) C dX6_isOnWay_1 rfl (by decide) rfl ?_
  refine rw_lv (lv' := [(0, .ref (κ.1 + 183)), (1, .int a1), (2, .int a2), (3, .int 0)]) [1, 2, 3, 0] rfl ?_
  refine pv_lp1_ind (fun x1 xx => pv_R g κ pv_T pv_RF 4 0 0 (pv_QP g κ pv_ji M) 2 [(0, .ref (κ.1 + 183)), (1, .int a1), (2, .int a2), (3, .int x1)] [] M xx) (fun _ => rw_none) (fun rec1 hrec1 x1 => ?_) _ _
  unfold f_X6_isOnWay_L2
  refine rw_iload_n C dX6_isOnWay_2 rfl 3 rfl ?_
  refine rw_iload_n C dX6_isOnWay_3 rfl 2 rfl ?_
  refine rw_icmp_ge (tgt := 25) C dX6_isOnWay_4 (by decide) ?_ ?_
  · refine rw_iconst (c := 0) C dX6_isOnWay_25 ci_0 ?_
    exact rw_zretP (Or.inl rfl) C dX6_isOnWay_26
  · refine rw_aload_n C dX6_isOnWay_7 rfl 0 rfl ?_
    refine rw_getR (k0 := 183) (k1 := 185) C dX6_isOnWay_8 fl_X6_22 rfl (by decide) sh_183 (by decide) rfl ?_
    refine rw_iload_n C dX6_isOnWay_11 rfl 3 rfl ?_
    refine rw_ldI C dX6_isOnWay_12 (fun x2 => ?_)
    refine rw_iload_n C dX6_isOnWay_13 rfl 1 rfl ?_
    refine rw_icmp_ne (tgt := 19) C dX6_isOnWay_14 (by decide) ?_ ?_
    · refine rw_iinc (c := 1) (lv' := [(3, .int (x1 + 1)), (0, .ref (κ.1 + 183)), (1, .int a1), (2, .int a2)]) C dX6_isOnWay_19 3 rfl (by decide) (by decide) rfl ?_
      refine rw_goto (tgt := 2) C dX6_isOnWay_22 (by decide) ?_
      exact rw_lv [1, 2, 3, 0] rfl (hrec1 (x1 + 1))
    · refine rw_iconst (c := 1) C dX6_isOnWay_17 ci_1 ?_
      exact rw_zretP (Or.inr rfl) C dX6_isOnWay_18
def f_X6_goOn_L66 (a1 : Int32) (x2 : Int32) (fr : Int32 → Int32 → Int32 → Int32 → pv_M → Option (Unit × pv_M)) (a2 : Int32) (a3 : Int32) (a4 : Int32) (rec1 : Int32 → pv_M → Option (Unit × pv_M)) (x5 : Int32) (M1 : pv_M) : Option (Unit × pv_M) := (if 4 ≤ x5 then some ((), M1) else pv_cap (f_X6_isOnWay x5 a1 M1) (fun x6 => (if x6 = 0 then pv_stI pv_T 185 a1 x5 M1 (fun M2 => pv_ldI pv_T 186 (x2 + x5) M2 (fun x7 => pv_ldI pv_T 187 (x2 + x5) M2 (fun x8 => pv_cal (fr (a1 + 1) a2 (a3 * x7) (a4 * x8) M2) (fun u1 M3 => rec1 (x5 + 1) M3)))) else rec1 (x5 + 1) M1)))
def f_X6_goOn_B (fr : Int32 → Int32 → Int32 → Int32 → pv_M → Option (Unit × pv_M)) (a1 : Int32) (a2 : Int32) (a3 : Int32) (a4 : Int32) (M : pv_M) : Option (Unit × pv_M) := pv_ldI pv_T 185 (a1 - 1) M (fun x1 => pv_nm (x1 * 4) (fun x2 => (if a1 < a2 then pv_ldI pv_T 185 0 M (fun x3 => pv_nm (x3 + 1) (fun x4 => pv_lp2 (f_X6_goOn_L66 a1 x2 fr a2 a3 a4) pv_FU x4 M)) else pv_ldI pv_T 185 0 M (fun x9 => pv_ldI pv_T 186 (x2 + x9) M (fun x10 => pv_ldI pv_T 185 0 M (fun x11 => pv_ldI pv_T 187 (x2 + x11) M (fun x12 => pv_cal (f_X6_comeBack a2 (a3 * x10) (a4 * x12) M) (fun u2 M4 => some ((), M4)))))))))
def f_X6_goOn : Nat → Int32 → Int32 → Int32 → Int32 → pv_M → Option (Unit × pv_M)
  | 0 => fun _ _ _ _ _ => none
  | D + 1 => f_X6_goOn_B (f_X6_goOn D)
set_option maxHeartbeats 4000000 in
set_option maxRecDepth 100000 in
theorem k_X6_goOn (l : Launch) (κ : pv_K) : ∀ (D : Nat) (a1 : Int32) (a2 : Int32) (a3 : Int32) (a4 : Int32) (M : pv_M), pv_Mt l yX6_goOn cX6_goOn 7 none (D + 2) κ [.ref (κ.1 + 183), .int a1, .int a2, .int a3, .int a4] M pv_ju (f_X6_goOn D a1 a2 a3 a4 M)
  | 0, _, _, _, _, _ => fun v hv => by cases hv
  | D + 1, a1, a2, a3, a4, M => by
    have ih := k_X6_goOn l κ D
    refine pv_enter (by decide +kernel) (Nat.le_of_ble_eq_true rfl) (fun g hl hR C => ?_)
    have C : pv_Ok g κ 7 cX6_goOn RX6 none := C
    rw [← hl] at ih
    show pv_R g κ pv_T pv_RF 7 0 0 (pv_QF g κ pv_ju) 0 [(0, .ref (κ.1 + 183)), (1, .int a1), (2, .int a2), (3, .int a3), (4, .int a4)] [] M (f_X6_goOn_B (f_X6_goOn D) a1 a2 a3 a4 M)
    generalize f_X6_goOn D = fr at ih ⊢
    unfold f_X6_goOn_B
    refine rw_aload_n C dX6_goOn_0 rfl 0 rfl ?_
    refine rw_getR (k0 := 183) (k1 := 185) C dX6_goOn_1 fl_X6_22 rfl (by decide) sh_183 (by decide) rfl ?_
    refine rw_iload_n C dX6_goOn_4 rfl 1 rfl ?_
    refine rw_iconst (c := 1) C dX6_goOn_5 ci_1 ?_
    refine rw_isub C dX6_goOn_6 ?_
    refine rw_ldI C dX6_goOn_7 (fun x1 => ?_)
    refine rw_iconst (c := 4) C dX6_goOn_8 ci_4 ?_
    refine rw_imul C dX6_goOn_9 ?_
    refine rw_nm (fun x2 => ?_)
    refine rw_istore (lv' := [(5, .int x2), (0, .ref (κ.1 + 183)), (1, .int a1), (2, .int a2), (3, .int a3), (4, .int a4)]) C dX6_goOn_10 (by decide) rfl ?_
    refine rw_iload_n C dX6_goOn_12 rfl 2 rfl ?_
    refine rw_iload_n C dX6_goOn_13 rfl 3 rfl ?_
    refine rw_icmp_lt (tgt := 56) C dX6_goOn_14 (by decide) ?_ ?_
    · refine rw_aload_n C dX6_goOn_56 rfl 1 rfl ?_
      refine rw_getR (k0 := 183) (k1 := 185) C dX6_goOn_57 fl_X6_22 rfl (by decide) sh_183 (by decide) rfl ?_
      refine rw_iconst (c := 0) C dX6_goOn_60 ci_0 ?_
      refine rw_ldI C dX6_goOn_61 (fun x3 => ?_)
      refine rw_iconst (c := 1) C dX6_goOn_62 ci_1 ?_
      refine rw_iadd C dX6_goOn_63 ?_
      refine rw_nm (fun x4 => ?_)
      refine rw_istore (lv' := [(6, .int x4), (5, .int x2), (0, .ref (κ.1 + 183)), (1, .int a1), (2, .int a2), (3, .int a3), (4, .int a4)]) C dX6_goOn_64 (by decide) rfl ?_
      refine rw_lv (lv' := [(0, .ref (κ.1 + 183)), (1, .int a1), (2, .int a2), (3, .int a3), (4, .int a4), (5, .int x2), (6, .int x4)]) [2, 3, 4, 5, 6, 1, 0] rfl ?_
      refine pv_lp2_ind (fun x5 M1 xx => pv_R g κ pv_T pv_RF 7 0 0 (pv_QF g κ pv_ju) 66 [(0, .ref (κ.1 + 183)), (1, .int a1), (2, .int a2), (3, .int a3), (4, .int a4), (5, .int x2), (6, .int x5)] [] M1 xx) (fun _ _ => rw_none) (fun rec1 hrec1 x5 M1 => ?_) _ _ _
      unfold f_X6_goOn_L66
      refine rw_iload C dX6_goOn_66 6 rfl ?_
      refine rw_iconst (c := 4) C dX6_goOn_68 ci_4 ?_
      refine rw_icmp_ge (tgt := 132) C dX6_goOn_69 (by decide) ?_ ?_
      · exact rw_vret C dX6_goOn_132
      · refine rw_aload_n C dX6_goOn_72 rfl 0 rfl ?_
        refine rw_iload C dX6_goOn_73 6 rfl ?_
        refine rw_iload_n C dX6_goOn_75 rfl 1 rfl ?_
        refine rw_callVPi (As := [.int x5, .int a1]) (k0 := 183) C hR dX6_goOn_76 cv_X6_56 (k_X6_isOnWay g.2.1 κ x5 a1 M1) (by omega) (by decide) (by decide) sh_183 rfl rfl (Nat.le_of_ble_eq_true rfl) rfl (fun x6 => ?_)
        refine rw_if_eq (tgt := 85) C dX6_goOn_79 (by decide) ?_ ?_
        · refine rw_aload_n C dX6_goOn_85 rfl 0 rfl ?_
          refine rw_getR (k0 := 183) (k1 := 185) C dX6_goOn_86 fl_X6_22 rfl (by decide) sh_183 (by decide) rfl ?_
          refine rw_iload_n C dX6_goOn_89 rfl 1 rfl ?_
          refine rw_iload C dX6_goOn_90 6 rfl ?_
          refine rw_stI C dX6_goOn_92 (fun M2 => ?_)
          refine rw_aload_n C dX6_goOn_93 rfl 0 rfl ?_
          refine rw_iload_n C dX6_goOn_94 rfl 1 rfl ?_
          refine rw_iconst (c := 1) C dX6_goOn_95 ci_1 ?_
          refine rw_iadd C dX6_goOn_96 ?_
          refine rw_iload_n C dX6_goOn_97 rfl 2 rfl ?_
          refine rw_iload_n C dX6_goOn_98 rfl 3 rfl ?_
          refine rw_aload_n C dX6_goOn_99 rfl 0 rfl ?_
          refine rw_getR (k0 := 183) (k1 := 186) C dX6_goOn_100 fl_X6_25 rfl (by decide) sh_183 (by decide) rfl ?_
          refine rw_iload C dX6_goOn_103 5 rfl ?_
          refine rw_iload C dX6_goOn_105 6 rfl ?_
          refine rw_iadd C dX6_goOn_107 ?_
          refine rw_ldI C dX6_goOn_108 (fun x7 => ?_)
          refine rw_imul C dX6_goOn_109 ?_
          refine rw_iload C dX6_goOn_110 4 rfl ?_
          refine rw_aload_n C dX6_goOn_112 rfl 0 rfl ?_
          refine rw_getR (k0 := 183) (k1 := 187) C dX6_goOn_113 fl_X6_28 rfl (by decide) sh_183 (by decide) rfl ?_
          refine rw_iload C dX6_goOn_116 5 rfl ?_
          refine rw_iload C dX6_goOn_118 6 rfl ?_
          refine rw_iadd C dX6_goOn_120 ?_
          refine rw_ldI C dX6_goOn_121 (fun x8 => ?_)
          refine rw_imul C dX6_goOn_122 ?_
          refine rw_callVu (As := [.int (a1 + 1), .int a2, .int (a3 * x7), .int (a4 * x8)]) (k0 := 183) C hR dX6_goOn_123 cv_X6_44 (ih (a1 + 1) a2 (a3 * x7) (a4 * x8) M2) (by omega) (by decide) (by decide) sh_183 rfl rfl (Nat.le_of_ble_eq_true rfl) rfl (fun u1 M3 => ?_)
          refine rw_iinc (c := 1) (lv' := [(6, .int (x5 + 1)), (0, .ref (κ.1 + 183)), (1, .int a1), (2, .int a2), (3, .int a3), (4, .int a4), (5, .int x2)]) C dX6_goOn_126 6 rfl (by decide) (by decide) rfl ?_
          refine rw_goto (tgt := 66) C dX6_goOn_129 (by decide) ?_
          exact rw_lv [1, 2, 3, 4, 5, 6, 0] rfl (hrec1 (x5 + 1) M3)
        · refine rw_goto (tgt := 126) C dX6_goOn_82 (by decide) ?_
          refine rw_iinc (c := 1) (lv' := [(6, .int (x5 + 1)), (0, .ref (κ.1 + 183)), (1, .int a1), (2, .int a2), (3, .int a3), (4, .int a4), (5, .int x2)]) C dX6_goOn_126 6 rfl (by decide) (by decide) rfl ?_
          refine rw_goto (tgt := 66) C dX6_goOn_129 (by decide) ?_
          exact rw_lv [1, 2, 3, 4, 5, 6, 0] rfl (hrec1 (x5 + 1) M1)
    · refine rw_aload_n C dX6_goOn_17 rfl 1 rfl ?_
      refine rw_iload_n C dX6_goOn_18 rfl 3 rfl ?_
      refine rw_iload_n C dX6_goOn_19 rfl 4 rfl ?_
      refine rw_aload_n C dX6_goOn_20 rfl 1 rfl ?_
      refine rw_getR (k0 := 183) (k1 := 186) C dX6_goOn_21 fl_X6_25 rfl (by decide) sh_183 (by decide) rfl ?_
      refine rw_iload C dX6_goOn_24 0 rfl ?_
      refine rw_aload_n C dX6_goOn_26 rfl 1 rfl ?_
      refine rw_getR (k0 := 183) (k1 := 185) C dX6_goOn_27 fl_X6_22 rfl (by decide) sh_183 (by decide) rfl ?_
      refine rw_iconst (c := 0) C dX6_goOn_30 ci_0 ?_
      refine rw_ldI C dX6_goOn_31 (fun x9 => ?_)
      refine rw_iadd C dX6_goOn_32 ?_
      refine rw_ldI C dX6_goOn_33 (fun x10 => ?_)
      refine rw_imul C dX6_goOn_34 ?_
      refine rw_iload C dX6_goOn_35 5 rfl ?_
      refine rw_aload_n C dX6_goOn_37 rfl 1 rfl ?_
      refine rw_getR (k0 := 183) (k1 := 187) C dX6_goOn_38 fl_X6_28 rfl (by decide) sh_183 (by decide) rfl ?_
      refine rw_iload C dX6_goOn_41 0 rfl ?_
      refine rw_aload_n C dX6_goOn_43 rfl 1 rfl ?_
      refine rw_getR (k0 := 183) (k1 := 185) C dX6_goOn_44 fl_X6_22 rfl (by decide) sh_183 (by decide) rfl ?_
      refine rw_iconst (c := 0) C dX6_goOn_47 ci_0 ?_
      refine rw_ldI C dX6_goOn_48 (fun x11 => ?_)
      refine rw_iadd C dX6_goOn_49 ?_
      refine rw_ldI C dX6_goOn_50 (fun x12 => ?_)
      refine rw_imul C dX6_goOn_51 ?_
      refine rw_callVu (As := [.int a2, .int (a3 * x10), .int (a4 * x12)]) (k0 := 183) C hR dX6_goOn_52 cv_X6_52 (k_X6_comeBack g.2.1 κ a2 (a3 * x10) (a4 * x12) M) (by omega) (by decide) (by decide) sh_183 rfl rfl (Nat.le_of_ble_eq_true rfl) rfl (fun u2 M4 => ?_)
      exact rw_vret C dX6_goOn_55
def f_X8_commonDivisor_L9 (j1 : Int64 → Option Int64) (rec1 : Int64 → Int64 → Int32 → Option Int64) (x2 : Int64) (x3 : Int64) (x4 : Int32) : Option Int64 := (if 200 ≤ x4 then j1 x2 else (if (lg_cmp x3 0) = 0 then j1 x2 else pv_ck (decide (¬ x3 = 0)) (pv_nm (x2 - x2 / x3 * x3) (fun x5 => rec1 x3 x5 (x4 + 1)))))
def f_X8_commonDivisor (a1 : Int64) (a2 : Int64) (M : pv_M) : Option Int64 := pv_jn (fun (x1 : Int64) => (if 0 ≤ (lg_cmp x1 1) then some x1 else some 1)) (fun j1 => pv_lp3 (f_X8_commonDivisor_L9 j1) pv_FU a1 a2 0)
set_option maxHeartbeats 4000000 in
set_option maxRecDepth 100000 in
theorem k_X8_commonDivisor (l : Launch) (κ : pv_K) (a1 : Int64) (a2 : Int64) (M : pv_M) : pv_MtP l yX8_commonDivisor cX8_commonDivisor 11 (some .long) 0 κ [.long a1, .long a2] M pv_jl (f_X8_commonDivisor a1 a2 M) := by
  refine pv_enterP (by decide +kernel) (Nat.le_of_ble_eq_true rfl) (fun g hl hR C => ?_)
  have C : pv_Ok g κ 11 cX8_commonDivisor RX8 (some .long) := C
  show pv_R g κ pv_T pv_RF 11 0 0 (pv_QP g κ pv_jl M) 0 [(0, .long a1), (2, .long a2)] [] M (f_X8_commonDivisor a1 a2 M)
  unfold f_X8_commonDivisor
  refine rw_lload_n C dX8_commonDivisor_0 rfl 0 rfl ?_
  refine rw_lstore (lv' := [(4, .long a1), (0, .long a1), (2, .long a2)]) C dX8_commonDivisor_1 (by decide) rfl ?_
  refine rw_lload_n C dX8_commonDivisor_3 rfl 2 rfl ?_
  refine rw_lstore (lv' := [(6, .long a2), (4, .long a1), (0, .long a1), (2, .long a2)]) C dX8_commonDivisor_4 (by decide) rfl ?_
  refine rw_iconst (c := 0) C dX8_commonDivisor_6 ci_0 ?_
  refine rw_istore (lv' := [(8, .int 0), (6, .long a2), (4, .long a1), (0, .long a1), (2, .long a2)]) C dX8_commonDivisor_7 (by decide) rfl ?_
  refine rw_jn (fun j1 => ∀ (x1 : Int64), pv_R g κ pv_T pv_RF 11 0 0 (pv_QP g κ pv_jl M) 45 [(4, .long x1)] [] M (j1 x1)) (fun x1 => ?_) (fun j1 hj1 => ?_)
  · refine rw_lload C dX8_commonDivisor_45 0 rfl ?_
    refine rw_lconst (c := 1) C dX8_commonDivisor_47 (by decide) ?_
    refine rw_lcmp C dX8_commonDivisor_48 ?_
    refine rw_if_ge (tgt := 56) C dX8_commonDivisor_49 (by decide) ?_ ?_
    · refine rw_lload C dX8_commonDivisor_56 0 rfl ?_
      exact rw_lretP C dX8_commonDivisor_58
    · refine rw_lconst (c := 1) C dX8_commonDivisor_52 (by decide) ?_
      refine rw_goto (tgt := 58) C dX8_commonDivisor_53 (by decide) ?_
      exact rw_lretP C dX8_commonDivisor_58
  · refine rw_lv (lv' := [(4, .long a1), (6, .long a2), (8, .int 0)]) [2, 1, 0] rfl ?_
    refine pv_lp3_ind (fun x2 x3 x4 xx => pv_R g κ pv_T pv_RF 11 0 0 (pv_QP g κ pv_jl M) 9 [(4, .long x2), (6, .long x3), (8, .int x4)] [] M xx) (fun _ _ _ => rw_none) (fun rec1 hrec1 x2 x3 x4 => ?_) _ _ _ _
    unfold f_X8_commonDivisor_L9
    refine rw_iload C dX8_commonDivisor_9 2 rfl ?_
    refine rw_sipush (c := 200) C dX8_commonDivisor_11 (by decide) ?_
    refine rw_icmp_ge (tgt := 45) C dX8_commonDivisor_14 (by decide) ?_ ?_
    · exact rw_lv [0] rfl (hj1 x2)
    · refine rw_lload C dX8_commonDivisor_17 1 rfl ?_
      refine rw_lconst (c := 0) C dX8_commonDivisor_19 (by decide) ?_
      refine rw_lcmp C dX8_commonDivisor_20 ?_
      refine rw_if_eq (tgt := 45) C dX8_commonDivisor_21 (by decide) ?_ ?_
      · exact rw_lv [0] rfl (hj1 x2)
      · refine rw_lload C dX8_commonDivisor_24 0 rfl ?_
        refine rw_lload C dX8_commonDivisor_26 1 rfl ?_
        refine rw_ck (fun hb1 => ?_)
        refine rw_lrem C dX8_commonDivisor_28 (of_decide_eq_true hb1) ?_
        refine rw_nmL (fun x5 => ?_)
        refine rw_lstore (lv' := [(9, .long x5), (4, .long x2), (6, .long x3), (8, .int x4)]) C dX8_commonDivisor_29 (by decide) rfl ?_
        refine rw_lload C dX8_commonDivisor_31 2 rfl ?_
        refine rw_lstore (lv' := [(4, .long x3), (9, .long x5), (6, .long x3), (8, .int x4)]) C dX8_commonDivisor_33 (by decide) rfl ?_
        refine rw_lload C dX8_commonDivisor_35 1 rfl ?_
        refine rw_lstore (lv' := [(6, .long x5), (4, .long x3), (9, .long x5), (8, .int x4)]) C dX8_commonDivisor_37 (by decide) rfl ?_
        refine rw_iinc (c := 1) (lv' := [(8, .int (x4 + 1)), (6, .long x5), (4, .long x3), (9, .long x5)]) C dX8_commonDivisor_39 3 rfl (by decide) (by decide) rfl ?_
        refine rw_goto (tgt := 9) C dX8_commonDivisor_42 (by decide) ?_
        exact rw_lv [2, 1, 0] rfl (hrec1 x3 x5 (x4 + 1))
def f_X6_findRound_L24 (rec1 : Int32 → pv_M → Option (Unit × pv_M)) (x7 : Int32) (rec2 : Int32 → pv_M → Option (Unit × pv_M)) (x8 : Int32) (M8 : pv_M) : Option (Unit × pv_M) := (if 4 ≤ x8 then rec1 (x7 + 1) M8 else pv_stI pv_T 185 0 x8 M8 (fun M9 => pv_cal (f_X6_goOn 10 1 x7 1 1 M9) (fun u1 M10 => rec2 (x8 + 1) M10)))
def f_X6_findRound_L17 (j1 : pv_M → Option (Unit × pv_M)) (rec1 : Int32 → pv_M → Option (Unit × pv_M)) (x7 : Int32) (M7 : pv_M) : Option (Unit × pv_M) := (if 4 < x7 then j1 M7 else pv_lp2 (f_X6_findRound_L24 rec1 x7) pv_FU 0 M7)
def f_X6_findRound_J56 (M4 : pv_M) : Option (Unit × pv_M) := pv_nm (M4.1 183 0) (fun x1 => pv_nm (M4.1 183 1) (fun x2 => pv_cap (f_X8_commonDivisor x1.toInt64 x2.toInt64 M4) (fun x3 => pv_nm x3.toInt32 (fun x4 => pv_nm (M4.1 183 0) (fun x5 => pv_ck (decide (¬ x4 = 0)) (pv_nm (pv_u M4.1 183 0 (x5 / x4), M4.2) (fun M5 => pv_nm (M5.1 183 1) (fun x6 => pv_ck (decide (¬ x4 = 0)) (pv_nm (pv_u M5.1 183 1 (x6 / x4), M5.2) (fun M6 => some ((), M6)))))))))))
def f_X6_findRound (M : pv_M) : Option (Unit × pv_M) := pv_nm (pv_u M.1 183 0 1, M.2) (fun M1 => pv_nm (pv_u M1.1 183 1 1, M1.2) (fun M2 => pv_nm (pv_u M2.1 183 2 0, M2.2) (fun M3 => pv_jn (f_X6_findRound_J56) (fun j1 => pv_lp2 (f_X6_findRound_L17 j1) pv_FU 2 M3))))
set_option maxHeartbeats 4000000 in
set_option maxRecDepth 100000 in
theorem k_X6_findRound (l : Launch) (κ : pv_K) (M : pv_M) : pv_Mt l yX6_findRound cX6_findRound 3 none 13 κ [.ref (κ.1 + 183)] M pv_ju (f_X6_findRound M) := by
  refine pv_enter (by decide +kernel) (Nat.le_of_ble_eq_true rfl) (fun g hl hR C => ?_)
  have C : pv_Ok g κ 3 cX6_findRound RX6 none := C
  show pv_R g κ pv_T pv_RF 3 0 0 (pv_QF g κ pv_ju) 0 [(0, .ref (κ.1 + 183))] [] M (f_X6_findRound M)
  unfold f_X6_findRound
  refine rw_aload_n C dX6_findRound_0 rfl 0 rfl ?_
  refine rw_iconst (c := 1) C dX6_findRound_1 ci_1 ?_
  refine rw_put (k0 := 183) C dX6_findRound_2 fl_X6_9 ff_X6_0 rfl rfl rfl (by decide) sh_183 (by decide) (fun M1 => ?_)
  refine rw_aload_n C dX6_findRound_5 rfl 0 rfl ?_
  refine rw_iconst (c := 1) C dX6_findRound_6 ci_1 ?_
  refine rw_put (k0 := 183) C dX6_findRound_7 fl_X6_15 ff_X6_1 rfl rfl rfl (by decide) sh_183 (by decide) (fun M2 => ?_)
  refine rw_aload_n C dX6_findRound_10 rfl 0 rfl ?_
  refine rw_iconst (c := 0) C dX6_findRound_11 ci_0 ?_
  refine rw_put (k0 := 183) C dX6_findRound_12 fl_X6_41 ff_X6_2 rfl rfl rfl (by decide) sh_183 (by decide) (fun M3 => ?_)
  refine rw_iconst (c := 2) C dX6_findRound_15 ci_2 ?_
  refine rw_istore_n (lv' := [(1, .int 2), (0, .ref (κ.1 + 183))]) C dX6_findRound_16 rfl (by decide) rfl ?_
  refine rw_jn (fun j1 => ∀ (M4 : pv_M), pv_R g κ pv_T pv_RF 3 0 0 (pv_QF g κ pv_ju) 56 [(0, .ref (κ.1 + 183))] [] M4 (j1 M4)) (fun M4 => ?_) (fun j1 hj1 => ?_)
  · unfold f_X6_findRound_J56
    refine rw_aload_n C dX6_findRound_56 rfl 0 rfl ?_
    refine rw_getI (k0 := 183) C dX6_findRound_57 fl_X6_9 rfl (by decide) sh_183 (by decide) (fun x1 => ?_)
    refine rw_i2l C dX6_findRound_60 ?_
    refine rw_aload_n C dX6_findRound_61 rfl 0 rfl ?_
    refine rw_getI (k0 := 183) C dX6_findRound_62 fl_X6_15 rfl (by decide) sh_183 (by decide) (fun x2 => ?_)
    refine rw_i2l C dX6_findRound_65 ?_
    refine rw_callNPl (As := [.long (x1.toInt64), .long (x2.toInt64)]) C hR dX6_findRound_66 cn_X6_48 (k_X8_commonDivisor g.2.1 κ x1.toInt64 x2.toInt64 M4) (by decide) (by decide) rfl (Nat.le_of_ble_eq_true rfl) rfl (fun x3 => ?_)
    refine rw_l2i C dX6_findRound_69 ?_
    refine rw_nm (fun x4 => ?_)
    refine rw_istore_n (lv' := [(1, .int x4), (0, .ref (κ.1 + 183))]) C dX6_findRound_70 rfl (by decide) rfl ?_
    refine rw_aload_n C dX6_findRound_71 rfl 1 rfl ?_
    refine rw_dup C dX6_findRound_72 rfl ?_
    refine rw_getI (k0 := 183) C dX6_findRound_73 fl_X6_9 rfl (by decide) sh_183 (by decide) (fun x5 => ?_)
    refine rw_iload_n C dX6_findRound_76 rfl 0 rfl ?_
    refine rw_ck (fun hb1 => ?_)
    refine rw_idiv C dX6_findRound_77 (of_decide_eq_true hb1) ?_
    refine rw_put (k0 := 183) C dX6_findRound_78 fl_X6_9 ff_X6_0 rfl rfl rfl (by decide) sh_183 (by decide) (fun M5 => ?_)
    refine rw_aload_n C dX6_findRound_81 rfl 1 rfl ?_
    refine rw_dup C dX6_findRound_82 rfl ?_
    refine rw_getI (k0 := 183) C dX6_findRound_83 fl_X6_15 rfl (by decide) sh_183 (by decide) (fun x6 => ?_)
    refine rw_iload_n C dX6_findRound_86 rfl 0 rfl ?_
    refine rw_ck (fun hb2 => ?_)
    refine rw_idiv C dX6_findRound_87 (of_decide_eq_true hb2) ?_
    refine rw_put (k0 := 183) C dX6_findRound_88 fl_X6_15 ff_X6_1 rfl rfl rfl (by decide) sh_183 (by decide) (fun M6 => ?_)
    exact rw_vret C dX6_findRound_91
  · refine rw_lv (lv' := [(0, .ref (κ.1 + 183)), (1, .int 2)]) [1, 0] rfl ?_
    refine pv_lp2_ind (fun x7 M7 xx => pv_R g κ pv_T pv_RF 3 0 0 (pv_QF g κ pv_ju) 17 [(0, .ref (κ.1 + 183)), (1, .int x7)] [] M7 xx) (fun _ _ => rw_none) (fun rec1 hrec1 x7 M7 => ?_) _ _ _
    unfold f_X6_findRound_L17
    refine rw_iload_n C dX6_findRound_17 rfl 1 rfl ?_
    refine rw_iconst (c := 4) C dX6_findRound_18 ci_4 ?_
    refine rw_icmp_gt (tgt := 56) C dX6_findRound_19 (by decide) ?_ ?_
    · exact rw_lv [0] rfl (hj1 M7)
    · refine rw_iconst (c := 0) C dX6_findRound_22 ci_0 ?_
      refine rw_istore_n (lv' := [(2, .int 0), (0, .ref (κ.1 + 183)), (1, .int x7)]) C dX6_findRound_23 rfl (by decide) rfl ?_
      refine rw_lv (lv' := [(0, .ref (κ.1 + 183)), (1, .int x7), (2, .int 0)]) [1, 2, 0] rfl ?_
      refine pv_lp2_ind (fun x8 M8 xx => pv_R g κ pv_T pv_RF 3 0 0 (pv_QF g κ pv_ju) 24 [(0, .ref (κ.1 + 183)), (1, .int x7), (2, .int x8)] [] M8 xx) (fun _ _ => rw_none) (fun rec2 hrec2 x8 M8 => ?_) _ _ _
      unfold f_X6_findRound_L24
      refine rw_iload_n C dX6_findRound_24 rfl 2 rfl ?_
      refine rw_iconst (c := 4) C dX6_findRound_25 ci_4 ?_
      refine rw_icmp_ge (tgt := 50) C dX6_findRound_26 (by decide) ?_ ?_
      · refine rw_iinc (c := 1) (lv' := [(1, .int (x7 + 1)), (0, .ref (κ.1 + 183)), (2, .int x8)]) C dX6_findRound_50 1 rfl (by decide) (by decide) rfl ?_
        refine rw_goto (tgt := 17) C dX6_findRound_53 (by decide) ?_
        exact rw_lv [1, 0] rfl (hrec1 (x7 + 1) M8)
      · refine rw_aload_n C dX6_findRound_29 rfl 0 rfl ?_
        refine rw_getR (k0 := 183) (k1 := 185) C dX6_findRound_30 fl_X6_22 rfl (by decide) sh_183 (by decide) rfl ?_
        refine rw_iconst (c := 0) C dX6_findRound_33 ci_0 ?_
        refine rw_iload_n C dX6_findRound_34 rfl 2 rfl ?_
        refine rw_stI C dX6_findRound_35 (fun M9 => ?_)
        refine rw_aload_n C dX6_findRound_36 rfl 0 rfl ?_
        refine rw_iconst (c := 1) C dX6_findRound_37 ci_1 ?_
        refine rw_iload_n C dX6_findRound_38 rfl 1 rfl ?_
        refine rw_iconst (c := 1) C dX6_findRound_39 ci_1 ?_
        refine rw_iconst (c := 1) C dX6_findRound_40 ci_1 ?_
        refine rw_callVu (As := [.int 1, .int x7, .int 1, .int 1]) (k0 := 183) C hR dX6_findRound_41 cv_X6_44 (k_X6_goOn g.2.1 κ 10 1 x7 1 1 M9) (by decide) (by decide) (by decide) sh_183 rfl rfl (Nat.le_of_ble_eq_true rfl) rfl (fun u1 M10 => ?_)
        refine rw_iinc (c := 1) (lv' := [(2, .int (x8 + 1)), (0, .ref (κ.1 + 183)), (1, .int x7)]) C dX6_findRound_44 2 rfl (by decide) (by decide) rfl ?_
        refine rw_goto (tgt := 24) C dX6_findRound_47 (by decide) ?_
        exact rw_lv [1, 2, 0] rfl (hrec2 (x8 + 1) M10)
def f_X7_isKind (a1 : Int32) (M : pv_M) : Option Int32 := pv_cap (f_X8_isWithin a1 0 5 M) (fun x1 => (if x1 = 0 ∨ x1 = 1 then some x1 else none))
set_option maxHeartbeats 4000000 in
set_option maxRecDepth 100000 in
theorem k_X7_isKind (l : Launch) (κ : pv_K) (a1 : Int32) (M : pv_M) : pv_MtP l yX7_isKind cX7_isKind 1 (some .boolean) 1 κ [.int a1] M pv_ji (f_X7_isKind a1 M) := by
  refine pv_enterP (by decide +kernel) (Nat.le_of_ble_eq_true rfl) (fun g hl hR C => ?_)
  have C : pv_Ok g κ 1 cX7_isKind RX7 (some .boolean) := C
  show pv_R g κ pv_T pv_RF 1 0 0 (pv_QP g κ pv_ji M) 0 [(0, .int a1)] [] M (f_X7_isKind a1 M)
  unfold f_X7_isKind
  refine rw_iload_n C dX7_isKind_0 rfl 0 rfl ?_
  refine rw_iconst (c := 0) C dX7_isKind_1 ci_0 ?_
  refine rw_iconst (c := 5) C dX7_isKind_2 ci_5 ?_
  refine rw_callNPi (As := [.int a1, .int 0, .int 5]) C hR dX7_isKind_3 cn_X7_22 (k_X8_isWithin g.2.1 κ a1 0 5 M) (by decide) (by decide) rfl (Nat.le_of_ble_eq_true rfl) rfl (fun x1 => ?_)
  exact rw_zret_ckP C dX7_isKind_6
def f_X7_startAnew_L2 (rec1 : Int32 → pv_M → Option (Unit × pv_M)) (x1 : Int32) (M1 : pv_M) : Option (Unit × pv_M) := (if 6 ≤ x1 then some ((), M1) else pv_stI pv_T 180 x1 x1 M1 (fun M2 => pv_stL pv_T 181 x1 1 M2 (fun M3 => pv_stL pv_T 182 x1 1 M3 (fun M4 => rec1 (x1 + 1) M4))))
def f_X7_startAnew (M : pv_M) : Option (Unit × pv_M) := pv_lp2 f_X7_startAnew_L2 pv_FU 0 M
set_option maxHeartbeats 4000000 in
set_option maxRecDepth 100000 in
theorem k_X7_startAnew (l : Launch) (κ : pv_K) (M : pv_M) : pv_Mt l yX7_startAnew cX7_startAnew 2 none 0 κ [.ref (κ.1 + 179)] M pv_ju (f_X7_startAnew M) := by
  refine pv_enter (by decide +kernel) (Nat.le_of_ble_eq_true rfl) (fun g hl hR C => ?_)
  have C : pv_Ok g κ 2 cX7_startAnew RX7 none := C
  show pv_R g κ pv_T pv_RF 2 0 0 (pv_QF g κ pv_ju) 0 [(0, .ref (κ.1 + 179))] [] M (f_X7_startAnew M)
  unfold f_X7_startAnew
  refine rw_iconst (c := 0) C dX7_startAnew_0 ci_0 ?_
  refine rw_istore_n (lv' := [(1, .int 0), (0, .ref (κ.1 + 179))]) C dX7_startAnew_1 rfl (by decide) rfl ?_
  refine rw_lv (lv' := [(0, .ref (κ.1 + 179)), (1, .int 0)]) [1, 0] rfl ?_
  refine pv_lp2_ind (fun x1 M1 xx => pv_R g κ pv_T pv_RF 2 0 0 (pv_QF g κ pv_ju) 2 [(0, .ref (κ.1 + 179)), (1, .int x1)] [] M1 xx) (fun _ _ => rw_none) (fun rec1 hrec1 x1 M1 => ?_) _ _ _
  unfold f_X7_startAnew_L2
  refine rw_iload_n C dX7_startAnew_2 rfl 1 rfl ?_
  refine rw_bipush (c := 6) C dX7_startAnew_3 (by decide) ?_
  refine rw_icmp_ge (tgt := 35) C dX7_startAnew_5 (by decide) ?_ ?_
  · exact rw_vret C dX7_startAnew_35
  · refine rw_aload_n C dX7_startAnew_8 rfl 0 rfl ?_
    refine rw_getR (k0 := 179) (k1 := 180) C dX7_startAnew_9 fl_X7_11 rfl (by decide) sh_179 (by decide) rfl ?_
    refine rw_iload_n C dX7_startAnew_12 rfl 1 rfl ?_
    refine rw_iload_n C dX7_startAnew_13 rfl 1 rfl ?_
    refine rw_stI C dX7_startAnew_14 (fun M2 => ?_)
    refine rw_aload_n C dX7_startAnew_15 rfl 0 rfl ?_
    refine rw_getR (k0 := 179) (k1 := 181) C dX7_startAnew_16 fl_X7_15 rfl (by decide) sh_179 (by decide) rfl ?_
    refine rw_iload_n C dX7_startAnew_19 rfl 1 rfl ?_
    refine rw_lconst (c := 1) C dX7_startAnew_20 (by decide) ?_
    refine rw_stL C dX7_startAnew_21 (fun M3 => ?_)
    refine rw_aload_n C dX7_startAnew_22 rfl 0 rfl ?_
    refine rw_getR (k0 := 179) (k1 := 182) C dX7_startAnew_23 fl_X7_19 rfl (by decide) sh_179 (by decide) rfl ?_
    refine rw_iload_n C dX7_startAnew_26 rfl 1 rfl ?_
    refine rw_lconst (c := 1) C dX7_startAnew_27 (by decide) ?_
    refine rw_stL C dX7_startAnew_28 (fun M4 => ?_)
    refine rw_iinc (c := 1) (lv' := [(1, .int (x1 + 1)), (0, .ref (κ.1 + 179))]) C dX7_startAnew_29 1 rfl (by decide) (by decide) rfl ?_
    refine rw_goto (tgt := 2) C dX7_startAnew_32 (by decide) ?_
    exact rw_lv [1, 0] rfl (hrec1 (x1 + 1) M4)
def f_X7_isTold (a1 : Int32) (a2 : Int32) (M : pv_M) : Option Int32 := pv_ldI pv_T 180 a1 M (fun x1 => pv_ldI pv_T 180 a2 M (fun x2 => (if x1 = x2 then some 1 else some 0)))
set_option maxHeartbeats 4000000 in
set_option maxRecDepth 100000 in
theorem k_X7_isTold (l : Launch) (κ : pv_K) (a1 : Int32) (a2 : Int32) (M : pv_M) : pv_MtP l yX7_isTold cX7_isTold 3 (some .boolean) 0 κ [.ref (κ.1 + 179), .int a1, .int a2] M pv_ji (f_X7_isTold a1 a2 M) := by
  refine pv_enterP (by decide +kernel) (Nat.le_of_ble_eq_true rfl) (fun g hl hR C => ?_)
  have C : pv_Ok g κ 3 cX7_isTold RX7 (some .boolean) := C
  show pv_R g κ pv_T pv_RF 3 0 0 (pv_QP g κ pv_ji M) 0 [(0, .ref (κ.1 + 179)), (1, .int a1), (2, .int a2)] [] M (f_X7_isTold a1 a2 M)
  unfold f_X7_isTold
  refine rw_aload_n C dX7_isTold_0 rfl 0 rfl ?_
  refine rw_getR (k0 := 179) (k1 := 180) C dX7_isTold_1 fl_X7_11 rfl (by decide) sh_179 (by decide) rfl ?_
  refine rw_iload_n C dX7_isTold_4 rfl 1 rfl ?_
  refine rw_ldI C dX7_isTold_5 (fun x1 => ?_)
  refine rw_aload_n C dX7_isTold_6 rfl 0 rfl ?_
  refine rw_getR (k0 := 179) (k1 := 180) C dX7_isTold_7 fl_X7_11 rfl (by decide) sh_179 (by decide) rfl ?_
  refine rw_iload_n C dX7_isTold_10 rfl 2 rfl ?_
  refine rw_ldI C dX7_isTold_11 (fun x2 => ?_)
  refine rw_icmp_ne (tgt := 19) C dX7_isTold_12 (by decide) ?_ ?_
  · refine rw_iconst (c := 0) C dX7_isTold_19 ci_0 ?_
    exact rw_zretP (Or.inl rfl) C dX7_isTold_20
  · refine rw_iconst (c := 1) C dX7_isTold_15 ci_1 ?_
    refine rw_goto (tgt := 20) C dX7_isTold_16 (by decide) ?_
    exact rw_zretP (Or.inr rfl) C dX7_isTold_20
def f_X7_join_L43 (x1 : Int32) (a2 : Int32) (x4 : Int64) (x7 : Int64) (rec1 : Int32 → pv_M → Option (Unit × pv_M)) (x8 : Int32) (M1 : pv_M) : Option (Unit × pv_M) := (if 6 ≤ x8 then some ((), M1) else pv_ldI pv_T 180 x8 M1 (fun x9 => (if x9 = x1 then pv_ldI pv_T 180 a2 M1 (fun x10 => pv_stI pv_T 180 x8 x10 M1 (fun M2 => pv_ldL pv_T 181 x8 M2 (fun x11 => pv_nm (x11 * x4) (fun x12 => pv_ldL pv_T 182 x8 M2 (fun x13 => pv_nm (x13 * x7) (fun x14 => pv_cap (f_X8_commonDivisor x12 x14 M2) (fun x15 => pv_ck (decide (¬ x15 = 0)) (pv_stL pv_T 181 x8 (x12 / x15) M2 (fun M3 => pv_ck (decide (¬ x15 = 0)) (pv_stL pv_T 182 x8 (x14 / x15) M3 (fun M4 => rec1 (x8 + 1) M4))))))))))) else rec1 (x8 + 1) M1)))
def f_X7_join (a1 : Int32) (a2 : Int32) (a3 : Int64) (M : pv_M) : Option (Unit × pv_M) := pv_ldI pv_T 180 a1 M (fun x1 => pv_ldL pv_T 181 a2 M (fun x2 => pv_ldL pv_T 182 a1 M (fun x3 => pv_nm ((a3 * x2) * x3) (fun x4 => pv_ldL pv_T 182 a2 M (fun x5 => pv_ldL pv_T 181 a1 M (fun x6 => pv_nm (x5 * x6) (fun x7 => pv_lp2 (f_X7_join_L43 x1 a2 x4 x7) pv_FU 0 M)))))))
set_option maxHeartbeats 4000000 in
set_option maxRecDepth 100000 in
theorem k_X7_join (l : Launch) (κ : pv_K) (a1 : Int32) (a2 : Int32) (a3 : Int64) (M : pv_M) : pv_Mt l yX7_join cX7_join 17 none 1 κ [.ref (κ.1 + 179), .int a1, .int a2, .long a3] M pv_ju (f_X7_join a1 a2 a3 M) := by
  refine pv_enter (by decide +kernel) (Nat.le_of_ble_eq_true rfl) (fun g hl hR C => ?_)
  have C : pv_Ok g κ 17 cX7_join RX7 none := C
  show pv_R g κ pv_T pv_RF 17 0 0 (pv_QF g κ pv_ju) 0 [(0, .ref (κ.1 + 179)), (1, .int a1), (2, .int a2), (3, .long a3)] [] M (f_X7_join a1 a2 a3 M)
  unfold f_X7_join
  refine rw_aload_n C dX7_join_0 rfl 0 rfl ?_
  refine rw_getR (k0 := 179) (k1 := 180) C dX7_join_1 fl_X7_11 rfl (by decide) sh_179 (by decide) rfl ?_
  refine rw_iload_n C dX7_join_4 rfl 1 rfl ?_
  refine rw_ldI C dX7_join_5 (fun x1 => ?_)
  refine rw_istore (lv' := [(5, .int x1), (0, .ref (κ.1 + 179)), (1, .int a1), (2, .int a2), (3, .long a3)]) C dX7_join_6 (by decide) rfl ?_
  refine rw_lload_n C dX7_join_8 rfl 4 rfl ?_
  refine rw_aload_n C dX7_join_9 rfl 1 rfl ?_
  refine rw_getR (k0 := 179) (k1 := 181) C dX7_join_10 fl_X7_15 rfl (by decide) sh_179 (by decide) rfl ?_
  refine rw_iload_n C dX7_join_13 rfl 3 rfl ?_
  refine rw_ldL C dX7_join_14 (fun x2 => ?_)
  refine rw_lmul C dX7_join_15 ?_
  refine rw_aload_n C dX7_join_16 rfl 1 rfl ?_
  refine rw_getR (k0 := 179) (k1 := 182) C dX7_join_17 fl_X7_19 rfl (by decide) sh_179 (by decide) rfl ?_
  refine rw_iload_n C dX7_join_20 rfl 2 rfl ?_
  refine rw_ldL C dX7_join_21 (fun x3 => ?_)
  refine rw_lmul C dX7_join_22 ?_
  refine rw_nmL (fun x4 => ?_)
  refine rw_lstore (lv' := [(6, .long x4), (5, .int x1), (0, .ref (κ.1 + 179)), (1, .int a1), (2, .int a2), (3, .long a3)]) C dX7_join_23 (by decide) rfl ?_
  refine rw_aload_n C dX7_join_25 rfl 2 rfl ?_
  refine rw_getR (k0 := 179) (k1 := 182) C dX7_join_26 fl_X7_19 rfl (by decide) sh_179 (by decide) rfl ?_
  refine rw_iload_n C dX7_join_29 rfl 4 rfl ?_
  refine rw_ldL C dX7_join_30 (fun x5 => ?_)
  refine rw_aload_n C dX7_join_31 rfl 2 rfl ?_
  refine rw_getR (k0 := 179) (k1 := 181) C dX7_join_32 fl_X7_15 rfl (by decide) sh_179 (by decide) rfl ?_
  refine rw_iload_n C dX7_join_35 rfl 3 rfl ?_
  refine rw_ldL C dX7_join_36 (fun x6 => ?_)
  refine rw_lmul C dX7_join_37 ?_
  refine rw_nmL (fun x7 => ?_)
  refine rw_lstore (lv' := [(8, .long x7), (6, .long x4), (5, .int x1), (0, .ref (κ.1 + 179)), (1, .int a1), (2, .int a2), (3, .long a3)]) C dX7_join_38 (by decide) rfl ?_
  refine rw_iconst (c := 0) C dX7_join_40 ci_0 ?_
  refine rw_istore (lv' := [(10, .int 0), (8, .long x7), (6, .long x4), (5, .int x1), (0, .ref (κ.1 + 179)), (1, .int a1), (2, .int a2), (3, .long a3)]) C dX7_join_41 (by decide) rfl ?_
  refine rw_lv (lv' := [(0, .ref (κ.1 + 179)), (2, .int a2), (5, .int x1), (6, .long x4), (8, .long x7), (10, .int 0)]) [4, 6, 3, 2, 1, 0] rfl ?_
  refine pv_lp2_ind (fun x8 M1 xx => pv_R g κ pv_T pv_RF 17 0 0 (pv_QF g κ pv_ju) 43 [(0, .ref (κ.1 + 179)), (2, .int a2), (5, .int x1), (6, .long x4), (8, .long x7), (10, .int x8)] [] M1 xx) (fun _ _ => rw_none) (fun rec1 hrec1 x8 M1 => ?_) _ _ _
  unfold f_X7_join_L43
  refine rw_iload C dX7_join_43 5 rfl ?_
  refine rw_bipush (c := 6) C dX7_join_45 (by decide) ?_
  refine rw_icmp_ge (tgt := 141) C dX7_join_47 (by decide) ?_ ?_
  · exact rw_vret C dX7_join_141
  · refine rw_aload_n C dX7_join_50 rfl 0 rfl ?_
    refine rw_getR (k0 := 179) (k1 := 180) C dX7_join_51 fl_X7_11 rfl (by decide) sh_179 (by decide) rfl ?_
    refine rw_iload C dX7_join_54 5 rfl ?_
    refine rw_ldI C dX7_join_56 (fun x9 => ?_)
    refine rw_iload C dX7_join_57 2 rfl ?_
    refine rw_icmp_eq (tgt := 65) C dX7_join_59 (by decide) ?_ ?_
    · refine rw_aload_n C dX7_join_65 rfl 0 rfl ?_
      refine rw_getR (k0 := 179) (k1 := 180) C dX7_join_66 fl_X7_11 rfl (by decide) sh_179 (by decide) rfl ?_
      refine rw_iload C dX7_join_69 5 rfl ?_
      refine rw_aload_n C dX7_join_71 rfl 0 rfl ?_
      refine rw_getR (k0 := 179) (k1 := 180) C dX7_join_72 fl_X7_11 rfl (by decide) sh_179 (by decide) rfl ?_
      refine rw_iload_n C dX7_join_75 rfl 1 rfl ?_
      refine rw_ldI C dX7_join_76 (fun x10 => ?_)
      refine rw_stI C dX7_join_77 (fun M2 => ?_)
      refine rw_aload_n C dX7_join_78 rfl 0 rfl ?_
      refine rw_getR (k0 := 179) (k1 := 181) C dX7_join_79 fl_X7_15 rfl (by decide) sh_179 (by decide) rfl ?_
      refine rw_iload C dX7_join_82 5 rfl ?_
      refine rw_ldL C dX7_join_84 (fun x11 => ?_)
      refine rw_lload C dX7_join_85 3 rfl ?_
      refine rw_lmul C dX7_join_87 ?_
      refine rw_nmL (fun x12 => ?_)
      refine rw_lstore (lv' := [(11, .long x12), (0, .ref (κ.1 + 179)), (2, .int a2), (5, .int x1), (6, .long x4), (8, .long x7), (10, .int x8)]) C dX7_join_88 (by decide) rfl ?_
      refine rw_aload_n C dX7_join_90 rfl 1 rfl ?_
      refine rw_getR (k0 := 179) (k1 := 182) C dX7_join_91 fl_X7_19 rfl (by decide) sh_179 (by decide) rfl ?_
      refine rw_iload C dX7_join_94 6 rfl ?_
      refine rw_ldL C dX7_join_96 (fun x13 => ?_)
      refine rw_lload C dX7_join_97 5 rfl ?_
      refine rw_lmul C dX7_join_99 ?_
      refine rw_nmL (fun x14 => ?_)
      refine rw_lstore (lv' := [(13, .long x14), (11, .long x12), (0, .ref (κ.1 + 179)), (2, .int a2), (5, .int x1), (6, .long x4), (8, .long x7), (10, .int x8)]) C dX7_join_100 (by decide) rfl ?_
      refine rw_lload C dX7_join_102 1 rfl ?_
      refine rw_lload C dX7_join_104 0 rfl ?_
      refine rw_callNPl (As := [.long x12, .long x14]) C hR dX7_join_106 cn_X7_61 (k_X8_commonDivisor g.2.1 κ x12 x14 M2) (by decide) (by decide) rfl (Nat.le_of_ble_eq_true rfl) rfl (fun x15 => ?_)
      refine rw_lstore (lv' := [(15, .long x15), (13, .long x14), (11, .long x12), (0, .ref (κ.1 + 179)), (2, .int a2), (5, .int x1), (6, .long x4), (8, .long x7), (10, .int x8)]) C dX7_join_109 (by decide) rfl ?_
      refine rw_aload_n C dX7_join_111 rfl 3 rfl ?_
      refine rw_getR (k0 := 179) (k1 := 181) C dX7_join_112 fl_X7_15 rfl (by decide) sh_179 (by decide) rfl ?_
      refine rw_iload C dX7_join_115 8 rfl ?_
      refine rw_lload C dX7_join_117 2 rfl ?_
      refine rw_lload C dX7_join_119 0 rfl ?_
      refine rw_ck (fun hb1 => ?_)
      refine rw_ldiv C dX7_join_121 (of_decide_eq_true hb1) ?_
      refine rw_stL C dX7_join_122 (fun M3 => ?_)
      refine rw_aload_n C dX7_join_123 rfl 3 rfl ?_
      refine rw_getR (k0 := 179) (k1 := 182) C dX7_join_124 fl_X7_19 rfl (by decide) sh_179 (by decide) rfl ?_
      refine rw_iload C dX7_join_127 8 rfl ?_
      refine rw_lload C dX7_join_129 1 rfl ?_
      refine rw_lload C dX7_join_131 0 rfl ?_
      refine rw_ck (fun hb2 => ?_)
      refine rw_ldiv C dX7_join_133 (of_decide_eq_true hb2) ?_
      refine rw_stL C dX7_join_134 (fun M4 => ?_)
      refine rw_iinc (c := 1) (lv' := [(10, .int (x8 + 1)), (15, .long x15), (13, .long x14), (11, .long x12), (0, .ref (κ.1 + 179)), (2, .int a2), (5, .int x1), (6, .long x4), (8, .long x7)]) C dX7_join_135 8 rfl (by decide) (by decide) rfl ?_
      refine rw_goto (tgt := 43) C dX7_join_138 (by decide) ?_
      exact rw_lv [4, 5, 6, 7, 8, 0] rfl (hrec1 (x8 + 1) M4)
    · refine rw_goto (tgt := 135) C dX7_join_62 (by decide) ?_
      refine rw_iinc (c := 1) (lv' := [(10, .int (x8 + 1)), (0, .ref (κ.1 + 179)), (2, .int a2), (5, .int x1), (6, .long x4), (8, .long x7)]) C dX7_join_135 5 rfl (by decide) (by decide) rfl ?_
      refine rw_goto (tgt := 43) C dX7_join_138 (by decide) ?_
      exact rw_lv [1, 2, 3, 4, 5, 0] rfl (hrec1 (x8 + 1) M1)
def f_X7_takes (r1 : Nat) (a2 : Int32) (M : pv_M) : Option (Int32 × pv_M) := pv_ck (pv_isT r1) (pv_cap (f_X5_byteOf r1 a2 0 M) (fun x1 => pv_nm (x1 - 97) (fun x2 => pv_cap (f_X5_byteOf r1 a2 1 M) (fun x3 => pv_nm (x3 - 97) (fun x4 => pv_cap (f_X5_byteOf r1 a2 2 M) (fun x5 => pv_nm ((x5 - 48).toInt64) (fun x6 => pv_cap (f_X7_isTold x2 x4 M) (fun x7 => (if x7 = 0 then pv_cal (f_X7_join x2 x4 x6 M) (fun u1 M1 => some (1, M1)) else pv_ldL pv_T 181 x2 M (fun x8 => pv_ldL pv_T 182 x4 M (fun x9 => pv_ldL pv_T 181 x4 M (fun x10 => pv_ldL pv_T 182 x2 M (fun x11 => (if (lg_cmp (x8 * x9) ((x6 * x10) * x11)) = 0 then some (1, M) else some (0, M)))))))))))))))
set_option maxHeartbeats 4000000 in
set_option maxRecDepth 100000 in
theorem k_X7_takes (l : Launch) (κ : pv_K) (r1 : Nat) (a2 : Int32) (M : pv_M) : pv_Mt l yX7_takes cX7_takes 7 (some .boolean) 2 κ [.ref (κ.1 + 179), .ref (κ.1 + r1), .int a2] M pv_ji (f_X7_takes r1 a2 M) := by
  refine pv_enter (by decide +kernel) (Nat.le_of_ble_eq_true rfl) (fun g hl hR C => ?_)
  have C : pv_Ok g κ 7 cX7_takes RX7 (some .boolean) := C
  show pv_R g κ pv_T pv_RF 7 0 0 (pv_QF g κ pv_ji) 0 [(0, .ref (κ.1 + 179)), (1, .ref (κ.1 + r1)), (2, .int a2)] [] M (f_X7_takes r1 a2 M)
  unfold f_X7_takes
  refine rw_ck (fun hc1 => ?_)
  refine rw_aload_n C dX7_takes_0 rfl 1 rfl ?_
  refine rw_iload_n C dX7_takes_1 rfl 2 rfl ?_
  refine rw_iconst (c := 0) C dX7_takes_2 ci_0 ?_
  refine rw_callVPi (As := [.int a2, .int 0]) (k0 := r1) C hR dX7_takes_3 cv_X7_49 (k_X5_byteOf g.2.1 κ r1 a2 0 M) (by decide) (by decide) (pv_isT_lt hc1) (pv_isT_sh hc1) rfl rfl (Nat.le_of_ble_eq_true rfl) rfl (fun x1 => ?_)
  refine rw_bipush (c := 97) C dX7_takes_6 (by decide) ?_
  refine rw_isub C dX7_takes_8 ?_
  refine rw_nm (fun x2 => ?_)
  refine rw_istore_n (lv' := [(3, .int x2), (0, .ref (κ.1 + 179)), (1, .ref (κ.1 + r1)), (2, .int a2)]) C dX7_takes_9 rfl (by decide) rfl ?_
  refine rw_aload_n C dX7_takes_10 rfl 2 rfl ?_
  refine rw_iload_n C dX7_takes_11 rfl 3 rfl ?_
  refine rw_iconst (c := 1) C dX7_takes_12 ci_1 ?_
  refine rw_callVPi (As := [.int a2, .int 1]) (k0 := r1) C hR dX7_takes_13 cv_X7_49 (k_X5_byteOf g.2.1 κ r1 a2 1 M) (by decide) (by decide) (pv_isT_lt hc1) (pv_isT_sh hc1) rfl rfl (Nat.le_of_ble_eq_true rfl) rfl (fun x3 => ?_)
  refine rw_bipush (c := 97) C dX7_takes_16 (by decide) ?_
  refine rw_isub C dX7_takes_18 ?_
  refine rw_nm (fun x4 => ?_)
  refine rw_istore (lv' := [(4, .int x4), (3, .int x2), (0, .ref (κ.1 + 179)), (1, .ref (κ.1 + r1)), (2, .int a2)]) C dX7_takes_19 (by decide) rfl ?_
  refine rw_aload_n C dX7_takes_21 rfl 3 rfl ?_
  refine rw_iload_n C dX7_takes_22 rfl 4 rfl ?_
  refine rw_iconst (c := 2) C dX7_takes_23 ci_2 ?_
  refine rw_callVPi (As := [.int a2, .int 2]) (k0 := r1) C hR dX7_takes_24 cv_X7_49 (k_X5_byteOf g.2.1 κ r1 a2 2 M) (by decide) (by decide) (pv_isT_lt hc1) (pv_isT_sh hc1) rfl rfl (Nat.le_of_ble_eq_true rfl) rfl (fun x5 => ?_)
  refine rw_bipush (c := 48) C dX7_takes_27 (by decide) ?_
  refine rw_isub C dX7_takes_29 ?_
  refine rw_i2l C dX7_takes_30 ?_
  refine rw_nmL (fun x6 => ?_)
  refine rw_lstore (lv' := [(5, .long x6), (4, .int x4), (3, .int x2), (0, .ref (κ.1 + 179)), (1, .ref (κ.1 + r1)), (2, .int a2)]) C dX7_takes_31 (by decide) rfl ?_
  refine rw_aload_n C dX7_takes_33 rfl 3 rfl ?_
  refine rw_iload_n C dX7_takes_34 rfl 2 rfl ?_
  refine rw_iload C dX7_takes_35 1 rfl ?_
  refine rw_callVPi (As := [.int x2, .int x4]) (k0 := 179) C hR dX7_takes_37 cv_X7_53 (k_X7_isTold g.2.1 κ x2 x4 M) (by decide) (by decide) (by decide) sh_179 rfl rfl (Nat.le_of_ble_eq_true rfl) rfl (fun x7 => ?_)
  refine rw_if_eq (tgt := 84) C dX7_takes_40 (by decide) ?_ ?_
  · refine rw_aload_n C dX7_takes_84 rfl 3 rfl ?_
    refine rw_iload_n C dX7_takes_85 rfl 2 rfl ?_
    refine rw_iload C dX7_takes_86 1 rfl ?_
    refine rw_lload C dX7_takes_88 0 rfl ?_
    refine rw_callVu (As := [.int x2, .int x4, .long x6]) (k0 := 179) C hR dX7_takes_90 cv_X7_57 (k_X7_join g.2.1 κ x2 x4 x6 M) (by decide) (by decide) (by decide) sh_179 rfl rfl (Nat.le_of_ble_eq_true rfl) rfl (fun u1 M1 => ?_)
    refine rw_iconst (c := 1) C dX7_takes_93 ci_1 ?_
    exact rw_zret (Or.inr rfl) C dX7_takes_94
  · refine rw_aload_n C dX7_takes_43 rfl 3 rfl ?_
    refine rw_getR (k0 := 179) (k1 := 181) C dX7_takes_44 fl_X7_15 rfl (by decide) sh_179 (by decide) rfl ?_
    refine rw_iload_n C dX7_takes_47 rfl 2 rfl ?_
    refine rw_ldL C dX7_takes_48 (fun x8 => ?_)
    refine rw_aload_n C dX7_takes_49 rfl 3 rfl ?_
    refine rw_getR (k0 := 179) (k1 := 182) C dX7_takes_50 fl_X7_19 rfl (by decide) sh_179 (by decide) rfl ?_
    refine rw_iload C dX7_takes_53 1 rfl ?_
    refine rw_ldL C dX7_takes_55 (fun x9 => ?_)
    refine rw_lmul C dX7_takes_56 ?_
    refine rw_lload C dX7_takes_57 0 rfl ?_
    refine rw_aload_n C dX7_takes_59 rfl 3 rfl ?_
    refine rw_getR (k0 := 179) (k1 := 181) C dX7_takes_60 fl_X7_15 rfl (by decide) sh_179 (by decide) rfl ?_
    refine rw_iload C dX7_takes_63 1 rfl ?_
    refine rw_ldL C dX7_takes_65 (fun x10 => ?_)
    refine rw_lmul C dX7_takes_66 ?_
    refine rw_aload_n C dX7_takes_67 rfl 3 rfl ?_
    refine rw_getR (k0 := 179) (k1 := 182) C dX7_takes_68 fl_X7_19 rfl (by decide) sh_179 (by decide) rfl ?_
    refine rw_iload_n C dX7_takes_71 rfl 2 rfl ?_
    refine rw_ldL C dX7_takes_72 (fun x11 => ?_)
    refine rw_lmul C dX7_takes_73 ?_
    refine rw_lcmp C dX7_takes_74 ?_
    refine rw_if_ne (tgt := 82) C dX7_takes_75 (by decide) ?_ ?_
    · refine rw_iconst (c := 0) C dX7_takes_82 ci_0 ?_
      exact rw_zret (Or.inl rfl) C dX7_takes_83
    · refine rw_iconst (c := 1) C dX7_takes_78 ci_1 ?_
      refine rw_goto (tgt := 83) C dX7_takes_79 (by decide) ?_
      exact rw_zret (Or.inr rfl) C dX7_takes_83
def f_X7_firstClash_L14 (x1 : Int32) (r1 : Nat) (rec1 : Int32 → Int32 → pv_M → Option (Int32 × pv_M)) (x2 : Int32) (x3 : Int32) (M2 : pv_M) : Option (Int32 × pv_M) := (if x1 ≤ x3 then some (x2, M2) else pv_cal (f_X7_takes r1 x3 M2) (fun x4 M3 => (if x4 = 0 then (if x2 = ((-1)) then rec1 x3 (x3 + 1) M3 else rec1 x2 (x3 + 1) M3) else rec1 x2 (x3 + 1) M3)))
def f_X7_firstClash (r1 : Nat) (M : pv_M) : Option (Int32 × pv_M) := pv_ck (pv_isT r1) (pv_cap (f_X5_items r1 M) (fun x1 => pv_cal (f_X7_startAnew M) (fun u1 M1 => pv_lp3 (f_X7_firstClash_L14 x1 r1) pv_FU ((-1)) 0 M1)))
set_option maxHeartbeats 4000000 in
set_option maxRecDepth 100000 in
theorem k_X7_firstClash (l : Launch) (κ : pv_K) (r1 : Nat) (M : pv_M) : pv_Mt l yX7_firstClash cX7_firstClash 5 (some .int) 3 κ [.ref (κ.1 + 179), .ref (κ.1 + r1)] M pv_ji (f_X7_firstClash r1 M) := by
  refine pv_enter (by decide +kernel) (Nat.le_of_ble_eq_true rfl) (fun g hl hR C => ?_)
  have C : pv_Ok g κ 5 cX7_firstClash RX7 (some .int) := C
  show pv_R g κ pv_T pv_RF 5 0 0 (pv_QF g κ pv_ji) 0 [(0, .ref (κ.1 + 179)), (1, .ref (κ.1 + r1))] [] M (f_X7_firstClash r1 M)
  unfold f_X7_firstClash
  refine rw_ck (fun hc1 => ?_)
  refine rw_iconst (c := (-1)) C dX7_firstClash_0 ci_m1 ?_
  refine rw_istore_n (lv' := [(2, .int (-1)), (0, .ref (κ.1 + 179)), (1, .ref (κ.1 + r1))]) C dX7_firstClash_1 rfl (by decide) rfl ?_
  refine rw_aload_n C dX7_firstClash_2 rfl 2 rfl ?_
  refine rw_callVPi (As := []) (k0 := r1) C hR dX7_firstClash_3 cv_X7_26 (k_X5_items g.2.1 κ r1 M) (by decide) (by decide) (pv_isT_lt hc1) (pv_isT_sh hc1) rfl rfl (Nat.le_of_ble_eq_true rfl) rfl (fun x1 => ?_)
  refine rw_istore_n (lv' := [(3, .int x1), (2, .int (-1)), (0, .ref (κ.1 + 179)), (1, .ref (κ.1 + r1))]) C dX7_firstClash_6 rfl (by decide) rfl ?_
  refine rw_aload_n C dX7_firstClash_7 rfl 2 rfl ?_
  refine rw_callVu (As := []) (k0 := 179) C hR dX7_firstClash_8 cv_X7_32 (k_X7_startAnew g.2.1 κ M) (by decide) (by decide) (by decide) sh_179 rfl rfl (Nat.le_of_ble_eq_true rfl) rfl (fun u1 M1 => ?_)
  refine rw_iconst (c := 0) C dX7_firstClash_11 ci_0 ?_
  refine rw_istore (lv' := [(4, .int 0), (3, .int x1), (2, .int (-1)), (0, .ref (κ.1 + 179)), (1, .ref (κ.1 + r1))]) C dX7_firstClash_12 (by decide) rfl ?_
  refine rw_lv (lv' := [(0, .ref (κ.1 + 179)), (1, .ref (κ.1 + r1)), (2, .int (-1)), (3, .int x1), (4, .int 0)]) [3, 4, 2, 1, 0] rfl ?_
  refine pv_lp3_ind (fun x2 x3 M2 xx => pv_R g κ pv_T pv_RF 5 0 0 (pv_QF g κ pv_ji) 14 [(0, .ref (κ.1 + 179)), (1, .ref (κ.1 + r1)), (2, .int x2), (3, .int x1), (4, .int x3)] [] M2 xx) (fun _ _ _ => rw_none) (fun rec1 hrec1 x2 x3 M2 => ?_) _ _ _ _
  unfold f_X7_firstClash_L14
  refine rw_iload C dX7_firstClash_14 4 rfl ?_
  refine rw_iload_n C dX7_firstClash_16 rfl 3 rfl ?_
  refine rw_icmp_ge (tgt := 44) C dX7_firstClash_17 (by decide) ?_ ?_
  · refine rw_iload_n C dX7_firstClash_44 rfl 2 rfl ?_
    exact rw_iret C dX7_firstClash_45
  · refine rw_aload_n C dX7_firstClash_20 rfl 0 rfl ?_
    refine rw_aload_n C dX7_firstClash_21 rfl 1 rfl ?_
    refine rw_iload C dX7_firstClash_22 4 rfl ?_
    refine rw_callVi (As := [.ref (κ.1 + r1), .int x3]) (k0 := 179) C hR dX7_firstClash_24 cv_X7_35 (k_X7_takes g.2.1 κ r1 x3 M2) (by decide) (by decide) (by decide) sh_179 rfl rfl (Nat.le_of_ble_eq_true rfl) rfl (fun x4 M3 => ?_)
    refine rw_if_ne (tgt := 38) C dX7_firstClash_27 (by decide) ?_ ?_
    · refine rw_iinc (c := 1) (lv' := [(4, .int (x3 + 1)), (0, .ref (κ.1 + 179)), (1, .ref (κ.1 + r1)), (2, .int x2), (3, .int x1)]) C dX7_firstClash_38 4 rfl (by decide) (by decide) rfl ?_
      refine rw_goto (tgt := 14) C dX7_firstClash_41 (by decide) ?_
      exact rw_lv [1, 2, 3, 4, 0] rfl (hrec1 x2 (x3 + 1) M3)
    · refine rw_iload_n C dX7_firstClash_30 rfl 2 rfl ?_
      refine rw_iconst (c := (-1)) C dX7_firstClash_31 ci_m1 ?_
      refine rw_icmp_ne (tgt := 38) C dX7_firstClash_32 (by decide) ?_ ?_
      · refine rw_iinc (c := 1) (lv' := [(4, .int (x3 + 1)), (0, .ref (κ.1 + 179)), (1, .ref (κ.1 + r1)), (2, .int x2), (3, .int x1)]) C dX7_firstClash_38 4 rfl (by decide) (by decide) rfl ?_
        refine rw_goto (tgt := 14) C dX7_firstClash_41 (by decide) ?_
        exact rw_lv [1, 2, 3, 4, 0] rfl (hrec1 x2 (x3 + 1) M3)
      · refine rw_iload C dX7_firstClash_35 4 rfl ?_
        refine rw_istore_n (lv' := [(2, .int x3), (0, .ref (κ.1 + 179)), (1, .ref (κ.1 + r1)), (3, .int x1), (4, .int x3)]) C dX7_firstClash_37 rfl (by decide) rfl ?_
        refine rw_iinc (c := 1) (lv' := [(4, .int (x3 + 1)), (2, .int x3), (0, .ref (κ.1 + 179)), (1, .ref (κ.1 + r1)), (3, .int x1)]) C dX7_firstClash_38 4 rfl (by decide) (by decide) rfl ?_
        refine rw_goto (tgt := 14) C dX7_firstClash_41 (by decide) ?_
        exact rw_lv [2, 3, 1, 4, 0] rfl (hrec1 x3 (x3 + 1) M3)
def f_J6_bitCount_0f7a4 (a1 : Int32) (M : pv_M) : Option Int32 := pv_nm (a1 - (((a1.toUInt32 >>> ((1 : Int32).toUInt32 &&& Int32.toUInt32 31)).toInt32) &&& 1431655765)) (fun x1 => pv_nm ((x1 &&& 858993459) + (((x1.toUInt32 >>> ((2 : Int32).toUInt32 &&& Int32.toUInt32 31)).toInt32) &&& 858993459)) (fun x2 => pv_nm ((x2 + ((x2.toUInt32 >>> ((4 : Int32).toUInt32 &&& Int32.toUInt32 31)).toInt32)) &&& 252645135) (fun x3 => pv_nm (x3 + ((x3.toUInt32 >>> ((8 : Int32).toUInt32 &&& Int32.toUInt32 31)).toInt32)) (fun x4 => pv_nm (x4 + ((x4.toUInt32 >>> ((16 : Int32).toUInt32 &&& Int32.toUInt32 31)).toInt32)) (fun x5 => some (x5 &&& 63))))))
set_option maxHeartbeats 4000000 in
set_option maxRecDepth 100000 in
theorem k_J6_bitCount_0f7a4 (l : Launch) (κ : pv_K) (a1 : Int32) (M : pv_M) : pv_MtP l yJ6_bitCount_0f7a4 cJ6_bitCount_0f7a4 1 (some .int) 0 κ [.int a1] M pv_ji (f_J6_bitCount_0f7a4 a1 M) := by
  refine pv_enterP (by decide +kernel) (Nat.le_of_ble_eq_true rfl) (fun g hl hR C => ?_)
  have C : pv_Ok g κ 1 cJ6_bitCount_0f7a4 RJ6 (some .int) := C
  show pv_R g κ pv_T pv_RF 1 0 0 (pv_QP g κ pv_ji M) 0 [(0, .int a1)] [] M (f_J6_bitCount_0f7a4 a1 M)
  unfold f_J6_bitCount_0f7a4
  refine rw_iload_n C dJ6_bitCount_0f7a4_0 rfl 0 rfl ?_
  refine rw_iload_n C dJ6_bitCount_0f7a4_1 rfl 0 rfl ?_
  refine rw_iconst (c := 1) C dJ6_bitCount_0f7a4_2 ci_1 ?_
  refine rw_iushr C dJ6_bitCount_0f7a4_3 ?_
  refine rw_ldc_w (c := 1431655765) C dJ6_bitCount_0f7a4_4 mw_873 ?_
  refine rw_iand C dJ6_bitCount_0f7a4_7 ?_
  refine rw_isub C dJ6_bitCount_0f7a4_8 ?_
  refine rw_nm (fun x1 => ?_)
  refine rw_istore_n (lv' := [(0, .int x1)]) C dJ6_bitCount_0f7a4_9 rfl (by decide) rfl ?_
  refine rw_iload_n C dJ6_bitCount_0f7a4_10 rfl 0 rfl ?_
  refine rw_ldc_w (c := 858993459) C dJ6_bitCount_0f7a4_11 mw_874 ?_
  refine rw_iand C dJ6_bitCount_0f7a4_14 ?_
  refine rw_iload_n C dJ6_bitCount_0f7a4_15 rfl 0 rfl ?_
  refine rw_iconst (c := 2) C dJ6_bitCount_0f7a4_16 ci_2 ?_
  refine rw_iushr C dJ6_bitCount_0f7a4_17 ?_
  refine rw_ldc_w (c := 858993459) C dJ6_bitCount_0f7a4_18 mw_874 ?_
  refine rw_iand C dJ6_bitCount_0f7a4_21 ?_
  refine rw_iadd C dJ6_bitCount_0f7a4_22 ?_
  refine rw_nm (fun x2 => ?_)
  refine rw_istore_n (lv' := [(0, .int x2)]) C dJ6_bitCount_0f7a4_23 rfl (by decide) rfl ?_
  refine rw_iload_n C dJ6_bitCount_0f7a4_24 rfl 0 rfl ?_
  refine rw_iload_n C dJ6_bitCount_0f7a4_25 rfl 0 rfl ?_
  refine rw_iconst (c := 4) C dJ6_bitCount_0f7a4_26 ci_4 ?_
  refine rw_iushr C dJ6_bitCount_0f7a4_27 ?_
  refine rw_iadd C dJ6_bitCount_0f7a4_28 ?_
  refine rw_ldc_w (c := 252645135) C dJ6_bitCount_0f7a4_29 mw_875 ?_
  refine rw_iand C dJ6_bitCount_0f7a4_32 ?_
  refine rw_nm (fun x3 => ?_)
  refine rw_istore_n (lv' := [(0, .int x3)]) C dJ6_bitCount_0f7a4_33 rfl (by decide) rfl ?_
  refine rw_iload_n C dJ6_bitCount_0f7a4_34 rfl 0 rfl ?_
  refine rw_iload_n C dJ6_bitCount_0f7a4_35 rfl 0 rfl ?_
  refine rw_bipush (c := 8) C dJ6_bitCount_0f7a4_36 (by decide) ?_
  refine rw_iushr C dJ6_bitCount_0f7a4_38 ?_
  refine rw_iadd C dJ6_bitCount_0f7a4_39 ?_
  refine rw_nm (fun x4 => ?_)
  refine rw_istore_n (lv' := [(0, .int x4)]) C dJ6_bitCount_0f7a4_40 rfl (by decide) rfl ?_
  refine rw_iload_n C dJ6_bitCount_0f7a4_41 rfl 0 rfl ?_
  refine rw_iload_n C dJ6_bitCount_0f7a4_42 rfl 0 rfl ?_
  refine rw_bipush (c := 16) C dJ6_bitCount_0f7a4_43 (by decide) ?_
  refine rw_iushr C dJ6_bitCount_0f7a4_45 ?_
  refine rw_iadd C dJ6_bitCount_0f7a4_46 ?_
  refine rw_nm (fun x5 => ?_)
  refine rw_istore_n (lv' := [(0, .int x5)]) C dJ6_bitCount_0f7a4_47 rfl (by decide) rfl ?_
  refine rw_iload_n C dJ6_bitCount_0f7a4_48 rfl 0 rfl ?_
  refine rw_bipush (c := 63) C dJ6_bitCount_0f7a4_49 (by decide) ?_
  refine rw_iand C dJ6_bitCount_0f7a4_51 ?_
  exact rw_iretP C dJ6_bitCount_0f7a4_52
def f_X7_agreesWithout_L7 (a2 : Int32) (a3 : Int32) (r1 : Nat) (rec1 : Int32 → pv_M → Option (Int32 × pv_M)) (x1 : Int32) (M2 : pv_M) : Option (Int32 × pv_M) := (if a2 ≤ x1 then some (1, M2) else (if ((a3 >>> (x1 &&& 31)) &&& 1) = 0 then pv_cal (f_X7_takes r1 x1 M2) (fun x2 M3 => (if x2 = 0 then some (0, M3) else rec1 (x1 + 1) M3)) else rec1 (x1 + 1) M2))
def f_X7_agreesWithout (r1 : Nat) (a2 : Int32) (a3 : Int32) (M : pv_M) : Option (Int32 × pv_M) := pv_ck (pv_isT r1) (pv_cal (f_X7_startAnew M) (fun u1 M1 => pv_lp2 (f_X7_agreesWithout_L7 a2 a3 r1) pv_FU 0 M1))
set_option maxHeartbeats 4000000 in
set_option maxRecDepth 100000 in
theorem k_X7_agreesWithout (l : Launch) (κ : pv_K) (r1 : Nat) (a2 : Int32) (a3 : Int32) (M : pv_M) : pv_Mt l yX7_agreesWithout cX7_agreesWithout 5 (some .boolean) 3 κ [.ref (κ.1 + 179), .ref (κ.1 + r1), .int a2, .int a3] M pv_ji (f_X7_agreesWithout r1 a2 a3 M) := by
  refine pv_enter (by decide +kernel) (Nat.le_of_ble_eq_true rfl) (fun g hl hR C => ?_)
  have C : pv_Ok g κ 5 cX7_agreesWithout RX7 (some .boolean) := C
  show pv_R g κ pv_T pv_RF 5 0 0 (pv_QF g κ pv_ji) 0 [(0, .ref (κ.1 + 179)), (1, .ref (κ.1 + r1)), (2, .int a2), (3, .int a3)] [] M (f_X7_agreesWithout r1 a2 a3 M)
  unfold f_X7_agreesWithout
  refine rw_ck (fun hc1 => ?_)
  refine rw_aload_n C dX7_agreesWithout_0 rfl 0 rfl ?_
  refine rw_callVu (As := []) (k0 := 179) C hR dX7_agreesWithout_1 cv_X7_32 (k_X7_startAnew g.2.1 κ M) (by decide) (by decide) (by decide) sh_179 rfl rfl (Nat.le_of_ble_eq_true rfl) rfl (fun u1 M1 => ?_)
  refine rw_iconst (c := 0) C dX7_agreesWithout_4 ci_0 ?_
  refine rw_istore (lv' := [(4, .int 0), (0, .ref (κ.1 + 179)), (1, .ref (κ.1 + r1)), (2, .int a2), (3, .int a3)]) C dX7_agreesWithout_5 (by decide) rfl ?_
  refine rw_lv (lv' := [(0, .ref (κ.1 + 179)), (1, .ref (κ.1 + r1)), (2, .int a2), (3, .int a3), (4, .int 0)]) [1, 2, 3, 4, 0] rfl ?_
  refine pv_lp2_ind (fun x1 M2 xx => pv_R g κ pv_T pv_RF 5 0 0 (pv_QF g κ pv_ji) 7 [(0, .ref (κ.1 + 179)), (1, .ref (κ.1 + r1)), (2, .int a2), (3, .int a3), (4, .int x1)] [] M2 xx) (fun _ _ => rw_none) (fun rec1 hrec1 x1 M2 => ?_) _ _ _
  unfold f_X7_agreesWithout_L7
  refine rw_iload C dX7_agreesWithout_7 4 rfl ?_
  refine rw_iload_n C dX7_agreesWithout_9 rfl 2 rfl ?_
  refine rw_icmp_ge (tgt := 40) C dX7_agreesWithout_10 (by decide) ?_ ?_
  · refine rw_iconst (c := 1) C dX7_agreesWithout_40 ci_1 ?_
    exact rw_zret (Or.inr rfl) C dX7_agreesWithout_41
  · refine rw_iload_n C dX7_agreesWithout_13 rfl 3 rfl ?_
    refine rw_iload C dX7_agreesWithout_14 4 rfl ?_
    refine rw_ishr C dX7_agreesWithout_16 ?_
    refine rw_iconst (c := 1) C dX7_agreesWithout_17 ci_1 ?_
    refine rw_iand C dX7_agreesWithout_18 ?_
    refine rw_if_ne (tgt := 34) C dX7_agreesWithout_19 (by decide) ?_ ?_
    · refine rw_iinc (c := 1) (lv' := [(4, .int (x1 + 1)), (0, .ref (κ.1 + 179)), (1, .ref (κ.1 + r1)), (2, .int a2), (3, .int a3)]) C dX7_agreesWithout_34 4 rfl (by decide) (by decide) rfl ?_
      refine rw_goto (tgt := 7) C dX7_agreesWithout_37 (by decide) ?_
      exact rw_lv [1, 2, 3, 4, 0] rfl (hrec1 (x1 + 1) M2)
    · refine rw_aload_n C dX7_agreesWithout_22 rfl 0 rfl ?_
      refine rw_aload_n C dX7_agreesWithout_23 rfl 1 rfl ?_
      refine rw_iload C dX7_agreesWithout_24 4 rfl ?_
      refine rw_callVi (As := [.ref (κ.1 + r1), .int x1]) (k0 := 179) C hR dX7_agreesWithout_26 cv_X7_35 (k_X7_takes g.2.1 κ r1 x1 M2) (by decide) (by decide) (by decide) sh_179 rfl rfl (Nat.le_of_ble_eq_true rfl) rfl (fun x2 M3 => ?_)
      refine rw_if_ne (tgt := 34) C dX7_agreesWithout_29 (by decide) ?_ ?_
      · refine rw_iinc (c := 1) (lv' := [(4, .int (x1 + 1)), (0, .ref (κ.1 + 179)), (1, .ref (κ.1 + r1)), (2, .int a2), (3, .int a3)]) C dX7_agreesWithout_34 4 rfl (by decide) (by decide) rfl ?_
        refine rw_goto (tgt := 7) C dX7_agreesWithout_37 (by decide) ?_
        exact rw_lv [1, 2, 3, 4, 0] rfl (hrec1 (x1 + 1) M3)
      · refine rw_iconst (c := 0) C dX7_agreesWithout_32 ci_0 ?_
        exact rw_zret (Or.inl rfl) C dX7_agreesWithout_33
def f_X7_fewestDropped_L14 (x1 : Int32) (r1 : Nat) (rec1 : Int32 → Int32 → pv_M → Option (Int32 × pv_M)) (x3 : Int32) (x4 : Int32) (M1 : pv_M) : Option (Int32 × pv_M) := (if (1 <<< (x1 &&& 31)) ≤ x4 then some (x3, M1) else pv_cap (f_J6_bitCount_0f7a4 x4 M1) (fun x5 => pv_cap (f_J6_bitCount_0f7a4 x3 M1) (fun x6 => (if x5 < x6 then pv_cal (f_X7_agreesWithout r1 x1 x4 M1) (fun x7 M2 => (if x7 = 0 then rec1 x3 (x4 + 1) M2 else rec1 x4 (x4 + 1) M2)) else rec1 x3 (x4 + 1) M1))))
def f_X7_fewestDropped (r1 : Nat) (M : pv_M) : Option (Int32 × pv_M) := pv_ck (pv_isT r1) (pv_cap (f_X5_items r1 M) (fun x1 => pv_nm ((1 <<< (x1 &&& 31)) - 1) (fun x2 => pv_lp3 (f_X7_fewestDropped_L14 x1 r1) pv_FU x2 0 M)))
set_option maxHeartbeats 4000000 in
set_option maxRecDepth 100000 in
theorem k_X7_fewestDropped (l : Launch) (κ : pv_K) (r1 : Nat) (M : pv_M) : pv_Mt l yX7_fewestDropped cX7_fewestDropped 5 (some .int) 4 κ [.ref (κ.1 + 179), .ref (κ.1 + r1)] M pv_ji (f_X7_fewestDropped r1 M) := by
  refine pv_enter (by decide +kernel) (Nat.le_of_ble_eq_true rfl) (fun g hl hR C => ?_)
  have C : pv_Ok g κ 5 cX7_fewestDropped RX7 (some .int) := C
  show pv_R g κ pv_T pv_RF 5 0 0 (pv_QF g κ pv_ji) 0 [(0, .ref (κ.1 + 179)), (1, .ref (κ.1 + r1))] [] M (f_X7_fewestDropped r1 M)
  unfold f_X7_fewestDropped
  refine rw_ck (fun hc1 => ?_)
  refine rw_aload_n C dX7_fewestDropped_0 rfl 1 rfl ?_
  refine rw_callVPi (As := []) (k0 := r1) C hR dX7_fewestDropped_1 cv_X7_26 (k_X5_items g.2.1 κ r1 M) (by decide) (by decide) (pv_isT_lt hc1) (pv_isT_sh hc1) rfl rfl (Nat.le_of_ble_eq_true rfl) rfl (fun x1 => ?_)
  refine rw_istore_n (lv' := [(2, .int x1), (0, .ref (κ.1 + 179)), (1, .ref (κ.1 + r1))]) C dX7_fewestDropped_4 rfl (by decide) rfl ?_
  refine rw_iconst (c := 1) C dX7_fewestDropped_5 ci_1 ?_
  refine rw_iload_n C dX7_fewestDropped_6 rfl 0 rfl ?_
  refine rw_ishl C dX7_fewestDropped_7 ?_
  refine rw_iconst (c := 1) C dX7_fewestDropped_8 ci_1 ?_
  refine rw_isub C dX7_fewestDropped_9 ?_
  refine rw_nm (fun x2 => ?_)
  refine rw_istore_n (lv' := [(3, .int x2), (2, .int x1), (0, .ref (κ.1 + 179)), (1, .ref (κ.1 + r1))]) C dX7_fewestDropped_10 rfl (by decide) rfl ?_
  refine rw_iconst (c := 0) C dX7_fewestDropped_11 ci_0 ?_
  refine rw_istore (lv' := [(4, .int 0), (3, .int x2), (2, .int x1), (0, .ref (κ.1 + 179)), (1, .ref (κ.1 + r1))]) C dX7_fewestDropped_12 (by decide) rfl ?_
  refine rw_lv (lv' := [(0, .ref (κ.1 + 179)), (1, .ref (κ.1 + r1)), (2, .int x1), (3, .int x2), (4, .int 0)]) [3, 4, 2, 1, 0] rfl ?_
  refine pv_lp3_ind (fun x3 x4 M1 xx => pv_R g κ pv_T pv_RF 5 0 0 (pv_QF g κ pv_ji) 14 [(0, .ref (κ.1 + 179)), (1, .ref (κ.1 + r1)), (2, .int x1), (3, .int x3), (4, .int x4)] [] M1 xx) (fun _ _ _ => rw_none) (fun rec1 hrec1 x3 x4 M1 => ?_) _ _ _ _
  unfold f_X7_fewestDropped_L14
  refine rw_iload C dX7_fewestDropped_14 4 rfl ?_
  refine rw_iconst (c := 1) C dX7_fewestDropped_16 ci_1 ?_
  refine rw_iload_n C dX7_fewestDropped_17 rfl 2 rfl ?_
  refine rw_ishl C dX7_fewestDropped_18 ?_
  refine rw_icmp_ge (tgt := 57) C dX7_fewestDropped_19 (by decide) ?_ ?_
  · refine rw_iload_n C dX7_fewestDropped_57 rfl 3 rfl ?_
    exact rw_iret C dX7_fewestDropped_58
  · refine rw_iload C dX7_fewestDropped_22 4 rfl ?_
    refine rw_callSPi (As := [.int x4]) C hR dX7_fewestDropped_24 cs_X7_39 (k_J6_bitCount_0f7a4 g.2.1 κ x4 M1) (by decide) (by decide) rfl (Nat.le_of_ble_eq_true rfl) rfl (fun x5 => ?_)
    refine rw_iload_n C dX7_fewestDropped_27 rfl 3 rfl ?_
    refine rw_callSPi (As := [.int x3]) C hR dX7_fewestDropped_28 cs_X7_39 (k_J6_bitCount_0f7a4 g.2.1 κ x3 M1) (by decide) (by decide) rfl (Nat.le_of_ble_eq_true rfl) rfl (fun x6 => ?_)
    refine rw_icmp_lt (tgt := 37) C dX7_fewestDropped_31 (by decide) ?_ ?_
    · refine rw_aload_n C dX7_fewestDropped_37 rfl 0 rfl ?_
      refine rw_aload_n C dX7_fewestDropped_38 rfl 1 rfl ?_
      refine rw_iload_n C dX7_fewestDropped_39 rfl 2 rfl ?_
      refine rw_iload C dX7_fewestDropped_40 4 rfl ?_
      refine rw_callVi (As := [.ref (κ.1 + r1), .int x1, .int x4]) (k0 := 179) C hR dX7_fewestDropped_42 cv_X7_45 (k_X7_agreesWithout g.2.1 κ r1 x1 x4 M1) (by decide) (by decide) (by decide) sh_179 rfl rfl (Nat.le_of_ble_eq_true rfl) rfl (fun x7 M2 => ?_)
      refine rw_if_eq (tgt := 51) C dX7_fewestDropped_45 (by decide) ?_ ?_
      · refine rw_iinc (c := 1) (lv' := [(4, .int (x4 + 1)), (0, .ref (κ.1 + 179)), (1, .ref (κ.1 + r1)), (2, .int x1), (3, .int x3)]) C dX7_fewestDropped_51 4 rfl (by decide) (by decide) rfl ?_
        refine rw_goto (tgt := 14) C dX7_fewestDropped_54 (by decide) ?_
        exact rw_lv [1, 2, 3, 4, 0] rfl (hrec1 x3 (x4 + 1) M2)
      · refine rw_iload C dX7_fewestDropped_48 4 rfl ?_
        refine rw_istore_n (lv' := [(3, .int x4), (0, .ref (κ.1 + 179)), (1, .ref (κ.1 + r1)), (2, .int x1), (4, .int x4)]) C dX7_fewestDropped_50 rfl (by decide) rfl ?_
        refine rw_iinc (c := 1) (lv' := [(4, .int (x4 + 1)), (3, .int x4), (0, .ref (κ.1 + 179)), (1, .ref (κ.1 + r1)), (2, .int x1)]) C dX7_fewestDropped_51 4 rfl (by decide) (by decide) rfl ?_
        refine rw_goto (tgt := 14) C dX7_fewestDropped_54 (by decide) ?_
        exact rw_lv [2, 3, 4, 1, 0] rfl (hrec1 x4 (x4 + 1) M2)
    · refine rw_goto (tgt := 51) C dX7_fewestDropped_34 (by decide) ?_
      refine rw_iinc (c := 1) (lv' := [(4, .int (x4 + 1)), (0, .ref (κ.1 + 179)), (1, .ref (κ.1 + r1)), (2, .int x1), (3, .int x3)]) C dX7_fewestDropped_51 4 rfl (by decide) (by decide) rfl ?_
      refine rw_goto (tgt := 14) C dX7_fewestDropped_54 (by decide) ?_
      exact rw_lv [1, 2, 3, 4, 0] rfl (hrec1 x3 (x4 + 1) M1)
def f_X7_aboveOf (a1 : Int32) (a2 : Int32) (M : pv_M) : Option Int64 := pv_ldL pv_T 181 a1 M (fun x1 => pv_ldL pv_T 182 a2 M (fun x2 => pv_nm (x1 * x2) (fun x3 => pv_ldL pv_T 182 a1 M (fun x4 => pv_ldL pv_T 181 a2 M (fun x5 => pv_nm (x4 * x5) (fun x6 => pv_cap (f_X8_commonDivisor x3 x6 M) (fun x7 => pv_ck (decide (¬ x7 = 0)) (some (x3 / x7)))))))))
set_option maxHeartbeats 4000000 in
set_option maxRecDepth 100000 in
theorem k_X7_aboveOf (l : Launch) (κ : pv_K) (a1 : Int32) (a2 : Int32) (M : pv_M) : pv_MtP l yX7_aboveOf cX7_aboveOf 7 (some .long) 1 κ [.ref (κ.1 + 179), .int a1, .int a2] M pv_jl (f_X7_aboveOf a1 a2 M) := by
  refine pv_enterP (by decide +kernel) (Nat.le_of_ble_eq_true rfl) (fun g hl hR C => ?_)
  have C : pv_Ok g κ 7 cX7_aboveOf RX7 (some .long) := C
  show pv_R g κ pv_T pv_RF 7 0 0 (pv_QP g κ pv_jl M) 0 [(0, .ref (κ.1 + 179)), (1, .int a1), (2, .int a2)] [] M (f_X7_aboveOf a1 a2 M)
  unfold f_X7_aboveOf
  refine rw_aload_n C dX7_aboveOf_0 rfl 0 rfl ?_
  refine rw_getR (k0 := 179) (k1 := 181) C dX7_aboveOf_1 fl_X7_15 rfl (by decide) sh_179 (by decide) rfl ?_
  refine rw_iload_n C dX7_aboveOf_4 rfl 1 rfl ?_
  refine rw_ldL C dX7_aboveOf_5 (fun x1 => ?_)
  refine rw_aload_n C dX7_aboveOf_6 rfl 0 rfl ?_
  refine rw_getR (k0 := 179) (k1 := 182) C dX7_aboveOf_7 fl_X7_19 rfl (by decide) sh_179 (by decide) rfl ?_
  refine rw_iload_n C dX7_aboveOf_10 rfl 2 rfl ?_
  refine rw_ldL C dX7_aboveOf_11 (fun x2 => ?_)
  refine rw_lmul C dX7_aboveOf_12 ?_
  refine rw_nmL (fun x3 => ?_)
  refine rw_lstore_n (lv' := [(3, .long x3), (0, .ref (κ.1 + 179)), (1, .int a1), (2, .int a2)]) C dX7_aboveOf_13 rfl (by decide) rfl ?_
  refine rw_aload_n C dX7_aboveOf_14 rfl 1 rfl ?_
  refine rw_getR (k0 := 179) (k1 := 182) C dX7_aboveOf_15 fl_X7_19 rfl (by decide) sh_179 (by decide) rfl ?_
  refine rw_iload_n C dX7_aboveOf_18 rfl 2 rfl ?_
  refine rw_ldL C dX7_aboveOf_19 (fun x4 => ?_)
  refine rw_aload_n C dX7_aboveOf_20 rfl 1 rfl ?_
  refine rw_getR (k0 := 179) (k1 := 181) C dX7_aboveOf_21 fl_X7_15 rfl (by decide) sh_179 (by decide) rfl ?_
  refine rw_iload_n C dX7_aboveOf_24 rfl 3 rfl ?_
  refine rw_ldL C dX7_aboveOf_25 (fun x5 => ?_)
  refine rw_lmul C dX7_aboveOf_26 ?_
  refine rw_nmL (fun x6 => ?_)
  refine rw_lstore (lv' := [(5, .long x6), (3, .long x3), (0, .ref (κ.1 + 179)), (1, .int a1), (2, .int a2)]) C dX7_aboveOf_27 (by decide) rfl ?_
  refine rw_lload_n C dX7_aboveOf_29 rfl 1 rfl ?_
  refine rw_lload_n C dX7_aboveOf_30 rfl 1 rfl ?_
  refine rw_lload C dX7_aboveOf_31 0 rfl ?_
  refine rw_callNPl (As := [.long x3, .long x6]) C hR dX7_aboveOf_33 cn_X7_61 (k_X8_commonDivisor g.2.1 κ x3 x6 M) (by decide) (by decide) rfl (Nat.le_of_ble_eq_true rfl) rfl (fun x7 => ?_)
  refine rw_ck (fun hb1 => ?_)
  refine rw_ldiv C dX7_aboveOf_36 (of_decide_eq_true hb1) ?_
  exact rw_lretP C dX7_aboveOf_37
def f_X8_isText (a1 : Int32) (M : pv_M) : Option Int32 := pv_cap (f_X8_isWithin a1 0 2 M) (fun x1 => (if x1 = 0 ∨ x1 = 1 then some x1 else none))
set_option maxHeartbeats 4000000 in
set_option maxRecDepth 100000 in
theorem k_X8_isText (l : Launch) (κ : pv_K) (a1 : Int32) (M : pv_M) : pv_MtP l yX8_isText cX8_isText 1 (some .boolean) 1 κ [.int a1] M pv_ji (f_X8_isText a1 M) := by
  refine pv_enterP (by decide +kernel) (Nat.le_of_ble_eq_true rfl) (fun g hl hR C => ?_)
  have C : pv_Ok g κ 1 cX8_isText RX8 (some .boolean) := C
  show pv_R g κ pv_T pv_RF 1 0 0 (pv_QP g κ pv_ji M) 0 [(0, .int a1)] [] M (f_X8_isText a1 M)
  unfold f_X8_isText
  refine rw_iload_n C dX8_isText_0 rfl 0 rfl ?_
  refine rw_iconst (c := 0) C dX8_isText_1 ci_0 ?_
  refine rw_iconst (c := 2) C dX8_isText_2 ci_2 ?_
  refine rw_callSPi (As := [.int a1, .int 0, .int 2]) C hR dX8_isText_3 cs_X8_120 (k_X8_isWithin g.2.1 κ a1 0 2 M) (by decide) (by decide) rfl (Nat.le_of_ble_eq_true rfl) rfl (fun x1 => ?_)
  exact rw_zret_ckP C dX8_isText_6
def f_X8_textOf (a1 : Int32) (M : pv_M) : Option Nat := (if a1 = 0 then some 1 else (if a1 = 1 then some 3 else some 5))
set_option maxHeartbeats 4000000 in
set_option maxRecDepth 100000 in
theorem k_X8_textOf (l : Launch) (κ : pv_K) (a1 : Int32) (M : pv_M) : pv_MtP l yX8_textOf cX8_textOf 2 (some (.object "PoundVotes$Text")) 0 κ [.ref (κ.1 + 0), .int a1] M (pv_jr κ) (f_X8_textOf a1 M) := by
  refine pv_enterP (by decide +kernel) (Nat.le_of_ble_eq_true rfl) (fun g hl hR C => ?_)
  have C : pv_Ok g κ 2 cX8_textOf RX8 (some (.object "PoundVotes$Text")) := C
  show pv_R g κ pv_T pv_RF 2 0 0 (pv_QP g κ (pv_jr κ) M) 0 [(0, .ref (κ.1 + 0)), (1, .int a1)] [] M (f_X8_textOf a1 M)
  unfold f_X8_textOf
  refine rw_iload_n C dX8_textOf_0 rfl 1 rfl ?_
  refine rw_if_ne (tgt := 11) C dX8_textOf_1 (by decide) ?_ ?_
  · refine rw_iload_n C dX8_textOf_11 rfl 1 rfl ?_
    refine rw_iconst (c := 1) C dX8_textOf_12 ci_1 ?_
    refine rw_icmp_ne (tgt := 23) C dX8_textOf_13 (by decide) ?_ ?_
    · refine rw_aload_n C dX8_textOf_23 rfl 0 rfl ?_
      refine rw_getR (k0 := 0) (k1 := 5) C dX8_textOf_24 fl_X8_23 rfl (by decide) sh_0 (by decide) rfl ?_
      exact rw_aretP (Or.inl ⟨_, rfl⟩) C dX8_textOf_27
    · refine rw_aload_n C dX8_textOf_16 rfl 0 rfl ?_
      refine rw_getR (k0 := 0) (k1 := 3) C dX8_textOf_17 fl_X8_18 rfl (by decide) sh_0 (by decide) rfl ?_
      refine rw_goto (tgt := 27) C dX8_textOf_20 (by decide) ?_
      exact rw_aretP (Or.inl ⟨_, rfl⟩) C dX8_textOf_27
  · refine rw_aload_n C dX8_textOf_4 rfl 0 rfl ?_
    refine rw_getR (k0 := 0) (k1 := 1) C dX8_textOf_5 fl_X8_14 rfl (by decide) sh_0 (by decide) rfl ?_
    refine rw_goto (tgt := 27) C dX8_textOf_8 (by decide) ?_
    exact rw_aretP (Or.inl ⟨_, rfl⟩) C dX8_textOf_27
def f_X8_type (a1 : Int32) (a2 : Int32) (M : pv_M) : Option (Int32 × pv_M) := pv_cap (f_X8_isText a1 M) (fun x1 => (if x1 = 0 then some ((-2), M) else pv_cap (f_X8_isWithin a2 0 255 M) (fun x2 => (if x2 = 0 then some ((-2), M) else pv_cap (f_X8_textOf a1 M) (fun k1 => pv_ck (pv_isT k1) (pv_cap (f_X5_isFull k1 M) (fun x3 => (if x3 = 0 then pv_cal (f_X5_append k1 a2 M) (fun u1 M1 => pv_nm (pv_u M1.1 0 19 1, M1.2) (fun M2 => pv_nm (M2.1 k1 2) (fun x4 => some (x4, M2)))) else some ((-4), M)))))))))
set_option maxHeartbeats 4000000 in
set_option maxRecDepth 100000 in
theorem k_X8_type (l : Launch) (κ : pv_K) (a1 : Int32) (a2 : Int32) (M : pv_M) : pv_Mt l yX8_type cX8_type 4 (some .int) 2 κ [.ref (κ.1 + 0), .int a1, .int a2] M pv_ji (f_X8_type a1 a2 M) := by
  refine pv_enter (by decide +kernel) (Nat.le_of_ble_eq_true rfl) (fun g hl hR C => ?_)
  have C : pv_Ok g κ 4 cX8_type RX8 (some .int) := C
  show pv_R g κ pv_T pv_RF 4 0 0 (pv_QF g κ pv_ji) 0 [(0, .ref (κ.1 + 0)), (1, .int a1), (2, .int a2)] [] M (f_X8_type a1 a2 M)
  unfold f_X8_type
  refine rw_iload_n C dX8_type_0 rfl 1 rfl ?_
  refine rw_callSPi (As := [.int a1]) C hR dX8_type_1 cs_X8_116 (k_X8_isText g.2.1 κ a1 M) (by decide) (by decide) rfl (Nat.le_of_ble_eq_true rfl) rfl (fun x1 => ?_)
  refine rw_if_eq (tgt := 18) C dX8_type_4 (by decide) ?_ ?_
  · refine rw_bipush (c := (-2)) C dX8_type_18 (by decide) ?_
    exact rw_iret C dX8_type_20
  · refine rw_iload_n C dX8_type_7 rfl 2 rfl ?_
    refine rw_iconst (c := 0) C dX8_type_8 ci_0 ?_
    refine rw_sipush (c := 255) C dX8_type_9 (by decide) ?_
    refine rw_callSPi (As := [.int a2, .int 0, .int 255]) C hR dX8_type_12 cs_X8_120 (k_X8_isWithin g.2.1 κ a2 0 255 M) (by decide) (by decide) rfl (Nat.le_of_ble_eq_true rfl) rfl (fun x2 => ?_)
    refine rw_if_ne (tgt := 21) C dX8_type_15 (by decide) ?_ ?_
    · refine rw_aload_n C dX8_type_21 rfl 0 rfl ?_
      refine rw_iload_n C dX8_type_22 rfl 1 rfl ?_
      refine rw_callVPr (As := [.int a1]) (k0 := 0) C hR dX8_type_23 cv_X8_124 (k_X8_textOf g.2.1 κ a1 M) (by decide) (by decide) (by decide) sh_0 rfl rfl (Nat.le_of_ble_eq_true rfl) rfl (fun k1 => ?_)
      refine rw_ck (fun hc1 => ?_)
      refine rw_astore_n (lv' := [(3, .ref (κ.1 + k1)), (0, .ref (κ.1 + 0)), (1, .int a1), (2, .int a2)]) C dX8_type_26 rfl (by decide) rfl ?_
      refine rw_aload_n C dX8_type_27 rfl 0 rfl ?_
      refine rw_callVPi (As := []) (k0 := k1) C hR dX8_type_28 cv_X8_128 (k_X5_isFull g.2.1 κ k1 M) (by decide) (by decide) (pv_isT_lt hc1) (pv_isT_sh hc1) rfl rfl (Nat.le_of_ble_eq_true rfl) rfl (fun x3 => ?_)
      refine rw_if_eq (tgt := 37) C dX8_type_31 (by decide) ?_ ?_
      · refine rw_aload_n C dX8_type_37 rfl 0 rfl ?_
        refine rw_iload_n C dX8_type_38 rfl 3 rfl ?_
        refine rw_callVu (As := [.int a2]) (k0 := k1) C hR dX8_type_39 cv_X8_132 (k_X5_append g.2.1 κ k1 a2 M) (by decide) (by decide) (pv_isT_lt hc1) (pv_isT_sh hc1) rfl rfl (Nat.le_of_ble_eq_true rfl) rfl (fun u1 M1 => ?_)
        refine rw_aload_n C dX8_type_42 rfl 1 rfl ?_
        refine rw_iconst (c := 1) C dX8_type_43 ci_1 ?_
        refine rw_put (k0 := 0) C dX8_type_44 fl_X8_106 ff_X8_19 rfl (by decide +kernel) (by decide +kernel) (by decide) sh_0 (by decide) (fun M2 => ?_)
        refine rw_aload_n C dX8_type_47 rfl 0 rfl ?_
        refine rw_getI (k0 := k1) C dX8_type_48 fl_X8_136 rfl (pv_isT_lt hc1) (pv_isT_sh hc1) (by decide) (fun x4 => ?_)
        exact rw_iret C dX8_type_51
      · refine rw_bipush (c := (-4)) C dX8_type_34 (by decide) ?_
        exact rw_iret C dX8_type_36
    · refine rw_bipush (c := (-2)) C dX8_type_18 (by decide) ?_
      exact rw_iret C dX8_type_20
def f_X8_wipe (a1 : Int32) (M : pv_M) : Option (Int32 × pv_M) := pv_cap (f_X8_isText a1 M) (fun x1 => (if x1 = 0 then some ((-2), M) else pv_cap (f_X8_textOf a1 M) (fun k1 => pv_ck (pv_isT k1) (pv_nm (M.1 k1 2) (fun x2 => pv_nm (pv_u M.1 k1 2 0, M.2) (fun M1 => pv_nm (pv_u M1.1 0 19 1, M1.2) (fun M2 => some (x2, M2))))))))
set_option maxHeartbeats 4000000 in
set_option maxRecDepth 100000 in
theorem k_X8_wipe (l : Launch) (κ : pv_K) (a1 : Int32) (M : pv_M) : pv_Mt l yX8_wipe cX8_wipe 4 (some .int) 2 κ [.ref (κ.1 + 0), .int a1] M pv_ji (f_X8_wipe a1 M) := by
  refine pv_enter (by decide +kernel) (Nat.le_of_ble_eq_true rfl) (fun g hl hR C => ?_)
  have C : pv_Ok g κ 4 cX8_wipe RX8 (some .int) := C
  show pv_R g κ pv_T pv_RF 4 0 0 (pv_QF g κ pv_ji) 0 [(0, .ref (κ.1 + 0)), (1, .int a1)] [] M (f_X8_wipe a1 M)
  unfold f_X8_wipe
  refine rw_iload_n C dX8_wipe_0 rfl 1 rfl ?_
  refine rw_callSPi (As := [.int a1]) C hR dX8_wipe_1 cs_X8_116 (k_X8_isText g.2.1 κ a1 M) (by decide) (by decide) rfl (Nat.le_of_ble_eq_true rfl) rfl (fun x1 => ?_)
  refine rw_if_ne (tgt := 10) C dX8_wipe_4 (by decide) ?_ ?_
  · refine rw_aload_n C dX8_wipe_10 rfl 0 rfl ?_
    refine rw_iload_n C dX8_wipe_11 rfl 1 rfl ?_
    refine rw_callVPr (As := [.int a1]) (k0 := 0) C hR dX8_wipe_12 cv_X8_124 (k_X8_textOf g.2.1 κ a1 M) (by decide) (by decide) (by decide) sh_0 rfl rfl (Nat.le_of_ble_eq_true rfl) rfl (fun k1 => ?_)
    refine rw_ck (fun hc1 => ?_)
    refine rw_astore_n (lv' := [(2, .ref (κ.1 + k1)), (0, .ref (κ.1 + 0)), (1, .int a1)]) C dX8_wipe_15 rfl (by decide) rfl ?_
    refine rw_aload_n C dX8_wipe_16 rfl 0 rfl ?_
    refine rw_getI (k0 := k1) C dX8_wipe_17 fl_X8_136 rfl (pv_isT_lt hc1) (pv_isT_sh hc1) (by decide) (fun x2 => ?_)
    refine rw_istore_n (lv' := [(3, .int x2), (2, .ref (κ.1 + k1)), (0, .ref (κ.1 + 0)), (1, .int a1)]) C dX8_wipe_20 rfl (by decide) rfl ?_
    refine rw_aload_n C dX8_wipe_21 rfl 1 rfl ?_
    refine rw_iconst (c := 0) C dX8_wipe_22 ci_0 ?_
    refine rw_put (k0 := k1) C dX8_wipe_23 fl_X8_136 ff_X5_2 rfl rfl rfl (pv_isT_lt hc1) (pv_isT_sh hc1) (by decide) (fun M1 => ?_)
    refine rw_aload_n C dX8_wipe_26 rfl 2 rfl ?_
    refine rw_iconst (c := 1) C dX8_wipe_27 ci_1 ?_
    refine rw_put (k0 := 0) C dX8_wipe_28 fl_X8_106 ff_X8_19 rfl (by decide +kernel) (by decide +kernel) (by decide) sh_0 (by decide) (fun M2 => ?_)
    refine rw_iload_n C dX8_wipe_31 rfl 0 rfl ?_
    exact rw_iret C dX8_wipe_32
  · refine rw_bipush (c := (-2)) C dX8_wipe_7 (by decide) ?_
    exact rw_iret C dX8_wipe_9
