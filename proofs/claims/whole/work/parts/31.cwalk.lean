theorem ci_L_9 : pv_ci RL 9 yX8_init cX8_init 1 0 := ⟨mw_6, mw_7, mw_2, mw_8, ⟨by decide +kernel, by decide +kernel, by decide +kernel⟩, rfl⟩
theorem ci_L_12 : pv_ci RL 12 yX9_init cX9_init 2 0 := ⟨mw_134, mw_135, mw_5, mw_136, ⟨by decide +kernel, by decide +kernel, by decide +kernel⟩, rfl⟩
theorem ci_X8_11 : pv_ci RX8 11 yX5_init cX5_init 3 2 := ⟨mw_57, mw_58, mw_14, mw_59, ⟨by decide +kernel, by decide +kernel, by decide +kernel⟩, rfl⟩
theorem ci_X8_28 : pv_ci RX8 28 yX3_init cX3_init 3 2 := ⟨mw_63, mw_64, mw_20, mw_65, ⟨by decide +kernel, by decide +kernel, by decide +kernel⟩, rfl⟩
theorem ci_X8_55 : pv_ci RX8 55 yX1_init cX1_init 3 2 := ⟨mw_76, mw_77, mw_33, mw_78, ⟨by decide +kernel, by decide +kernel, by decide +kernel⟩, rfl⟩
theorem ci_X8_70 : pv_ci RX8 70 yX0_init cX0_init 2 1 := ⟨mw_87, mw_88, mw_39, mw_89, ⟨by decide +kernel, by decide +kernel, by decide +kernel⟩, rfl⟩
theorem ci_X8_84 : pv_ci RX8 84 yX6_init cX6_init 1 0 := ⟨mw_110, mw_111, mw_47, mw_112, ⟨by decide +kernel, by decide +kernel, by decide +kernel⟩, rfl⟩
theorem ci_X8_91 : pv_ci RX8 91 yX4_init cX4_init 1 0 := ⟨mw_124, mw_125, mw_51, mw_126, ⟨by decide +kernel, by decide +kernel, by decide +kernel⟩, rfl⟩
theorem cin_X8_48 : pv_cin RX8 48 yX2_init cX2_init 1 0 "PoundVotes" := ⟨List.mem_of_getElem? (i := 7) rfl, mw_69, mw_29, mw_70, ⟨by decide +kernel, by decide +kernel, by decide +kernel⟩, rfl⟩
theorem cin_X8_77 : pv_cin RX8 77 yX7_init cX7_init 1 0 "PoundVotes" := ⟨List.mem_of_getElem? (i := 8) rfl, mw_103, mw_43, mw_104, ⟨by decide +kernel, by decide +kernel, by decide +kernel⟩, rfl⟩
theorem pv_enterC2 {l : Launch} {y : MethodName} {cc : ByteArray} {nL d : Nat} {κ : pv_K} {N : Nat} {av : List Value} {M : pv_M} {rf : pv_F} {N' mc ms : Nat} {x : Option (pv_M × pv_F)} (hy : plainName y.cls = true) (ha : (lg_sl av).length ≤ nL)
    (body : ∀ g : pv_X, g.2.1 = l → g.2.2.2.1 = pv_rmC d mc ms → pv_Ok g κ nL cc y.cls none → pv_R g κ N rf nL 0 0 (pv_QC g κ N' mc ms) 0 (lv_args 0 av) [] M x) : pv_MtC l y cc nL d κ N av M rf N' mc ms x := by
  intro v hv
  refine Met.ofW (cc := cc) (maxL := nL) (ret := none) hy rfl ?_
  intro p e s m args below meth c s₁ B hml hP
  obtain ⟨rfl, hW, hKn⟩ := hP
  have hts := atoms_spec (ws := Cond.code y cc nL none :: UW) B.pre
  have hown : s.vm.findClass y.cls = some m.cls := findClass_of_methodNamed B.named
  rw [lg_entry_eq]
  exact body (p, l, e, pv_rmC d mc ms, s, m, av.toArray, below, meth, c) rfl rfl ⟨B.exec, B.bytes, hml, hown, fun w hw => hts w (List.mem_cons_of_mem _ hw), hKn.1, B.notSynchronized, B.returns⟩ v hv s.heap [] _ hW (fun q h => by cases h) (lv_entry av ha)
def fc_fill_L5 (N : Nat) (rf : pv_F) (x1 : Int32) (r1 : Nat) (a2 : Int32) (rec1 : Int32 → pv_M → Option (pv_M × pv_F)) (x2 : Int32) (M1 : pv_M) : Option (pv_M × pv_F) := (if x1 ≤ x2 then some (M1, rf) else pv_stI N r1 x2 a2 M1 (fun M2 => rec1 (x2 + 1) M2))
def fc_fill (N : Nat) (r1 : Nat) (a2 : Int32) (M : pv_M) (rf : pv_F) : Option (pv_M × pv_F) := pv_len N r1 (fun x1 => pv_lp2 (fc_fill_L5 N rf x1 r1 a2) pv_FU 0 M)
set_option maxHeartbeats 4000000 in
set_option maxRecDepth 100000 in
theorem kc_fill (l : Launch) (κ : pv_K) (N : Nat) (r1 : Nat) (a2 : Int32) (M : pv_M) (rf : pv_F) : pv_MtC l yJ7_fill_53178 cJ7_fill_53178 4 0 κ N [.ref (κ.1 + r1), .int a2] M rf N 0 0 (fc_fill N r1 a2 M rf) := by
  refine pv_enterC2 (by decide +kernel) (Nat.le_of_ble_eq_true rfl) (fun g hl hR C => ?_)
  have C : pv_Ok g κ 4 cJ7_fill_53178 RJ7 none := C
  show pv_R g κ N rf 4 0 0 (pv_QC g κ N 0 0) 0 [(0, .ref (κ.1 + r1)), (1, .int a2)] [] M (fc_fill N r1 a2 M rf)
  unfold fc_fill
  refine rw_iconst (c := 0) C dJ7_fill_53178_0 ci_0 ?_
  refine rw_istore_n (lv' := [(2, .int 0), (0, .ref (κ.1 + r1)), (1, .int a2)]) C dJ7_fill_53178_1 rfl (by decide) rfl ?_
  refine rw_aload_n C dJ7_fill_53178_2 rfl 1 rfl ?_
  refine rw_len C dJ7_fill_53178_3 (fun x1 => ?_)
  refine rw_istore_n (lv' := [(3, .int x1), (2, .int 0), (0, .ref (κ.1 + r1)), (1, .int a2)]) C dJ7_fill_53178_4 rfl (by decide) rfl ?_
  refine rw_lv (lv' := [(0, .ref (κ.1 + r1)), (1, .int a2), (2, .int 0), (3, .int x1)]) [2, 3, 1, 0] rfl ?_
  refine pv_lp2_ind (fun x2 M1 xx => pv_R g κ N rf 4 0 0 (pv_QC g κ N 0 0) 5 [(0, .ref (κ.1 + r1)), (1, .int a2), (2, .int x2), (3, .int x1)] [] M1 xx) (fun _ _ => rw_none) (fun rec1 hrec1 x2 M1 => ?_) _ _ _
  unfold fc_fill_L5
  refine rw_iload_n C dJ7_fill_53178_5 rfl 2 rfl ?_
  refine rw_iload_n C dJ7_fill_53178_6 rfl 3 rfl ?_
  refine rw_icmp_ge (tgt := 20) C dJ7_fill_53178_7 (by decide) ?_ ?_
  · exact rw_vretC C dJ7_fill_53178_20
  · refine rw_aload_n C dJ7_fill_53178_10 rfl 0 rfl ?_
    refine rw_iload_n C dJ7_fill_53178_11 rfl 2 rfl ?_
    refine rw_iload_n C dJ7_fill_53178_12 rfl 1 rfl ?_
    refine rw_stI C dJ7_fill_53178_13 (fun M2 => ?_)
    refine rw_iinc (c := 1) (lv' := [(2, .int (x2 + 1)), (0, .ref (κ.1 + r1)), (1, .int a2), (3, .int x1)]) C dJ7_fill_53178_14 2 rfl (by decide) (by decide) rfl ?_
    refine rw_goto (tgt := 5) C dJ7_fill_53178_17 (by decide) ?_
    exact rw_lv [1, 2, 0, 3] rfl (hrec1 (x2 + 1) M2)
def fc_X5_1 (M : pv_M) (rf : pv_F) : Option (pv_M × pv_F) := pv_nm (pv_u M.1 1 0 0, M.2) (fun M1 => pv_nm (pv_row M1.1 2 (fun _ => 0), M1.2) (fun M2 => pv_nm (pv_u rf 1 1 (some 2)) (fun rf1 => some (M2, rf1))))
set_option maxHeartbeats 4000000 in
set_option maxRecDepth 100000 in
theorem kc_X5_1 (l : Launch) (κ : pv_K) (M : pv_M) (rf : pv_F) : pv_MtC l yX5_init cX5_init 3 1 κ 2 [.ref (κ.1 + 1), .int 0, .int 4] M rf 3 1 15 (fc_X5_1 M rf) := by
  refine pv_enterC (by decide +kernel) rfl (Nat.le_of_ble_eq_true rfl) (fun g hl hR C CC => ?_)
  have C : pv_Ok g κ 3 cX5_init RX5 none := C
  show pv_R g κ 2 rf 3 0 0 (pv_QC g κ 3 1 15) 0 [(0, .ref (κ.1 + 1)), (1, .int 0), (2, .int 4)] [] M (fc_X5_1 M rf)
  unfold fc_X5_1
  refine rw_aload_n C dX5_init_0 rfl 0 rfl ?_
  refine rw_objI C dX5_init_1 ⟨mw_60, mw_10, mw_11⟩ (by rw [hR]; decide) (Nat.le_of_ble_eq_true rfl) ?_
  refine rw_aload_n C dX5_init_4 rfl 0 rfl ?_
  refine rw_iload_n C dX5_init_5 rfl 1 rfl ?_
  refine rw_putFI (k0 := 1) C CC dX5_init_6 fl_X5_9 (fun T n C h => by cases h; rfl) (fun T m D h => by cases h; rfl) rfl rfl rfl (by decide) sh_1 (by decide) (fun M1 => ?_)
  refine rw_aload_n C dX5_init_9 rfl 0 rfl ?_
  refine rw_iconst (c := 4) C dX5_init_10 ci_4 ?_
  refine rw_iload_n C dX5_init_11 rfl 2 rfl ?_
  refine rw_imul C dX5_init_12 ?_
  refine rw_iconst (c := 1) C dX5_init_13 ci_1 ?_
  refine rw_isub C dX5_init_14 ?_
  refine rw_newI (N := 2) (L := 15) C dX5_init_15 mw_24 (by decide) (by decide) (by decide) (by decide +kernel) rfl rfl (by rw [hR]; decide) (fun M2 => ?_)
  refine rw_putR (k0 := 1) (k1 := 2) C CC dX5_init_17 fl_X5_15 (fun T n C h => by cases h; rfl) (fun T m D h => by cases h; rfl) rfl (fun _ => rfl) (fun _ => rfl) (by decide) sh_1 (by decide) (fun rf1 => ?_)
  exact rw_vretC C dX5_init_20
def fc_X5_3 (M : pv_M) (rf : pv_F) : Option (pv_M × pv_F) := pv_nm (pv_u M.1 3 0 1, M.2) (fun M1 => pv_nm (pv_row M1.1 4 (fun _ => 0), M1.2) (fun M2 => pv_nm (pv_u rf 3 1 (some 4)) (fun rf1 => some (M2, rf1))))
set_option maxHeartbeats 4000000 in
set_option maxRecDepth 100000 in
theorem kc_X5_3 (l : Launch) (κ : pv_K) (M : pv_M) (rf : pv_F) : pv_MtC l yX5_init cX5_init 3 1 κ 4 [.ref (κ.1 + 3), .int 1, .int 8] M rf 5 1 31 (fc_X5_3 M rf) := by
  refine pv_enterC (by decide +kernel) rfl (Nat.le_of_ble_eq_true rfl) (fun g hl hR C CC => ?_)
  have C : pv_Ok g κ 3 cX5_init RX5 none := C
  show pv_R g κ 4 rf 3 0 0 (pv_QC g κ 5 1 31) 0 [(0, .ref (κ.1 + 3)), (1, .int 1), (2, .int 8)] [] M (fc_X5_3 M rf)
  unfold fc_X5_3
  refine rw_aload_n C dX5_init_0 rfl 0 rfl ?_
  refine rw_objI C dX5_init_1 ⟨mw_60, mw_10, mw_11⟩ (by rw [hR]; decide) (Nat.le_of_ble_eq_true rfl) ?_
  refine rw_aload_n C dX5_init_4 rfl 0 rfl ?_
  refine rw_iload_n C dX5_init_5 rfl 1 rfl ?_
  refine rw_putFI (k0 := 3) C CC dX5_init_6 fl_X5_9 (fun T n C h => by cases h; rfl) (fun T m D h => by cases h; rfl) rfl rfl rfl (by decide) sh_3 (by decide) (fun M1 => ?_)
  refine rw_aload_n C dX5_init_9 rfl 0 rfl ?_
  refine rw_iconst (c := 4) C dX5_init_10 ci_4 ?_
  refine rw_iload_n C dX5_init_11 rfl 2 rfl ?_
  refine rw_imul C dX5_init_12 ?_
  refine rw_iconst (c := 1) C dX5_init_13 ci_1 ?_
  refine rw_isub C dX5_init_14 ?_
  refine rw_newI (N := 4) (L := 31) C dX5_init_15 mw_24 (by decide) (by decide) (by decide) (by decide +kernel) rfl rfl (by rw [hR]; decide) (fun M2 => ?_)
  refine rw_putR (k0 := 3) (k1 := 4) C CC dX5_init_17 fl_X5_15 (fun T n C h => by cases h; rfl) (fun T m D h => by cases h; rfl) rfl (fun _ => rfl) (fun _ => rfl) (by decide) sh_3 (by decide) (fun rf1 => ?_)
  exact rw_vretC C dX5_init_20
def fc_X5_5 (M : pv_M) (rf : pv_F) : Option (pv_M × pv_F) := pv_nm (pv_u M.1 5 0 2, M.2) (fun M1 => pv_nm (pv_row M1.1 6 (fun _ => 0), M1.2) (fun M2 => pv_nm (pv_u rf 5 1 (some 6)) (fun rf1 => some (M2, rf1))))
set_option maxHeartbeats 4000000 in
set_option maxRecDepth 100000 in
theorem kc_X5_5 (l : Launch) (κ : pv_K) (M : pv_M) (rf : pv_F) : pv_MtC l yX5_init cX5_init 3 1 κ 6 [.ref (κ.1 + 5), .int 2, .int 8] M rf 7 1 31 (fc_X5_5 M rf) := by
  refine pv_enterC (by decide +kernel) rfl (Nat.le_of_ble_eq_true rfl) (fun g hl hR C CC => ?_)
  have C : pv_Ok g κ 3 cX5_init RX5 none := C
  show pv_R g κ 6 rf 3 0 0 (pv_QC g κ 7 1 31) 0 [(0, .ref (κ.1 + 5)), (1, .int 2), (2, .int 8)] [] M (fc_X5_5 M rf)
  unfold fc_X5_5
  refine rw_aload_n C dX5_init_0 rfl 0 rfl ?_
  refine rw_objI C dX5_init_1 ⟨mw_60, mw_10, mw_11⟩ (by rw [hR]; decide) (Nat.le_of_ble_eq_true rfl) ?_
  refine rw_aload_n C dX5_init_4 rfl 0 rfl ?_
  refine rw_iload_n C dX5_init_5 rfl 1 rfl ?_
  refine rw_putFI (k0 := 5) C CC dX5_init_6 fl_X5_9 (fun T n C h => by cases h; rfl) (fun T m D h => by cases h; rfl) rfl rfl rfl (by decide) sh_5 (by decide) (fun M1 => ?_)
  refine rw_aload_n C dX5_init_9 rfl 0 rfl ?_
  refine rw_iconst (c := 4) C dX5_init_10 ci_4 ?_
  refine rw_iload_n C dX5_init_11 rfl 2 rfl ?_
  refine rw_imul C dX5_init_12 ?_
  refine rw_iconst (c := 1) C dX5_init_13 ci_1 ?_
  refine rw_isub C dX5_init_14 ?_
  refine rw_newI (N := 6) (L := 31) C dX5_init_15 mw_24 (by decide) (by decide) (by decide) (by decide +kernel) rfl rfl (by rw [hR]; decide) (fun M2 => ?_)
  refine rw_putR (k0 := 5) (k1 := 6) C CC dX5_init_17 fl_X5_15 (fun T n C h => by cases h; rfl) (fun T m D h => by cases h; rfl) rfl (fun _ => rfl) (fun _ => rfl) (by decide) sh_5 (by decide) (fun rf1 => ?_)
  exact rw_vretC C dX5_init_20
def fc_X3_7 (M : pv_M) (rf : pv_F) : Option (pv_M × pv_F) := pv_nm (pv_rows M 8 10) (fun M1 => pv_nm (pv_u rf 7 0 (some 8)) (fun rf1 => some (M1, rf1)))
set_option maxHeartbeats 4000000 in
set_option maxRecDepth 100000 in
theorem kc_X3_7 (l : Launch) (κ : pv_K) (M : pv_M) (rf : pv_F) : pv_MtC l yX3_init cX3_init 3 1 κ 8 [.ref (κ.1 + 7), .int 10, .int 4] M rf 19 11 50 (fc_X3_7 M rf) := by
  refine pv_enterC (by decide +kernel) rfl (Nat.le_of_ble_eq_true rfl) (fun g hl hR C CC => ?_)
  have C : pv_Ok g κ 3 cX3_init RX3 none := C
  show pv_R g κ 8 rf 3 0 0 (pv_QC g κ 19 11 50) 0 [(0, .ref (κ.1 + 7)), (1, .int 10), (2, .int 4)] [] M (fc_X3_7 M rf)
  unfold fc_X3_7
  refine rw_aload_n C dX3_init_0 rfl 0 rfl ?_
  refine rw_objI C dX3_init_1 ⟨mw_66, mw_10, mw_11⟩ (by rw [hR]; decide) (Nat.le_of_ble_eq_true rfl) ?_
  refine rw_aload_n C dX3_init_4 rfl 0 rfl ?_
  refine rw_iload_n C dX3_init_5 rfl 1 rfl ?_
  refine rw_iload_n C dX3_init_6 rfl 2 rfl ?_
  refine rw_multi (N := 8) (L := 10) (K := 4) C CC dX3_init_7 ⟨mw_67, mw_24⟩ (by decide) (by decide) (by decide) (by decide) (by decide) (by decide +kernel) (by decide +kernel) rfl rfl (by rw [hR]; decide) (fun M1 => ?_)
  refine rw_putR (k0 := 7) (k1 := 8) C CC dX3_init_11 fl_X3_9 (fun T n C h => by cases h; rfl) (fun T m D h => by cases h; rfl) rfl (fun _ => rfl) (fun _ => rfl) (by decide) sh_7 (by decide) (fun rf1 => ?_)
  exact rw_vretC C dX3_init_14
def fc_X3_19 (M : pv_M) (rf : pv_F) : Option (pv_M × pv_F) := pv_nm (pv_rows M 20 8) (fun M1 => pv_nm (pv_u rf 19 0 (some 20)) (fun rf1 => some (M1, rf1)))
set_option maxHeartbeats 4000000 in
set_option maxRecDepth 100000 in
theorem kc_X3_19 (l : Launch) (κ : pv_K) (M : pv_M) (rf : pv_F) : pv_MtC l yX3_init cX3_init 3 1 κ 20 [.ref (κ.1 + 19), .int 8, .int 6] M rf 29 9 56 (fc_X3_19 M rf) := by
  refine pv_enterC (by decide +kernel) rfl (Nat.le_of_ble_eq_true rfl) (fun g hl hR C CC => ?_)
  have C : pv_Ok g κ 3 cX3_init RX3 none := C
  show pv_R g κ 20 rf 3 0 0 (pv_QC g κ 29 9 56) 0 [(0, .ref (κ.1 + 19)), (1, .int 8), (2, .int 6)] [] M (fc_X3_19 M rf)
  unfold fc_X3_19
  refine rw_aload_n C dX3_init_0 rfl 0 rfl ?_
  refine rw_objI C dX3_init_1 ⟨mw_66, mw_10, mw_11⟩ (by rw [hR]; decide) (Nat.le_of_ble_eq_true rfl) ?_
  refine rw_aload_n C dX3_init_4 rfl 0 rfl ?_
  refine rw_iload_n C dX3_init_5 rfl 1 rfl ?_
  refine rw_iload_n C dX3_init_6 rfl 2 rfl ?_
  refine rw_multi (N := 20) (L := 8) (K := 6) C CC dX3_init_7 ⟨mw_67, mw_24⟩ (by decide) (by decide) (by decide) (by decide) (by decide) (by decide +kernel) (by decide +kernel) rfl rfl (by rw [hR]; decide) (fun M1 => ?_)
  refine rw_putR (k0 := 19) (k1 := 20) C CC dX3_init_11 fl_X3_9 (fun T n C h => by cases h; rfl) (fun T m D h => by cases h; rfl) rfl (fun _ => rfl) (fun _ => rfl) (by decide) sh_19 (by decide) (fun rf1 => ?_)
  exact rw_vretC C dX3_init_14
def fc_X3_29 (M : pv_M) (rf : pv_F) : Option (pv_M × pv_F) := pv_nm (pv_rows M 30 6) (fun M1 => pv_nm (pv_u rf 29 0 (some 30)) (fun rf1 => some (M1, rf1)))
set_option maxHeartbeats 4000000 in
set_option maxRecDepth 100000 in
theorem kc_X3_29 (l : Launch) (κ : pv_K) (M : pv_M) (rf : pv_F) : pv_MtC l yX3_init cX3_init 3 1 κ 30 [.ref (κ.1 + 29), .int 6, .int 3] M rf 37 7 24 (fc_X3_29 M rf) := by
  refine pv_enterC (by decide +kernel) rfl (Nat.le_of_ble_eq_true rfl) (fun g hl hR C CC => ?_)
  have C : pv_Ok g κ 3 cX3_init RX3 none := C
  show pv_R g κ 30 rf 3 0 0 (pv_QC g κ 37 7 24) 0 [(0, .ref (κ.1 + 29)), (1, .int 6), (2, .int 3)] [] M (fc_X3_29 M rf)
  unfold fc_X3_29
  refine rw_aload_n C dX3_init_0 rfl 0 rfl ?_
  refine rw_objI C dX3_init_1 ⟨mw_66, mw_10, mw_11⟩ (by rw [hR]; decide) (Nat.le_of_ble_eq_true rfl) ?_
  refine rw_aload_n C dX3_init_4 rfl 0 rfl ?_
  refine rw_iload_n C dX3_init_5 rfl 1 rfl ?_
  refine rw_iload_n C dX3_init_6 rfl 2 rfl ?_
  refine rw_multi (N := 30) (L := 6) (K := 3) C CC dX3_init_7 ⟨mw_67, mw_24⟩ (by decide) (by decide) (by decide) (by decide) (by decide) (by decide +kernel) (by decide +kernel) rfl rfl (by rw [hR]; decide) (fun M1 => ?_)
  refine rw_putR (k0 := 29) (k1 := 30) C CC dX3_init_11 fl_X3_9 (fun T n C h => by cases h; rfl) (fun T m D h => by cases h; rfl) rfl (fun _ => rfl) (fun _ => rfl) (by decide) sh_29 (by decide) (fun rf1 => ?_)
  exact rw_vretC C dX3_init_14
def fc_X2_39 (M : pv_M) (rf : pv_F) : Option (pv_M × pv_F) := pv_nm (pv_rows M 40 10) (fun M1 => pv_nm (pv_u rf 39 3 (some 40)) (fun rf1 => pv_nm (pv_row M1.1 51 (fun _ => 0), M1.2) (fun M2 => pv_nm (pv_u rf1 39 4 (some 51)) (fun rf2 => pv_nm (pv_row M2.1 52 (fun _ => 0), M2.2) (fun M3 => pv_nm (pv_u rf2 39 5 (some 52)) (fun rf3 => some (M3, rf3)))))))
set_option maxHeartbeats 4000000 in
set_option maxRecDepth 100000 in
theorem kc_X2_39 (l : Launch) (κ : pv_K) (M : pv_M) (rf : pv_F) : pv_MtC l yX2_init cX2_init 1 1 κ 40 [.ref (κ.1 + 39)] M rf 53 13 146 (fc_X2_39 M rf) := by
  refine pv_enterC (by decide +kernel) rfl (Nat.le_of_ble_eq_true rfl) (fun g hl hR C CC => ?_)
  have C : pv_Ok g κ 1 cX2_init RX2 none := C
  show pv_R g κ 40 rf 1 0 0 (pv_QC g κ 53 13 146) 0 [(0, .ref (κ.1 + 39))] [] M (fc_X2_39 M rf)
  unfold fc_X2_39
  refine rw_aload_n C dX2_init_0 rfl 0 rfl ?_
  refine rw_objI C dX2_init_1 ⟨mw_71, mw_10, mw_11⟩ (by rw [hR]; decide) (Nat.le_of_ble_eq_true rfl) ?_
  refine rw_aload_n C dX2_init_4 rfl 0 rfl ?_
  refine rw_bipush (c := 10) C dX2_init_5 (by decide) ?_
  refine rw_bipush (c := 12) C dX2_init_7 (by decide) ?_
  refine rw_multi (N := 40) (L := 10) (K := 12) C CC dX2_init_9 ⟨mw_72, mw_24⟩ (by decide) (by decide) (by decide) (by decide) (by decide) (by decide +kernel) (by decide +kernel) rfl rfl (by rw [hR]; decide) (fun M1 => ?_)
  refine rw_putR (k0 := 39) (k1 := 40) C CC dX2_init_13 fl_X2_11 (fun T n C h => by cases h; rfl) (fun T m D h => by cases h; rfl) rfl (fun _ => rfl) (fun _ => rfl) (by decide) sh_39 (by decide) (fun rf1 => ?_)
  refine rw_aload_n C dX2_init_16 rfl 0 rfl ?_
  refine rw_bipush (c := 8) C dX2_init_17 (by decide) ?_
  refine rw_newI (N := 51) (L := 8) C dX2_init_19 mw_24 (by decide) (by decide) (by decide) (by decide +kernel) rfl rfl (by rw [hR]; decide) (fun M2 => ?_)
  refine rw_putR (k0 := 39) (k1 := 51) C CC dX2_init_21 fl_X2_16 (fun T n C h => by cases h; rfl) (fun T m D h => by cases h; rfl) rfl (fun _ => rfl) (fun _ => rfl) (by decide) sh_39 (by decide) (fun rf2 => ?_)
  refine rw_aload_n C dX2_init_24 rfl 0 rfl ?_
  refine rw_bipush (c := 8) C dX2_init_25 (by decide) ?_
  refine rw_newI (N := 52) (L := 8) C dX2_init_27 mw_24 (by decide) (by decide) (by decide) (by decide +kernel) rfl rfl (by rw [hR]; decide) (fun M3 => ?_)
  refine rw_putR (k0 := 39) (k1 := 52) C CC dX2_init_29 fl_X2_20 (fun T n C h => by cases h; rfl) (fun T m D h => by cases h; rfl) rfl (fun _ => rfl) (fun _ => rfl) (by decide) sh_39 (by decide) (fun rf3 => ?_)
  exact rw_vretC C dX2_init_32
def fc_X1_53 (M : pv_M) (rf : pv_F) : Option (pv_M × pv_F) := pv_nm (pv_rows M 54 10) (fun M1 => pv_nm (pv_u rf 53 2 (some 54)) (fun rf1 => pv_nm (pv_rows M1 65 10) (fun M2 => pv_nm (pv_u rf1 53 3 (some 65)) (fun rf2 => pv_nm (pv_rows M2 76 10) (fun M3 => pv_nm (pv_u rf2 53 4 (some 76)) (fun rf3 => pv_nm (pv_row M3.1 87 (fun _ => 0), M3.2) (fun M4 => pv_nm (pv_u rf3 53 5 (some 87)) (fun rf4 => pv_nm (pv_u rf4 53 0 (some 39)) (fun rf5 => pv_nm (pv_u M4.1 53 1 0, M4.2) (fun M5 => some (M5, rf5)))))))))))
set_option maxHeartbeats 4000000 in
set_option maxRecDepth 100000 in
theorem kc_X1_53 (l : Launch) (κ : pv_K) (M : pv_M) (rf : pv_F) : pv_MtC l yX1_init cX1_init 3 1 κ 54 [.ref (κ.1 + 53), .ref (κ.1 + 39), .int 0] M rf 88 34 214 (fc_X1_53 M rf) := by
  refine pv_enterC (by decide +kernel) rfl (Nat.le_of_ble_eq_true rfl) (fun g hl hR C CC => ?_)
  have C : pv_Ok g κ 3 cX1_init RX1 none := C
  show pv_R g κ 54 rf 3 0 0 (pv_QC g κ 88 34 214) 0 [(0, .ref (κ.1 + 53)), (1, .ref (κ.1 + 39)), (2, .int 0)] [] M (fc_X1_53 M rf)
  unfold fc_X1_53
  refine rw_aload_n C dX1_init_0 rfl 0 rfl ?_
  refine rw_objI C dX1_init_1 ⟨mw_79, mw_10, mw_11⟩ (by rw [hR]; decide) (Nat.le_of_ble_eq_true rfl) ?_
  refine rw_aload_n C dX1_init_4 rfl 0 rfl ?_
  refine rw_bipush (c := 10) C dX1_init_5 (by decide) ?_
  refine rw_iconst (c := 3) C dX1_init_7 ci_3 ?_
  refine rw_multi (N := 54) (L := 10) (K := 3) C CC dX1_init_8 ⟨mw_80, mw_24⟩ (by decide) (by decide) (by decide) (by decide) (by decide) (by decide +kernel) (by decide +kernel) rfl rfl (by rw [hR]; decide) (fun M1 => ?_)
  refine rw_putR (k0 := 53) (k1 := 54) C CC dX1_init_12 fl_X1_11 (fun T n C h => by cases h; rfl) (fun T m D h => by cases h; rfl) rfl (fun _ => rfl) (fun _ => rfl) (by decide) sh_53 (by decide) (fun rf1 => ?_)
  refine rw_aload_n C dX1_init_15 rfl 0 rfl ?_
  refine rw_bipush (c := 10) C dX1_init_16 (by decide) ?_
  refine rw_iconst (c := 3) C dX1_init_18 ci_3 ?_
  refine rw_multi (N := 65) (L := 10) (K := 3) C CC dX1_init_19 ⟨mw_80, mw_24⟩ (by decide) (by decide) (by decide) (by decide) (by decide) (by decide +kernel) (by decide +kernel) rfl rfl (by rw [hR]; decide) (fun M2 => ?_)
  refine rw_putR (k0 := 53) (k1 := 65) C CC dX1_init_23 fl_X1_16 (fun T n C h => by cases h; rfl) (fun T m D h => by cases h; rfl) rfl (fun _ => rfl) (fun _ => rfl) (by decide) sh_53 (by decide) (fun rf2 => ?_)
  refine rw_aload_n C dX1_init_26 rfl 0 rfl ?_
  refine rw_bipush (c := 10) C dX1_init_27 (by decide) ?_
  refine rw_bipush (c := 12) C dX1_init_29 (by decide) ?_
  refine rw_multi (N := 76) (L := 10) (K := 12) C CC dX1_init_31 ⟨mw_80, mw_24⟩ (by decide) (by decide) (by decide) (by decide) (by decide) (by decide +kernel) (by decide +kernel) rfl rfl (by rw [hR]; decide) (fun M3 => ?_)
  refine rw_putR (k0 := 53) (k1 := 76) C CC dX1_init_35 fl_X1_19 (fun T n C h => by cases h; rfl) (fun T m D h => by cases h; rfl) rfl (fun _ => rfl) (fun _ => rfl) (by decide) sh_53 (by decide) (fun rf3 => ?_)
  refine rw_aload_n C dX1_init_38 rfl 0 rfl ?_
  refine rw_iconst (c := 4) C dX1_init_39 ci_4 ?_
  refine rw_newI (N := 87) (L := 4) C dX1_init_40 mw_24 (by decide) (by decide) (by decide) (by decide +kernel) rfl rfl (by rw [hR]; decide) (fun M4 => ?_)
  refine rw_putR (k0 := 53) (k1 := 87) C CC dX1_init_42 fl_X1_22 (fun T n C h => by cases h; rfl) (fun T m D h => by cases h; rfl) rfl (fun _ => rfl) (fun _ => rfl) (by decide) sh_53 (by decide) (fun rf4 => ?_)
  refine rw_aload_n C dX1_init_45 rfl 0 rfl ?_
  refine rw_aload_n C dX1_init_46 rfl 1 rfl ?_
  refine rw_putR (k0 := 53) (k1 := 39) C CC dX1_init_47 fl_X1_26 (fun T n C h => by cases h; rfl) (fun T m D h => by cases h; rfl) rfl (fun _ => rfl) (fun _ => rfl) (by decide) sh_53 (by decide) (fun rf5 => ?_)
  refine rw_aload_n C dX1_init_50 rfl 0 rfl ?_
  refine rw_iload_n C dX1_init_51 rfl 2 rfl ?_
  refine rw_putFI (k0 := 53) C CC dX1_init_52 fl_X1_30 (fun T n C h => by cases h; rfl) (fun T m D h => by cases h; rfl) rfl rfl rfl (by decide) sh_53 (by decide) (fun M5 => ?_)
  exact rw_vretC C dX1_init_55
def fc_X1_88 (M : pv_M) (rf : pv_F) : Option (pv_M × pv_F) := pv_nm (pv_rows M 89 10) (fun M1 => pv_nm (pv_u rf 88 2 (some 89)) (fun rf1 => pv_nm (pv_rows M1 100 10) (fun M2 => pv_nm (pv_u rf1 88 3 (some 100)) (fun rf2 => pv_nm (pv_rows M2 111 10) (fun M3 => pv_nm (pv_u rf2 88 4 (some 111)) (fun rf3 => pv_nm (pv_row M3.1 122 (fun _ => 0), M3.2) (fun M4 => pv_nm (pv_u rf3 88 5 (some 122)) (fun rf4 => pv_nm (pv_u rf4 88 0 (some 39)) (fun rf5 => pv_nm (pv_u M4.1 88 1 1, M4.2) (fun M5 => some (M5, rf5)))))))))))
set_option maxHeartbeats 4000000 in
set_option maxRecDepth 100000 in
theorem kc_X1_88 (l : Launch) (κ : pv_K) (M : pv_M) (rf : pv_F) : pv_MtC l yX1_init cX1_init 3 1 κ 89 [.ref (κ.1 + 88), .ref (κ.1 + 39), .int 1] M rf 123 34 214 (fc_X1_88 M rf) := by
  refine pv_enterC (by decide +kernel) rfl (Nat.le_of_ble_eq_true rfl) (fun g hl hR C CC => ?_)
  have C : pv_Ok g κ 3 cX1_init RX1 none := C
  show pv_R g κ 89 rf 3 0 0 (pv_QC g κ 123 34 214) 0 [(0, .ref (κ.1 + 88)), (1, .ref (κ.1 + 39)), (2, .int 1)] [] M (fc_X1_88 M rf)
  unfold fc_X1_88
  refine rw_aload_n C dX1_init_0 rfl 0 rfl ?_
  refine rw_objI C dX1_init_1 ⟨mw_79, mw_10, mw_11⟩ (by rw [hR]; decide) (Nat.le_of_ble_eq_true rfl) ?_
  refine rw_aload_n C dX1_init_4 rfl 0 rfl ?_
  refine rw_bipush (c := 10) C dX1_init_5 (by decide) ?_
  refine rw_iconst (c := 3) C dX1_init_7 ci_3 ?_
  refine rw_multi (N := 89) (L := 10) (K := 3) C CC dX1_init_8 ⟨mw_80, mw_24⟩ (by decide) (by decide) (by decide) (by decide) (by decide) (by decide +kernel) (by decide +kernel) rfl rfl (by rw [hR]; decide) (fun M1 => ?_)
  refine rw_putR (k0 := 88) (k1 := 89) C CC dX1_init_12 fl_X1_11 (fun T n C h => by cases h; rfl) (fun T m D h => by cases h; rfl) rfl (fun _ => rfl) (fun _ => rfl) (by decide) sh_88 (by decide) (fun rf1 => ?_)
  refine rw_aload_n C dX1_init_15 rfl 0 rfl ?_
  refine rw_bipush (c := 10) C dX1_init_16 (by decide) ?_
  refine rw_iconst (c := 3) C dX1_init_18 ci_3 ?_
  refine rw_multi (N := 100) (L := 10) (K := 3) C CC dX1_init_19 ⟨mw_80, mw_24⟩ (by decide) (by decide) (by decide) (by decide) (by decide) (by decide +kernel) (by decide +kernel) rfl rfl (by rw [hR]; decide) (fun M2 => ?_)
  refine rw_putR (k0 := 88) (k1 := 100) C CC dX1_init_23 fl_X1_16 (fun T n C h => by cases h; rfl) (fun T m D h => by cases h; rfl) rfl (fun _ => rfl) (fun _ => rfl) (by decide) sh_88 (by decide) (fun rf2 => ?_)
  refine rw_aload_n C dX1_init_26 rfl 0 rfl ?_
  refine rw_bipush (c := 10) C dX1_init_27 (by decide) ?_
  refine rw_bipush (c := 12) C dX1_init_29 (by decide) ?_
  refine rw_multi (N := 111) (L := 10) (K := 12) C CC dX1_init_31 ⟨mw_80, mw_24⟩ (by decide) (by decide) (by decide) (by decide) (by decide) (by decide +kernel) (by decide +kernel) rfl rfl (by rw [hR]; decide) (fun M3 => ?_)
  refine rw_putR (k0 := 88) (k1 := 111) C CC dX1_init_35 fl_X1_19 (fun T n C h => by cases h; rfl) (fun T m D h => by cases h; rfl) rfl (fun _ => rfl) (fun _ => rfl) (by decide) sh_88 (by decide) (fun rf3 => ?_)
  refine rw_aload_n C dX1_init_38 rfl 0 rfl ?_
  refine rw_iconst (c := 4) C dX1_init_39 ci_4 ?_
  refine rw_newI (N := 122) (L := 4) C dX1_init_40 mw_24 (by decide) (by decide) (by decide) (by decide +kernel) rfl rfl (by rw [hR]; decide) (fun M4 => ?_)
  refine rw_putR (k0 := 88) (k1 := 122) C CC dX1_init_42 fl_X1_22 (fun T n C h => by cases h; rfl) (fun T m D h => by cases h; rfl) rfl (fun _ => rfl) (fun _ => rfl) (by decide) sh_88 (by decide) (fun rf4 => ?_)
  refine rw_aload_n C dX1_init_45 rfl 0 rfl ?_
  refine rw_aload_n C dX1_init_46 rfl 1 rfl ?_
  refine rw_putR (k0 := 88) (k1 := 39) C CC dX1_init_47 fl_X1_26 (fun T n C h => by cases h; rfl) (fun T m D h => by cases h; rfl) rfl (fun _ => rfl) (fun _ => rfl) (by decide) sh_88 (by decide) (fun rf5 => ?_)
  refine rw_aload_n C dX1_init_50 rfl 0 rfl ?_
  refine rw_iload_n C dX1_init_51 rfl 2 rfl ?_
  refine rw_putFI (k0 := 88) C CC dX1_init_52 fl_X1_30 (fun T n C h => by cases h; rfl) (fun T m D h => by cases h; rfl) rfl rfl rfl (by decide) sh_88 (by decide) (fun M5 => ?_)
  exact rw_vretC C dX1_init_55
def fc_X1_123 (M : pv_M) (rf : pv_F) : Option (pv_M × pv_F) := pv_nm (pv_rows M 124 10) (fun M1 => pv_nm (pv_u rf 123 2 (some 124)) (fun rf1 => pv_nm (pv_rows M1 135 10) (fun M2 => pv_nm (pv_u rf1 123 3 (some 135)) (fun rf2 => pv_nm (pv_rows M2 146 10) (fun M3 => pv_nm (pv_u rf2 123 4 (some 146)) (fun rf3 => pv_nm (pv_row M3.1 157 (fun _ => 0), M3.2) (fun M4 => pv_nm (pv_u rf3 123 5 (some 157)) (fun rf4 => pv_nm (pv_u rf4 123 0 (some 39)) (fun rf5 => pv_nm (pv_u M4.1 123 1 2, M4.2) (fun M5 => some (M5, rf5)))))))))))
set_option maxHeartbeats 4000000 in
set_option maxRecDepth 100000 in
theorem kc_X1_123 (l : Launch) (κ : pv_K) (M : pv_M) (rf : pv_F) : pv_MtC l yX1_init cX1_init 3 1 κ 124 [.ref (κ.1 + 123), .ref (κ.1 + 39), .int 2] M rf 158 34 214 (fc_X1_123 M rf) := by
  refine pv_enterC (by decide +kernel) rfl (Nat.le_of_ble_eq_true rfl) (fun g hl hR C CC => ?_)
  have C : pv_Ok g κ 3 cX1_init RX1 none := C
  show pv_R g κ 124 rf 3 0 0 (pv_QC g κ 158 34 214) 0 [(0, .ref (κ.1 + 123)), (1, .ref (κ.1 + 39)), (2, .int 2)] [] M (fc_X1_123 M rf)
  unfold fc_X1_123
  refine rw_aload_n C dX1_init_0 rfl 0 rfl ?_
  refine rw_objI C dX1_init_1 ⟨mw_79, mw_10, mw_11⟩ (by rw [hR]; decide) (Nat.le_of_ble_eq_true rfl) ?_
  refine rw_aload_n C dX1_init_4 rfl 0 rfl ?_
  refine rw_bipush (c := 10) C dX1_init_5 (by decide) ?_
  refine rw_iconst (c := 3) C dX1_init_7 ci_3 ?_
  refine rw_multi (N := 124) (L := 10) (K := 3) C CC dX1_init_8 ⟨mw_80, mw_24⟩ (by decide) (by decide) (by decide) (by decide) (by decide) (by decide +kernel) (by decide +kernel) rfl rfl (by rw [hR]; decide) (fun M1 => ?_)
  refine rw_putR (k0 := 123) (k1 := 124) C CC dX1_init_12 fl_X1_11 (fun T n C h => by cases h; rfl) (fun T m D h => by cases h; rfl) rfl (fun _ => rfl) (fun _ => rfl) (by decide) sh_123 (by decide) (fun rf1 => ?_)
  refine rw_aload_n C dX1_init_15 rfl 0 rfl ?_
  refine rw_bipush (c := 10) C dX1_init_16 (by decide) ?_
  refine rw_iconst (c := 3) C dX1_init_18 ci_3 ?_
  refine rw_multi (N := 135) (L := 10) (K := 3) C CC dX1_init_19 ⟨mw_80, mw_24⟩ (by decide) (by decide) (by decide) (by decide) (by decide) (by decide +kernel) (by decide +kernel) rfl rfl (by rw [hR]; decide) (fun M2 => ?_)
  refine rw_putR (k0 := 123) (k1 := 135) C CC dX1_init_23 fl_X1_16 (fun T n C h => by cases h; rfl) (fun T m D h => by cases h; rfl) rfl (fun _ => rfl) (fun _ => rfl) (by decide) sh_123 (by decide) (fun rf2 => ?_)
  refine rw_aload_n C dX1_init_26 rfl 0 rfl ?_
  refine rw_bipush (c := 10) C dX1_init_27 (by decide) ?_
  refine rw_bipush (c := 12) C dX1_init_29 (by decide) ?_
  refine rw_multi (N := 146) (L := 10) (K := 12) C CC dX1_init_31 ⟨mw_80, mw_24⟩ (by decide) (by decide) (by decide) (by decide) (by decide) (by decide +kernel) (by decide +kernel) rfl rfl (by rw [hR]; decide) (fun M3 => ?_)
  refine rw_putR (k0 := 123) (k1 := 146) C CC dX1_init_35 fl_X1_19 (fun T n C h => by cases h; rfl) (fun T m D h => by cases h; rfl) rfl (fun _ => rfl) (fun _ => rfl) (by decide) sh_123 (by decide) (fun rf3 => ?_)
  refine rw_aload_n C dX1_init_38 rfl 0 rfl ?_
  refine rw_iconst (c := 4) C dX1_init_39 ci_4 ?_
  refine rw_newI (N := 157) (L := 4) C dX1_init_40 mw_24 (by decide) (by decide) (by decide) (by decide +kernel) rfl rfl (by rw [hR]; decide) (fun M4 => ?_)
  refine rw_putR (k0 := 123) (k1 := 157) C CC dX1_init_42 fl_X1_22 (fun T n C h => by cases h; rfl) (fun T m D h => by cases h; rfl) rfl (fun _ => rfl) (fun _ => rfl) (by decide) sh_123 (by decide) (fun rf4 => ?_)
  refine rw_aload_n C dX1_init_45 rfl 0 rfl ?_
  refine rw_aload_n C dX1_init_46 rfl 1 rfl ?_
  refine rw_putR (k0 := 123) (k1 := 39) C CC dX1_init_47 fl_X1_26 (fun T n C h => by cases h; rfl) (fun T m D h => by cases h; rfl) rfl (fun _ => rfl) (fun _ => rfl) (by decide) sh_123 (by decide) (fun rf5 => ?_)
  refine rw_aload_n C dX1_init_50 rfl 0 rfl ?_
  refine rw_iload_n C dX1_init_51 rfl 2 rfl ?_
  refine rw_putFI (k0 := 123) C CC dX1_init_52 fl_X1_30 (fun T n C h => by cases h; rfl) (fun T m D h => by cases h; rfl) rfl rfl rfl (by decide) sh_123 (by decide) (fun M5 => ?_)
  exact rw_vretC C dX1_init_55
def fc_X0_158 (M : pv_M) (rf : pv_F) : Option (pv_M × pv_F) := pv_nm (pv_row M.1 159 (fun _ => 0), M.2) (fun M1 => pv_nm (pv_u rf 158 1 (some 159)) (fun rf1 => pv_nm (pv_row M1.1 160 (fun _ => 0), M1.2) (fun M2 => pv_nm (pv_u rf1 158 2 (some 160)) (fun rf2 => pv_nm (pv_row M2.1 161 (fun _ => 0), M2.2) (fun M3 => pv_nm (pv_u rf2 158 3 (some 161)) (fun rf3 => pv_nm (pv_rows M3 162 6) (fun M4 => pv_nm (pv_u rf3 158 4 (some 162)) (fun rf4 => pv_nm (pv_row M4.1 169 (fun _ => 0), M4.2) (fun M5 => pv_nm (pv_u rf4 158 5 (some 169)) (fun rf5 => pv_nm (pv_row M5.1 170 (fun _ => 0), M5.2) (fun M6 => pv_nm (pv_u rf5 158 6 (some 170)) (fun rf6 => pv_nm (pv_row M6.1 171 (fun _ => 0), M6.2) (fun M7 => pv_nm (pv_u rf6 158 7 (some 171)) (fun rf7 => pv_nm (pv_row M7.1 172 (fun _ => 0), M7.2) (fun M8 => pv_nm (pv_u rf7 158 8 (some 172)) (fun rf8 => pv_nm (pv_row M8.1 173 (fun _ => 0), M8.2) (fun M9 => pv_nm (pv_u rf8 158 9 (some 173)) (fun rf9 => pv_nm (pv_rows M9 174 4) (fun M10 => pv_nm (pv_u rf9 158 10 (some 174)) (fun rf10 => pv_nm (pv_u rf10 158 0 (some 39)) (fun rf11 => some (M10, rf11))))))))))))))))))))))
set_option maxHeartbeats 4000000 in
set_option maxRecDepth 100000 in
theorem kc_X0_158 (l : Launch) (κ : pv_K) (M : pv_M) (rf : pv_F) : pv_MtC l yX0_init cX0_init 2 1 κ 159 [.ref (κ.1 + 158), .ref (κ.1 + 39)] M rf 179 20 188 (fc_X0_158 M rf) := by
  refine pv_enterC (by decide +kernel) rfl (Nat.le_of_ble_eq_true rfl) (fun g hl hR C CC => ?_)
  have C : pv_Ok g κ 2 cX0_init RX0 none := C
  show pv_R g κ 159 rf 2 0 0 (pv_QC g κ 179 20 188) 0 [(0, .ref (κ.1 + 158)), (1, .ref (κ.1 + 39))] [] M (fc_X0_158 M rf)
  unfold fc_X0_158
  refine rw_aload_n C dX0_init_0 rfl 0 rfl ?_
  refine rw_objI C dX0_init_1 ⟨mw_90, mw_10, mw_11⟩ (by rw [hR]; decide) (Nat.le_of_ble_eq_true rfl) ?_
  refine rw_aload_n C dX0_init_4 rfl 0 rfl ?_
  refine rw_iconst (c := 4) C dX0_init_5 ci_4 ?_
  refine rw_newI (N := 159) (L := 4) C dX0_init_6 mw_24 (by decide) (by decide) (by decide) (by decide +kernel) rfl rfl (by rw [hR]; decide) (fun M1 => ?_)
  refine rw_putR (k0 := 158) (k1 := 159) C CC dX0_init_8 fl_X0_9 (fun T n C h => by cases h; rfl) (fun T m D h => by cases h; rfl) rfl (fun _ => rfl) (fun _ => rfl) (by decide) sh_158 (by decide) (fun rf1 => ?_)
  refine rw_aload_n C dX0_init_11 rfl 0 rfl ?_
  refine rw_iconst (c := 4) C dX0_init_12 ci_4 ?_
  refine rw_newI (N := 160) (L := 4) C dX0_init_13 mw_24 (by decide) (by decide) (by decide) (by decide +kernel) rfl rfl (by rw [hR]; decide) (fun M2 => ?_)
  refine rw_putR (k0 := 158) (k1 := 160) C CC dX0_init_15 fl_X0_15 (fun T n C h => by cases h; rfl) (fun T m D h => by cases h; rfl) rfl (fun _ => rfl) (fun _ => rfl) (by decide) sh_158 (by decide) (fun rf2 => ?_)
  refine rw_aload_n C dX0_init_18 rfl 0 rfl ?_
  refine rw_iconst (c := 4) C dX0_init_19 ci_4 ?_
  refine rw_newI (N := 161) (L := 4) C dX0_init_20 mw_24 (by decide) (by decide) (by decide) (by decide +kernel) rfl rfl (by rw [hR]; decide) (fun M3 => ?_)
  refine rw_putR (k0 := 158) (k1 := 161) C CC dX0_init_22 fl_X0_18 (fun T n C h => by cases h; rfl) (fun T m D h => by cases h; rfl) rfl (fun _ => rfl) (fun _ => rfl) (by decide) sh_158 (by decide) (fun rf3 => ?_)
  refine rw_aload_n C dX0_init_25 rfl 0 rfl ?_
  refine rw_bipush (c := 6) C dX0_init_26 (by decide) ?_
  refine rw_iconst (c := 4) C dX0_init_28 ci_4 ?_
  refine rw_multi (N := 162) (L := 6) (K := 4) C CC dX0_init_29 ⟨mw_94, mw_24⟩ (by decide) (by decide) (by decide) (by decide) (by decide) (by decide +kernel) (by decide +kernel) rfl rfl (by rw [hR]; decide) (fun M4 => ?_)
  refine rw_putR (k0 := 158) (k1 := 162) C CC dX0_init_33 fl_X0_23 (fun T n C h => by cases h; rfl) (fun T m D h => by cases h; rfl) rfl (fun _ => rfl) (fun _ => rfl) (by decide) sh_158 (by decide) (fun rf4 => ?_)
  refine rw_aload_n C dX0_init_36 rfl 0 rfl ?_
  refine rw_bipush (c := 6) C dX0_init_37 (by decide) ?_
  refine rw_newI (N := 169) (L := 6) C dX0_init_39 mw_24 (by decide) (by decide) (by decide) (by decide +kernel) rfl rfl (by rw [hR]; decide) (fun M5 => ?_)
  refine rw_putR (k0 := 158) (k1 := 169) C CC dX0_init_41 fl_X0_26 (fun T n C h => by cases h; rfl) (fun T m D h => by cases h; rfl) rfl (fun _ => rfl) (fun _ => rfl) (by decide) sh_158 (by decide) (fun rf5 => ?_)
  refine rw_aload_n C dX0_init_44 rfl 0 rfl ?_
  refine rw_bipush (c := 108) C dX0_init_45 (by decide) ?_
  refine rw_newI (N := 170) (L := 108) C dX0_init_47 mw_24 (by decide) (by decide) (by decide) (by decide +kernel) rfl rfl (by rw [hR]; decide) (fun M6 => ?_)
  refine rw_putR (k0 := 158) (k1 := 170) C CC dX0_init_49 fl_X0_29 (fun T n C h => by cases h; rfl) (fun T m D h => by cases h; rfl) rfl (fun _ => rfl) (fun _ => rfl) (by decide) sh_158 (by decide) (fun rf6 => ?_)
  refine rw_aload_n C dX0_init_52 rfl 0 rfl ?_
  refine rw_iconst (c := 4) C dX0_init_53 ci_4 ?_
  refine rw_newI (N := 171) (L := 4) C dX0_init_54 mw_24 (by decide) (by decide) (by decide) (by decide +kernel) rfl rfl (by rw [hR]; decide) (fun M7 => ?_)
  refine rw_putR (k0 := 158) (k1 := 171) C CC dX0_init_56 fl_X0_32 (fun T n C h => by cases h; rfl) (fun T m D h => by cases h; rfl) rfl (fun _ => rfl) (fun _ => rfl) (by decide) sh_158 (by decide) (fun rf7 => ?_)
  refine rw_aload_n C dX0_init_59 rfl 0 rfl ?_
  refine rw_iconst (c := 4) C dX0_init_60 ci_4 ?_
  refine rw_newI (N := 172) (L := 4) C dX0_init_61 mw_24 (by decide) (by decide) (by decide) (by decide +kernel) rfl rfl (by rw [hR]; decide) (fun M8 => ?_)
  refine rw_putR (k0 := 158) (k1 := 172) C CC dX0_init_63 fl_X0_35 (fun T n C h => by cases h; rfl) (fun T m D h => by cases h; rfl) rfl (fun _ => rfl) (fun _ => rfl) (by decide) sh_158 (by decide) (fun rf8 => ?_)
  refine rw_aload_n C dX0_init_66 rfl 0 rfl ?_
  refine rw_iconst (c := 4) C dX0_init_67 ci_4 ?_
  refine rw_newI (N := 173) (L := 4) C dX0_init_68 mw_24 (by decide) (by decide) (by decide) (by decide +kernel) rfl rfl (by rw [hR]; decide) (fun M9 => ?_)
  refine rw_putR (k0 := 158) (k1 := 173) C CC dX0_init_70 fl_X0_38 (fun T n C h => by cases h; rfl) (fun T m D h => by cases h; rfl) rfl (fun _ => rfl) (fun _ => rfl) (by decide) sh_158 (by decide) (fun rf9 => ?_)
  refine rw_aload_n C dX0_init_73 rfl 0 rfl ?_
  refine rw_iconst (c := 4) C dX0_init_74 ci_4 ?_
  refine rw_iconst (c := 4) C dX0_init_75 ci_4 ?_
  refine rw_multi (N := 174) (L := 4) (K := 4) C CC dX0_init_76 ⟨mw_94, mw_24⟩ (by decide) (by decide) (by decide) (by decide) (by decide) (by decide +kernel) (by decide +kernel) rfl rfl (by rw [hR]; decide) (fun M10 => ?_)
  refine rw_putR (k0 := 158) (k1 := 174) C CC dX0_init_80 fl_X0_41 (fun T n C h => by cases h; rfl) (fun T m D h => by cases h; rfl) rfl (fun _ => rfl) (fun _ => rfl) (by decide) sh_158 (by decide) (fun rf10 => ?_)
  refine rw_aload_n C dX0_init_83 rfl 0 rfl ?_
  refine rw_aload_n C dX0_init_84 rfl 1 rfl ?_
  refine rw_putR (k0 := 158) (k1 := 39) C CC dX0_init_85 fl_X0_44 (fun T n C h => by cases h; rfl) (fun T m D h => by cases h; rfl) rfl (fun _ => rfl) (fun _ => rfl) (by decide) sh_158 (by decide) (fun rf11 => ?_)
  exact rw_vretC C dX0_init_88
def fc_X7_179 (M : pv_M) (rf : pv_F) : Option (pv_M × pv_F) := pv_nm (pv_row M.1 180 (fun _ => 0), M.2) (fun M1 => pv_nm (pv_u rf 179 0 (some 180)) (fun rf1 => pv_nm (M1.1, pv_row M1.2 181 (fun _ => 0)) (fun M2 => pv_nm (pv_u rf1 179 1 (some 181)) (fun rf2 => pv_nm (M2.1, pv_row M2.2 182 (fun _ => 0)) (fun M3 => pv_nm (pv_u rf2 179 2 (some 182)) (fun rf3 => some (M3, rf3)))))))
set_option maxHeartbeats 4000000 in
set_option maxRecDepth 100000 in
theorem kc_X7_179 (l : Launch) (κ : pv_K) (M : pv_M) (rf : pv_F) : pv_MtC l yX7_init cX7_init 1 1 κ 180 [.ref (κ.1 + 179)] M rf 183 3 18 (fc_X7_179 M rf) := by
  refine pv_enterC (by decide +kernel) rfl (Nat.le_of_ble_eq_true rfl) (fun g hl hR C CC => ?_)
  have C : pv_Ok g κ 1 cX7_init RX7 none := C
  show pv_R g κ 180 rf 1 0 0 (pv_QC g κ 183 3 18) 0 [(0, .ref (κ.1 + 179))] [] M (fc_X7_179 M rf)
  unfold fc_X7_179
  refine rw_aload_n C dX7_init_0 rfl 0 rfl ?_
  refine rw_objI C dX7_init_1 ⟨mw_105, mw_10, mw_11⟩ (by rw [hR]; decide) (Nat.le_of_ble_eq_true rfl) ?_
  refine rw_aload_n C dX7_init_4 rfl 0 rfl ?_
  refine rw_bipush (c := 6) C dX7_init_5 (by decide) ?_
  refine rw_newI (N := 180) (L := 6) C dX7_init_7 mw_24 (by decide) (by decide) (by decide) (by decide +kernel) rfl rfl (by rw [hR]; decide) (fun M1 => ?_)
  refine rw_putR (k0 := 179) (k1 := 180) C CC dX7_init_9 fl_X7_11 (fun T n C h => by cases h; rfl) (fun T m D h => by cases h; rfl) rfl (fun _ => rfl) (fun _ => rfl) (by decide) sh_179 (by decide) (fun rf1 => ?_)
  refine rw_aload_n C dX7_init_12 rfl 0 rfl ?_
  refine rw_bipush (c := 6) C dX7_init_13 (by decide) ?_
  refine rw_newL (N := 181) (L := 6) C dX7_init_15 mw_107 (by decide) (by decide) (by decide) (by decide +kernel) rfl rfl (by rw [hR]; decide) (fun M2 => ?_)
  refine rw_putR (k0 := 179) (k1 := 181) C CC dX7_init_17 fl_X7_15 (fun T n C h => by cases h; rfl) (fun T m D h => by cases h; rfl) rfl (fun _ => rfl) (fun _ => rfl) (by decide) sh_179 (by decide) (fun rf2 => ?_)
  refine rw_aload_n C dX7_init_20 rfl 0 rfl ?_
  refine rw_bipush (c := 6) C dX7_init_21 (by decide) ?_
  refine rw_newL (N := 182) (L := 6) C dX7_init_23 mw_107 (by decide) (by decide) (by decide) (by decide +kernel) rfl rfl (by rw [hR]; decide) (fun M3 => ?_)
  refine rw_putR (k0 := 179) (k1 := 182) C CC dX7_init_25 fl_X7_19 (fun T n C h => by cases h; rfl) (fun T m D h => by cases h; rfl) rfl (fun _ => rfl) (fun _ => rfl) (by decide) sh_179 (by decide) (fun rf3 => ?_)
  exact rw_vretC C dX7_init_28
def fc_X6_183 (M : pv_M) (rf : pv_F) : Option (pv_M × pv_F) := pv_nm (pv_u M.1 183 0 1, M.2) (fun M1 => pv_nm (pv_u M1.1 183 1 1, M1.2) (fun M2 => pv_nm (pv_row M2.1 184 (fun _ => 0), M2.2) (fun M3 => pv_nm (pv_u rf 183 3 (some 184)) (fun rf1 => pv_nm (pv_row M3.1 185 (fun _ => 0), M3.2) (fun M4 => pv_nm (pv_u rf1 183 4 (some 185)) (fun rf2 => pv_nm (pv_row M4.1 186 (fun _ => 0), M4.2) (fun M5 => pv_nm (pv_u rf2 183 5 (some 186)) (fun rf3 => pv_nm (pv_row M5.1 187 (fun _ => 0), M5.2) (fun M6 => pv_nm (pv_u rf3 183 6 (some 187)) (fun rf4 => pv_gr rf4 183 5 186 (pv_cac (fc_fill 188 186 1 M6 rf4) (fun M7 rf5 => pv_gr rf5 183 6 187 (pv_cac (fc_fill 188 187 1 M7 rf5) (fun M8 rf6 => some (M8, rf6)))))))))))))))
set_option maxHeartbeats 4000000 in
set_option maxRecDepth 100000 in
theorem kc_X6_183 (l : Launch) (κ : pv_K) (M : pv_M) (rf : pv_F) : pv_MtC l yX6_init cX6_init 1 2 κ 184 [.ref (κ.1 + 183)] M rf 188 4 40 (fc_X6_183 M rf) := by
  refine pv_enterC (by decide +kernel) rfl (Nat.le_of_ble_eq_true rfl) (fun g hl hR C CC => ?_)
  have C : pv_Ok g κ 1 cX6_init RX6 none := C
  show pv_R g κ 184 rf 1 0 0 (pv_QC g κ 188 4 40) 0 [(0, .ref (κ.1 + 183))] [] M (fc_X6_183 M rf)
  unfold fc_X6_183
  refine rw_aload_n C dX6_init_0 rfl 0 rfl ?_
  refine rw_objI C dX6_init_1 ⟨mw_113, mw_10, mw_11⟩ (by rw [hR]; decide) (Nat.le_of_ble_eq_true rfl) ?_
  refine rw_aload_n C dX6_init_4 rfl 0 rfl ?_
  refine rw_iconst (c := 1) C dX6_init_5 ci_1 ?_
  refine rw_put (k0 := 183) C dX6_init_6 fl_X6_9 ff_X6_0 rfl rfl rfl (by decide) sh_183 (by decide) (fun M1 => ?_)
  refine rw_aload_n C dX6_init_9 rfl 0 rfl ?_
  refine rw_iconst (c := 1) C dX6_init_10 ci_1 ?_
  refine rw_put (k0 := 183) C dX6_init_11 fl_X6_15 ff_X6_1 rfl rfl rfl (by decide) sh_183 (by decide) (fun M2 => ?_)
  refine rw_aload_n C dX6_init_14 rfl 0 rfl ?_
  refine rw_iconst (c := 4) C dX6_init_15 ci_4 ?_
  refine rw_newI (N := 184) (L := 4) C dX6_init_16 mw_24 (by decide) (by decide) (by decide) (by decide +kernel) rfl rfl (by rw [hR]; decide) (fun M3 => ?_)
  refine rw_putR (k0 := 183) (k1 := 184) C CC dX6_init_18 fl_X6_18 (fun T n C h => by cases h; rfl) (fun T m D h => by cases h; rfl) rfl (fun _ => rfl) (fun _ => rfl) (by decide) sh_183 (by decide) (fun rf1 => ?_)
  refine rw_aload_n C dX6_init_21 rfl 0 rfl ?_
  refine rw_iconst (c := 4) C dX6_init_22 ci_4 ?_
  refine rw_newI (N := 185) (L := 4) C dX6_init_23 mw_24 (by decide) (by decide) (by decide) (by decide +kernel) rfl rfl (by rw [hR]; decide) (fun M4 => ?_)
  refine rw_putR (k0 := 183) (k1 := 185) C CC dX6_init_25 fl_X6_22 (fun T n C h => by cases h; rfl) (fun T m D h => by cases h; rfl) rfl (fun _ => rfl) (fun _ => rfl) (by decide) sh_183 (by decide) (fun rf2 => ?_)
  refine rw_aload_n C dX6_init_28 rfl 0 rfl ?_
  refine rw_bipush (c := 16) C dX6_init_29 (by decide) ?_
  refine rw_newI (N := 186) (L := 16) C dX6_init_31 mw_24 (by decide) (by decide) (by decide) (by decide +kernel) rfl rfl (by rw [hR]; decide) (fun M5 => ?_)
  refine rw_putR (k0 := 183) (k1 := 186) C CC dX6_init_33 fl_X6_25 (fun T n C h => by cases h; rfl) (fun T m D h => by cases h; rfl) rfl (fun _ => rfl) (fun _ => rfl) (by decide) sh_183 (by decide) (fun rf3 => ?_)
  refine rw_aload_n C dX6_init_36 rfl 0 rfl ?_
  refine rw_bipush (c := 16) C dX6_init_37 (by decide) ?_
  refine rw_newI (N := 187) (L := 16) C dX6_init_39 mw_24 (by decide) (by decide) (by decide) (by decide +kernel) rfl rfl (by rw [hR]; decide) (fun M6 => ?_)
  refine rw_putR (k0 := 183) (k1 := 187) C CC dX6_init_41 fl_X6_28 (fun T n C h => by cases h; rfl) (fun T m D h => by cases h; rfl) rfl (fun _ => rfl) (fun _ => rfl) (by decide) sh_183 (by decide) (fun rf4 => ?_)
  refine rw_aload_n C dX6_init_44 rfl 0 rfl ?_
  refine rw_gr (fun hg1 => ?_)
  refine rw_getR (k0 := 183) (k1 := 186) C dX6_init_45 fl_X6_25 rfl (by decide) sh_183 (by decide) hg1 ?_
  refine rw_iconst (c := 1) C dX6_init_48 ci_1 ?_
  refine rw_callSC (As := [.ref (κ.1 + 186), .int 1]) C CC.1 dX6_init_49 cs_X6_31 (kc_fill g.2.1 κ 188 186 1 M6 rf4) (by rw [hR]; decide) (by decide) rfl (Nat.le_of_ble_eq_true rfl) (by rw [hR]; decide) rfl (fun M7 rf5 => ?_)
  refine rw_aload_n C dX6_init_52 rfl 0 rfl ?_
  refine rw_gr (fun hg2 => ?_)
  refine rw_getR (k0 := 183) (k1 := 187) C dX6_init_53 fl_X6_28 rfl (by decide) sh_183 (by decide) hg2 ?_
  refine rw_iconst (c := 1) C dX6_init_56 ci_1 ?_
  refine rw_callSC (As := [.ref (κ.1 + 187), .int 1]) C CC.1 dX6_init_57 cs_X6_31 (kc_fill g.2.1 κ 188 187 1 M7 rf5) (by rw [hR]; decide) (by decide) rfl (Nat.le_of_ble_eq_true rfl) (by rw [hR]; decide) rfl (fun M8 rf6 => ?_)
  exact rw_vretC C dX6_init_60
def fc_X4_188 (M : pv_M) (rf : pv_F) : Option (pv_M × pv_F) := pv_nm (pv_row M.1 189 (fun _ => 0), M.2) (fun M1 => pv_nm (pv_u rf 188 0 (some 189)) (fun rf1 => pv_nm (pv_row M1.1 190 (fun _ => 0), M1.2) (fun M2 => pv_nm (pv_u rf1 188 1 (some 190)) (fun rf2 => pv_nm (pv_rows M2 191 4) (fun M3 => pv_nm (pv_u rf2 188 2 (some 191)) (fun rf3 => pv_gr rf3 188 0 189 (pv_cac (fc_fill 196 189 ((-1)) M3 rf3) (fun M4 rf4 => some (M4, rf4)))))))))
set_option maxHeartbeats 4000000 in
set_option maxRecDepth 100000 in
theorem kc_X4_188 (l : Launch) (κ : pv_K) (M : pv_M) (rf : pv_F) : pv_MtC l yX4_init cX4_init 1 2 κ 189 [.ref (κ.1 + 188)] M rf 196 7 252 (fc_X4_188 M rf) := by
  refine pv_enterC (by decide +kernel) rfl (Nat.le_of_ble_eq_true rfl) (fun g hl hR C CC => ?_)
  have C : pv_Ok g κ 1 cX4_init RX4 none := C
  show pv_R g κ 189 rf 1 0 0 (pv_QC g κ 196 7 252) 0 [(0, .ref (κ.1 + 188))] [] M (fc_X4_188 M rf)
  unfold fc_X4_188
  refine rw_aload_n C dX4_init_0 rfl 0 rfl ?_
  refine rw_objI C dX4_init_1 ⟨mw_127, mw_10, mw_11⟩ (by rw [hR]; decide) (Nat.le_of_ble_eq_true rfl) ?_
  refine rw_aload_n C dX4_init_4 rfl 0 rfl ?_
  refine rw_iconst (c := 4) C dX4_init_5 ci_4 ?_
  refine rw_newI (N := 189) (L := 4) C dX4_init_6 mw_24 (by decide) (by decide) (by decide) (by decide +kernel) rfl rfl (by rw [hR]; decide) (fun M1 => ?_)
  refine rw_putR (k0 := 188) (k1 := 189) C CC dX4_init_8 fl_X4_11 (fun T n C h => by cases h; rfl) (fun T m D h => by cases h; rfl) rfl (fun _ => rfl) (fun _ => rfl) (by decide) sh_188 (by decide) (fun rf1 => ?_)
  refine rw_aload_n C dX4_init_11 rfl 0 rfl ?_
  refine rw_iconst (c := 4) C dX4_init_12 ci_4 ?_
  refine rw_newI (N := 190) (L := 4) C dX4_init_13 mw_24 (by decide) (by decide) (by decide) (by decide +kernel) rfl rfl (by rw [hR]; decide) (fun M2 => ?_)
  refine rw_putR (k0 := 188) (k1 := 190) C CC dX4_init_15 fl_X4_15 (fun T n C h => by cases h; rfl) (fun T m D h => by cases h; rfl) rfl (fun _ => rfl) (fun _ => rfl) (by decide) sh_188 (by decide) (fun rf2 => ?_)
  refine rw_aload_n C dX4_init_18 rfl 0 rfl ?_
  refine rw_iconst (c := 4) C dX4_init_19 ci_4 ?_
  refine rw_bipush (c := 60) C dX4_init_20 (by decide) ?_
  refine rw_multi (N := 191) (L := 4) (K := 60) C CC dX4_init_22 ⟨mw_130, mw_24⟩ (by decide) (by decide) (by decide) (by decide) (by decide) (by decide +kernel) (by decide +kernel) rfl rfl (by rw [hR]; decide) (fun M3 => ?_)
  refine rw_putR (k0 := 188) (k1 := 191) C CC dX4_init_26 fl_X4_20 (fun T n C h => by cases h; rfl) (fun T m D h => by cases h; rfl) rfl (fun _ => rfl) (fun _ => rfl) (by decide) sh_188 (by decide) (fun rf3 => ?_)
  refine rw_aload_n C dX4_init_29 rfl 0 rfl ?_
  refine rw_gr (fun hg1 => ?_)
  refine rw_getR (k0 := 188) (k1 := 189) C dX4_init_30 fl_X4_11 rfl (by decide) sh_188 (by decide) hg1 ?_
  refine rw_iconst (c := (-1)) C dX4_init_33 ci_m1 ?_
  refine rw_callSC (As := [.ref (κ.1 + 189), .int (-1)]) C CC.1 dX4_init_34 cs_X4_23 (kc_fill g.2.1 κ 196 189 ((-1)) M3 rf3) (by rw [hR]; decide) (by decide) rfl (Nat.le_of_ble_eq_true rfl) (by rw [hR]; decide) rfl (fun M4 rf4 => ?_)
  exact rw_vretC C dX4_init_37
def fc_X8_0 (M : pv_M) (rf : pv_F) : Option (pv_M × pv_F) := pv_nm (pv_row M.1 1 (fun _ => 0), M.2) (fun M1 => pv_nm (pv_row rf 1 (fun _ => none)) (fun rf1 => pv_cac (fc_X5_1 M1 rf1) (fun M2 rf2 => pv_nm (pv_u rf2 0 0 (some 1)) (fun rf3 => pv_nm (pv_row M2.1 3 (fun _ => 0), M2.2) (fun M3 => pv_nm (pv_row rf3 3 (fun _ => none)) (fun rf4 => pv_cac (fc_X5_3 M3 rf4) (fun M4 rf5 => pv_nm (pv_u rf5 0 1 (some 3)) (fun rf6 => pv_nm (pv_row M4.1 5 (fun _ => 0), M4.2) (fun M5 => pv_nm (pv_row rf6 5 (fun _ => none)) (fun rf7 => pv_cac (fc_X5_5 M5 rf7) (fun M6 rf8 => pv_nm (pv_u rf8 0 2 (some 5)) (fun rf9 => pv_nm (pv_row M6.1 7 (fun _ => 0), M6.2) (fun M7 => pv_nm (pv_row rf9 7 (fun _ => none)) (fun rf10 => pv_cac (fc_X3_7 M7 rf10) (fun M8 rf11 => pv_nm (pv_u rf11 0 3 (some 7)) (fun rf12 => pv_nm (pv_row M8.1 19 (fun _ => 0), M8.2) (fun M9 => pv_nm (pv_row rf12 19 (fun _ => none)) (fun rf13 => pv_cac (fc_X3_19 M9 rf13) (fun M10 rf14 => pv_nm (pv_u rf14 0 4 (some 19)) (fun rf15 => pv_nm (pv_row M10.1 29 (fun _ => 0), M10.2) (fun M11 => pv_nm (pv_row rf15 29 (fun _ => none)) (fun rf16 => pv_cac (fc_X3_29 M11 rf16) (fun M12 rf17 => pv_nm (pv_u rf17 0 5 (some 29)) (fun rf18 => pv_nm (pv_row M12.1 37 (fun _ => 0), M12.2) (fun M13 => pv_nm (pv_u rf18 0 6 (some 37)) (fun rf19 => pv_nm (pv_row M13.1 38 (fun _ => 0), M13.2) (fun M14 => pv_nm (pv_u rf19 0 7 (some 38)) (fun rf20 => pv_nm (pv_row M14.1 39 (fun _ => 0), M14.2) (fun M15 => pv_nm (pv_row rf20 39 (fun _ => none)) (fun rf21 => pv_cac (fc_X2_39 M15 rf21) (fun M16 rf22 => pv_nm (pv_u rf22 0 8 (some 39)) (fun rf23 => pv_nm (pv_row M16.1 53 (fun _ => 0), M16.2) (fun M17 => pv_nm (pv_row rf23 53 (fun _ => none)) (fun rf24 => pv_gr rf24 0 8 39 (pv_cac (fc_X1_53 M17 rf24) (fun M18 rf25 => pv_nm (pv_u rf25 0 9 (some 53)) (fun rf26 => pv_nm (pv_row M18.1 88 (fun _ => 0), M18.2) (fun M19 => pv_nm (pv_row rf26 88 (fun _ => none)) (fun rf27 => pv_gr rf27 0 8 39 (pv_cac (fc_X1_88 M19 rf27) (fun M20 rf28 => pv_nm (pv_u rf28 0 10 (some 88)) (fun rf29 => pv_nm (pv_row M20.1 123 (fun _ => 0), M20.2) (fun M21 => pv_nm (pv_row rf29 123 (fun _ => none)) (fun rf30 => pv_gr rf30 0 8 39 (pv_cac (fc_X1_123 M21 rf30) (fun M22 rf31 => pv_nm (pv_u rf31 0 11 (some 123)) (fun rf32 => pv_nm (pv_row M22.1 158 (fun _ => 0), M22.2) (fun M23 => pv_nm (pv_row rf32 158 (fun _ => none)) (fun rf33 => pv_gr rf33 0 8 39 (pv_cac (fc_X0_158 M23 rf33) (fun M24 rf34 => pv_nm (pv_u rf34 0 12 (some 158)) (fun rf35 => pv_nm (pv_row M24.1 179 (fun _ => 0), M24.2) (fun M25 => pv_nm (pv_row rf35 179 (fun _ => none)) (fun rf36 => pv_cac (fc_X7_179 M25 rf36) (fun M26 rf37 => pv_nm (pv_u rf37 0 13 (some 179)) (fun rf38 => pv_nm (pv_row M26.1 183 (fun _ => 0), M26.2) (fun M27 => pv_nm (pv_row rf38 183 (fun _ => none)) (fun rf39 => pv_cac (fc_X6_183 M27 rf39) (fun M28 rf40 => pv_nm (pv_u rf40 0 14 (some 183)) (fun rf41 => pv_nm (pv_row M28.1 188 (fun _ => 0), M28.2) (fun M29 => pv_nm (pv_row rf41 188 (fun _ => none)) (fun rf42 => pv_cac (fc_X4_188 M29 rf42) (fun M30 rf43 => pv_nm (pv_u rf43 0 15 (some 188)) (fun rf44 => pv_nm (pv_u M30.1 0 16 0, M30.2) (fun M31 => pv_nm (pv_u M31.1 0 17 0, M31.2) (fun M32 => pv_nm (pv_u M32.1 0 18 0, M32.2) (fun M33 => pv_nm (pv_u M33.1 0 19 1, M33.2) (fun M34 => pv_gr rf44 0 6 37 (pv_cac (fc_fill 196 37 100 M34 rf44) (fun M35 rf45 => some (M35, rf45)))))))))))))))))))))))))))))))))))))))))))))))))))))))))))))))))))))))
set_option maxHeartbeats 4000000 in
set_option maxRecDepth 100000 in
theorem kc_X8_0 (l : Launch) (κ : pv_K) (M : pv_M) (rf : pv_F) : pv_MtC l yX8_init cX8_init 1 4 κ 1 [.ref (κ.1 + 0)] M rf 196 195 1577 (fc_X8_0 M rf) := by
  refine pv_enterC (by decide +kernel) rfl (Nat.le_of_ble_eq_true rfl) (fun g hl hR C CC => ?_)
  have C : pv_Ok g κ 1 cX8_init RX8 none := C
  show pv_R g κ 1 rf 1 0 0 (pv_QC g κ 196 195 1577) 0 [(0, .ref (κ.1 + 0))] [] M (fc_X8_0 M rf)
  unfold fc_X8_0
  refine rw_aload_n C dX8_init_0 rfl 0 rfl ?_
  refine rw_objI C dX8_init_1 ⟨mw_9, mw_10, mw_11⟩ (by rw [hR]; decide) (Nat.le_of_ble_eq_true rfl) ?_
  refine rw_aload_n C dX8_init_4 rfl 0 rfl ?_
  refine rw_new (N := 1) (c := 5) C dX8_init_5 rfl ⟨mw_12, mw_13, mw_14⟩ inlX5 tyX5_ok (by decide +kernel) sh_1 rfl rfl (by rw [hR]; decide) (fun M1 rf1 => ?_)
  refine rw_dup C dX8_init_8 rfl ?_
  refine rw_iconst (c := 0) C dX8_init_9 ci_0 ?_
  refine rw_iconst (c := 4) C dX8_init_10 ci_4 ?_
  refine rw_callI (As := [.int 0, .int 4]) (k0 := 1) C CC.1 dX8_init_11 ci_X8_11 (kc_X5_1 g.2.1 κ M1 rf1) (by rw [hR]; decide) (by decide) rfl (Nat.le_of_ble_eq_true rfl) rfl rfl (by rw [hR]; decide) rfl (fun M2 rf2 => ?_)
  refine rw_putR (k0 := 0) (k1 := 1) C CC dX8_init_14 fl_X8_14 (fun T n C h => by cases h; rfl) (fun T m D h => by cases h; rfl) rfl (fun _ => rfl) (fun _ => rfl) (by decide) sh_0 (by decide) (fun rf3 => ?_)
  refine rw_aload_n C dX8_init_17 rfl 0 rfl ?_
  refine rw_new (N := 3) (c := 5) C dX8_init_18 rfl ⟨mw_12, mw_13, mw_14⟩ inlX5 tyX5_ok (by decide +kernel) sh_3 rfl rfl (by rw [hR]; decide) (fun M3 rf4 => ?_)
  refine rw_dup C dX8_init_21 rfl ?_
  refine rw_iconst (c := 1) C dX8_init_22 ci_1 ?_
  refine rw_bipush (c := 8) C dX8_init_23 (by decide) ?_
  refine rw_callI (As := [.int 1, .int 8]) (k0 := 3) C CC.1 dX8_init_25 ci_X8_11 (kc_X5_3 g.2.1 κ M3 rf4) (by rw [hR]; decide) (by decide) rfl (Nat.le_of_ble_eq_true rfl) rfl rfl (by rw [hR]; decide) rfl (fun M4 rf5 => ?_)
  refine rw_putR (k0 := 0) (k1 := 3) C CC dX8_init_28 fl_X8_18 (fun T n C h => by cases h; rfl) (fun T m D h => by cases h; rfl) rfl (fun _ => rfl) (fun _ => rfl) (by decide) sh_0 (by decide) (fun rf6 => ?_)
  refine rw_aload_n C dX8_init_31 rfl 0 rfl ?_
  refine rw_new (N := 5) (c := 5) C dX8_init_32 rfl ⟨mw_12, mw_13, mw_14⟩ inlX5 tyX5_ok (by decide +kernel) sh_5 rfl rfl (by rw [hR]; decide) (fun M5 rf7 => ?_)
  refine rw_dup C dX8_init_35 rfl ?_
  refine rw_iconst (c := 2) C dX8_init_36 ci_2 ?_
  refine rw_bipush (c := 8) C dX8_init_37 (by decide) ?_
  refine rw_callI (As := [.int 2, .int 8]) (k0 := 5) C CC.1 dX8_init_39 ci_X8_11 (kc_X5_5 g.2.1 κ M5 rf7) (by rw [hR]; decide) (by decide) rfl (Nat.le_of_ble_eq_true rfl) rfl rfl (by rw [hR]; decide) rfl (fun M6 rf8 => ?_)
  refine rw_putR (k0 := 0) (k1 := 5) C CC dX8_init_42 fl_X8_23 (fun T n C h => by cases h; rfl) (fun T m D h => by cases h; rfl) rfl (fun _ => rfl) (fun _ => rfl) (by decide) sh_0 (by decide) (fun rf9 => ?_)
  refine rw_aload_n C dX8_init_45 rfl 0 rfl ?_
  refine rw_new (N := 7) (c := 3) C dX8_init_46 rfl ⟨mw_18, mw_19, mw_20⟩ inlX3 tyX3_ok (by decide +kernel) sh_7 rfl rfl (by rw [hR]; decide) (fun M7 rf10 => ?_)
  refine rw_dup C dX8_init_49 rfl ?_
  refine rw_bipush (c := 10) C dX8_init_50 (by decide) ?_
  refine rw_iconst (c := 4) C dX8_init_52 ci_4 ?_
  refine rw_callI (As := [.int 10, .int 4]) (k0 := 7) C CC.1 dX8_init_53 ci_X8_28 (kc_X3_7 g.2.1 κ M7 rf10) (by rw [hR]; decide) (by decide) rfl (Nat.le_of_ble_eq_true rfl) rfl rfl (by rw [hR]; decide) rfl (fun M8 rf11 => ?_)
  refine rw_putR (k0 := 0) (k1 := 7) C CC dX8_init_56 fl_X8_29 (fun T n C h => by cases h; rfl) (fun T m D h => by cases h; rfl) rfl (fun _ => rfl) (fun _ => rfl) (by decide) sh_0 (by decide) (fun rf12 => ?_)
  refine rw_aload_n C dX8_init_59 rfl 0 rfl ?_
  refine rw_new (N := 19) (c := 3) C dX8_init_60 rfl ⟨mw_18, mw_19, mw_20⟩ inlX3 tyX3_ok (by decide +kernel) sh_19 rfl rfl (by rw [hR]; decide) (fun M9 rf13 => ?_)
  refine rw_dup C dX8_init_63 rfl ?_
  refine rw_bipush (c := 8) C dX8_init_64 (by decide) ?_
  refine rw_bipush (c := 6) C dX8_init_66 (by decide) ?_
  refine rw_callI (As := [.int 8, .int 6]) (k0 := 19) C CC.1 dX8_init_68 ci_X8_28 (kc_X3_19 g.2.1 κ M9 rf13) (by rw [hR]; decide) (by decide) rfl (Nat.le_of_ble_eq_true rfl) rfl rfl (by rw [hR]; decide) rfl (fun M10 rf14 => ?_)
  refine rw_putR (k0 := 0) (k1 := 19) C CC dX8_init_71 fl_X8_33 (fun T n C h => by cases h; rfl) (fun T m D h => by cases h; rfl) rfl (fun _ => rfl) (fun _ => rfl) (by decide) sh_0 (by decide) (fun rf15 => ?_)
  refine rw_aload_n C dX8_init_74 rfl 0 rfl ?_
  refine rw_new (N := 29) (c := 3) C dX8_init_75 rfl ⟨mw_18, mw_19, mw_20⟩ inlX3 tyX3_ok (by decide +kernel) sh_29 rfl rfl (by rw [hR]; decide) (fun M11 rf16 => ?_)
  refine rw_dup C dX8_init_78 rfl ?_
  refine rw_bipush (c := 6) C dX8_init_79 (by decide) ?_
  refine rw_iconst (c := 3) C dX8_init_81 ci_3 ?_
  refine rw_callI (As := [.int 6, .int 3]) (k0 := 29) C CC.1 dX8_init_82 ci_X8_28 (kc_X3_29 g.2.1 κ M11 rf16) (by rw [hR]; decide) (by decide) rfl (Nat.le_of_ble_eq_true rfl) rfl rfl (by rw [hR]; decide) rfl (fun M12 rf17 => ?_)
  refine rw_putR (k0 := 0) (k1 := 29) C CC dX8_init_85 fl_X8_36 (fun T n C h => by cases h; rfl) (fun T m D h => by cases h; rfl) rfl (fun _ => rfl) (fun _ => rfl) (by decide) sh_0 (by decide) (fun rf18 => ?_)
  refine rw_aload_n C dX8_init_88 rfl 0 rfl ?_
  refine rw_bipush (c := 8) C dX8_init_89 (by decide) ?_
  refine rw_newI (N := 37) (L := 8) C dX8_init_91 mw_24 (by decide) (by decide) (by decide) (by decide +kernel) rfl rfl (by rw [hR]; decide) (fun M13 => ?_)
  refine rw_putR (k0 := 0) (k1 := 37) C CC dX8_init_93 fl_X8_39 (fun T n C h => by cases h; rfl) (fun T m D h => by cases h; rfl) rfl (fun _ => rfl) (fun _ => rfl) (by decide) sh_0 (by decide) (fun rf19 => ?_)
  refine rw_aload_n C dX8_init_96 rfl 0 rfl ?_
  refine rw_bipush (c := 8) C dX8_init_97 (by decide) ?_
  refine rw_newI (N := 38) (L := 8) C dX8_init_99 mw_24 (by decide) (by decide) (by decide) (by decide +kernel) rfl rfl (by rw [hR]; decide) (fun M14 => ?_)
  refine rw_putR (k0 := 0) (k1 := 38) C CC dX8_init_101 fl_X8_43 (fun T n C h => by cases h; rfl) (fun T m D h => by cases h; rfl) rfl (fun _ => rfl) (fun _ => rfl) (by decide) sh_0 (by decide) (fun rf20 => ?_)
  refine rw_aload_n C dX8_init_104 rfl 0 rfl ?_
  refine rw_new (N := 39) (c := 2) C dX8_init_105 rfl ⟨mw_27, mw_28, mw_29⟩ inlX2 tyX2_ok (by decide +kernel) sh_39 rfl rfl (by rw [hR]; decide) (fun M15 rf21 => ?_)
  refine rw_dup C dX8_init_108 rfl ?_
  refine rw_callIN (As := []) (k0 := 39) C CC.1 dX8_init_109 cin_X8_48 (kc_X2_39 g.2.1 κ M15 rf21) (by rw [hR]; decide) (by decide) rfl (Nat.le_of_ble_eq_true rfl) rfl rfl (by rw [hR]; decide) rfl (fun M16 rf22 => ?_)
  refine rw_putR (k0 := 0) (k1 := 39) C CC dX8_init_112 fl_X8_49 (fun T n C h => by cases h; rfl) (fun T m D h => by cases h; rfl) rfl (fun _ => rfl) (fun _ => rfl) (by decide) sh_0 (by decide) (fun rf23 => ?_)
  refine rw_aload_n C dX8_init_115 rfl 0 rfl ?_
  refine rw_new (N := 53) (c := 1) C dX8_init_116 rfl ⟨mw_31, mw_32, mw_33⟩ inlX1 tyX1_ok (by decide +kernel) sh_53 rfl rfl (by rw [hR]; decide) (fun M17 rf24 => ?_)
  refine rw_dup C dX8_init_119 rfl ?_
  refine rw_aload_n C dX8_init_120 rfl 0 rfl ?_
  refine rw_gr (fun hg1 => ?_)
  refine rw_getR (k0 := 0) (k1 := 39) C dX8_init_121 fl_X8_49 rfl (by decide) sh_0 (by decide) hg1 ?_
  refine rw_iconst (c := 0) C dX8_init_124 ci_0 ?_
  refine rw_callI (As := [.ref (κ.1 + 39), .int 0]) (k0 := 53) C CC.1 dX8_init_125 ci_X8_55 (kc_X1_53 g.2.1 κ M17 rf24) (by rw [hR]; decide) (by decide) rfl (Nat.le_of_ble_eq_true rfl) rfl rfl (by rw [hR]; decide) rfl (fun M18 rf25 => ?_)
  refine rw_putR (k0 := 0) (k1 := 53) C CC dX8_init_128 fl_X8_58 (fun T n C h => by cases h; rfl) (fun T m D h => by cases h; rfl) rfl (fun _ => rfl) (fun _ => rfl) (by decide) sh_0 (by decide) (fun rf26 => ?_)
  refine rw_aload_n C dX8_init_131 rfl 0 rfl ?_
  refine rw_new (N := 88) (c := 1) C dX8_init_132 rfl ⟨mw_31, mw_32, mw_33⟩ inlX1 tyX1_ok (by decide +kernel) sh_88 rfl rfl (by rw [hR]; decide) (fun M19 rf27 => ?_)
  refine rw_dup C dX8_init_135 rfl ?_
  refine rw_aload_n C dX8_init_136 rfl 0 rfl ?_
  refine rw_gr (fun hg2 => ?_)
  refine rw_getR (k0 := 0) (k1 := 39) C dX8_init_137 fl_X8_49 rfl (by decide) sh_0 (by decide) hg2 ?_
  refine rw_iconst (c := 1) C dX8_init_140 ci_1 ?_
  refine rw_callI (As := [.ref (κ.1 + 39), .int 1]) (k0 := 88) C CC.1 dX8_init_141 ci_X8_55 (kc_X1_88 g.2.1 κ M19 rf27) (by rw [hR]; decide) (by decide) rfl (Nat.le_of_ble_eq_true rfl) rfl rfl (by rw [hR]; decide) rfl (fun M20 rf28 => ?_)
  refine rw_putR (k0 := 0) (k1 := 88) C CC dX8_init_144 fl_X8_62 (fun T n C h => by cases h; rfl) (fun T m D h => by cases h; rfl) rfl (fun _ => rfl) (fun _ => rfl) (by decide) sh_0 (by decide) (fun rf29 => ?_)
  refine rw_aload_n C dX8_init_147 rfl 0 rfl ?_
  refine rw_new (N := 123) (c := 1) C dX8_init_148 rfl ⟨mw_31, mw_32, mw_33⟩ inlX1 tyX1_ok (by decide +kernel) sh_123 rfl rfl (by rw [hR]; decide) (fun M21 rf30 => ?_)
  refine rw_dup C dX8_init_151 rfl ?_
  refine rw_aload_n C dX8_init_152 rfl 0 rfl ?_
  refine rw_gr (fun hg3 => ?_)
  refine rw_getR (k0 := 0) (k1 := 39) C dX8_init_153 fl_X8_49 rfl (by decide) sh_0 (by decide) hg3 ?_
  refine rw_iconst (c := 2) C dX8_init_156 ci_2 ?_
  refine rw_callI (As := [.ref (κ.1 + 39), .int 2]) (k0 := 123) C CC.1 dX8_init_157 ci_X8_55 (kc_X1_123 g.2.1 κ M21 rf30) (by rw [hR]; decide) (by decide) rfl (Nat.le_of_ble_eq_true rfl) rfl rfl (by rw [hR]; decide) rfl (fun M22 rf31 => ?_)
  refine rw_putR (k0 := 0) (k1 := 123) C CC dX8_init_160 fl_X8_65 (fun T n C h => by cases h; rfl) (fun T m D h => by cases h; rfl) rfl (fun _ => rfl) (fun _ => rfl) (by decide) sh_0 (by decide) (fun rf32 => ?_)
  refine rw_aload_n C dX8_init_163 rfl 0 rfl ?_
  refine rw_new (N := 158) (c := 0) C dX8_init_164 rfl ⟨mw_37, mw_38, mw_39⟩ inlX0 tyX0_ok (by decide +kernel) sh_158 rfl rfl (by rw [hR]; decide) (fun M23 rf33 => ?_)
  refine rw_dup C dX8_init_167 rfl ?_
  refine rw_aload_n C dX8_init_168 rfl 0 rfl ?_
  refine rw_gr (fun hg4 => ?_)
  refine rw_getR (k0 := 0) (k1 := 39) C dX8_init_169 fl_X8_49 rfl (by decide) sh_0 (by decide) hg4 ?_
  refine rw_callI (As := [.ref (κ.1 + 39)]) (k0 := 158) C CC.1 dX8_init_172 ci_X8_70 (kc_X0_158 g.2.1 κ M23 rf33) (by rw [hR]; decide) (by decide) rfl (Nat.le_of_ble_eq_true rfl) rfl rfl (by rw [hR]; decide) rfl (fun M24 rf34 => ?_)
  refine rw_putR (k0 := 0) (k1 := 158) C CC dX8_init_175 fl_X8_73 (fun T n C h => by cases h; rfl) (fun T m D h => by cases h; rfl) rfl (fun _ => rfl) (fun _ => rfl) (by decide) sh_0 (by decide) (fun rf35 => ?_)
  refine rw_aload_n C dX8_init_178 rfl 0 rfl ?_
  refine rw_new (N := 179) (c := 7) C dX8_init_179 rfl ⟨mw_41, mw_42, mw_43⟩ inlX7 tyX7_ok (by decide +kernel) sh_179 rfl rfl (by rw [hR]; decide) (fun M25 rf36 => ?_)
  refine rw_dup C dX8_init_182 rfl ?_
  refine rw_callIN (As := []) (k0 := 179) C CC.1 dX8_init_183 cin_X8_77 (kc_X7_179 g.2.1 κ M25 rf36) (by rw [hR]; decide) (by decide) rfl (Nat.le_of_ble_eq_true rfl) rfl rfl (by rw [hR]; decide) rfl (fun M26 rf37 => ?_)
  refine rw_putR (k0 := 0) (k1 := 179) C CC dX8_init_186 fl_X8_78 (fun T n C h => by cases h; rfl) (fun T m D h => by cases h; rfl) rfl (fun _ => rfl) (fun _ => rfl) (by decide) sh_0 (by decide) (fun rf38 => ?_)
  refine rw_aload_n C dX8_init_189 rfl 0 rfl ?_
  refine rw_new (N := 183) (c := 6) C dX8_init_190 rfl ⟨mw_45, mw_46, mw_47⟩ inlX6 tyX6_ok (by decide +kernel) sh_183 rfl rfl (by rw [hR]; decide) (fun M27 rf39 => ?_)
  refine rw_dup C dX8_init_193 rfl ?_
  refine rw_callI (As := []) (k0 := 183) C CC.1 dX8_init_194 ci_X8_84 (kc_X6_183 g.2.1 κ M27 rf39) (by rw [hR]; decide) (by decide) rfl (Nat.le_of_ble_eq_true rfl) rfl rfl (by rw [hR]; decide) rfl (fun M28 rf40 => ?_)
  refine rw_putR (k0 := 0) (k1 := 183) C CC dX8_init_197 fl_X8_85 (fun T n C h => by cases h; rfl) (fun T m D h => by cases h; rfl) rfl (fun _ => rfl) (fun _ => rfl) (by decide) sh_0 (by decide) (fun rf41 => ?_)
  refine rw_aload_n C dX8_init_200 rfl 0 rfl ?_
  refine rw_new (N := 188) (c := 4) C dX8_init_201 rfl ⟨mw_49, mw_50, mw_51⟩ inlX4 tyX4_ok (by decide +kernel) sh_188 rfl rfl (by rw [hR]; decide) (fun M29 rf42 => ?_)
  refine rw_dup C dX8_init_204 rfl ?_
  refine rw_callI (As := []) (k0 := 188) C CC.1 dX8_init_205 ci_X8_91 (kc_X4_188 g.2.1 κ M29 rf42) (by rw [hR]; decide) (by decide) rfl (Nat.le_of_ble_eq_true rfl) rfl rfl (by rw [hR]; decide) rfl (fun M30 rf43 => ?_)
  refine rw_putR (k0 := 0) (k1 := 188) C CC dX8_init_208 fl_X8_92 (fun T n C h => by cases h; rfl) (fun T m D h => by cases h; rfl) rfl (fun _ => rfl) (fun _ => rfl) (by decide) sh_0 (by decide) (fun rf44 => ?_)
  refine rw_aload_n C dX8_init_211 rfl 0 rfl ?_
  refine rw_iconst (c := 0) C dX8_init_212 ci_0 ?_
  refine rw_put (k0 := 0) C dX8_init_213 fl_X8_96 ff_X8_16 rfl rfl rfl (by decide) sh_0 (by decide) (fun M31 => ?_)
  refine rw_aload_n C dX8_init_216 rfl 0 rfl ?_
  refine rw_iconst (c := 0) C dX8_init_217 ci_0 ?_
  refine rw_put (k0 := 0) C dX8_init_218 fl_X8_100 ff_X8_17 rfl rfl rfl (by decide) sh_0 (by decide) (fun M32 => ?_)
  refine rw_aload_n C dX8_init_221 rfl 0 rfl ?_
  refine rw_iconst (c := 0) C dX8_init_222 ci_0 ?_
  refine rw_put (k0 := 0) C dX8_init_223 fl_X8_103 ff_X8_18 rfl rfl rfl (by decide) sh_0 (by decide) (fun M33 => ?_)
  refine rw_aload_n C dX8_init_226 rfl 0 rfl ?_
  refine rw_iconst (c := 1) C dX8_init_227 ci_1 ?_
  refine rw_put (k0 := 0) C dX8_init_228 fl_X8_106 ff_X8_19 rfl (by decide +kernel) (by decide +kernel) (by decide) sh_0 (by decide) (fun M34 => ?_)
  refine rw_aload_n C dX8_init_231 rfl 0 rfl ?_
  refine rw_gr (fun hg5 => ?_)
  refine rw_getR (k0 := 0) (k1 := 37) C dX8_init_232 fl_X8_39 rfl (by decide) sh_0 (by decide) hg5 ?_
  refine rw_bipush (c := 100) C dX8_init_235 (by decide) ?_
  refine rw_callSC (As := [.ref (κ.1 + 37), .int 100]) C CC.1 dX8_init_237 cs_X8_110 (kc_fill g.2.1 κ 196 37 100 M34 rf44) (by rw [hR]; decide) (by decide) rfl (Nat.le_of_ble_eq_true rfl) (by rw [hR]; decide) rfl (fun M35 rf45 => ?_)
  exact rw_vretC C dX8_init_240
def fc_X9_init_L241 (rf25 : pv_F) (rec3 : Int32 → pv_M → Option (pv_M × pv_F)) (x3 : Int32) (M28 : pv_M) : Option (pv_M × pv_F) := (if 32 ≤ x3 then some (M28, rf25) else pv_gr rf25 196 27 219 (pv_stI 222 219 x3 1 M28 (fun M29 => rec3 (x3 + 1) M29)))
def fc_X9_init_L219 (rf25 : pv_F) (rec2 : Int32 → pv_M → Option (pv_M × pv_F)) (x2 : Int32) (M27 : pv_M) : Option (pv_M × pv_F) := (if 8 ≤ x2 then pv_lp2 (fc_X9_init_L241 rf25) pv_FU 0 M27 else pv_gr rf25 196 11 206 (pv_stI 222 206 x2 100 M27 (fun M30 => rec2 (x2 + 1) M30)))
def fc_X9_init_L199 (rf25 : pv_F) (rec1 : Int32 → pv_M → Option (pv_M × pv_F)) (x1 : Int32) (M26 : pv_M) : Option (pv_M × pv_F) := (if 4 ≤ x1 then pv_lp2 (fc_X9_init_L219 rf25) pv_FU 0 M26 else pv_gr rf25 196 0 197 (pv_stI 222 197 x1 ((-1)) M26 (fun M31 => rec1 (x1 + 1) M31)))
def fc_X9_196 (M : pv_M) (rf : pv_F) : Option (pv_M × pv_F) := pv_nm (pv_row M.1 197 (fun _ => 0), M.2) (fun M1 => pv_nm (pv_u rf 196 0 (some 197)) (fun rf1 => pv_nm (pv_row M1.1 198 (fun _ => 0), M1.2) (fun M2 => pv_nm (pv_u rf1 196 1 (some 198)) (fun rf2 => pv_nm (pv_row M2.1 199 (fun _ => 0), M2.2) (fun M3 => pv_nm (pv_u rf2 196 2 (some 199)) (fun rf3 => pv_nm (pv_row M3.1 200 (fun _ => 0), M3.2) (fun M4 => pv_nm (pv_u rf3 196 3 (some 200)) (fun rf4 => pv_nm (pv_row M4.1 201 (fun _ => 0), M4.2) (fun M5 => pv_nm (pv_u rf4 196 5 (some 201)) (fun rf5 => pv_nm (pv_row M5.1 202 (fun _ => 0), M5.2) (fun M6 => pv_nm (pv_u rf5 196 6 (some 202)) (fun rf6 => pv_nm (pv_row M6.1 203 (fun _ => 0), M6.2) (fun M7 => pv_nm (pv_u rf6 196 8 (some 203)) (fun rf7 => pv_nm (pv_row M7.1 204 (fun _ => 0), M7.2) (fun M8 => pv_nm (pv_u rf7 196 9 (some 204)) (fun rf8 => pv_nm (pv_row M8.1 205 (fun _ => 0), M8.2) (fun M9 => pv_nm (pv_u rf8 196 10 (some 205)) (fun rf9 => pv_nm (pv_row M9.1 206 (fun _ => 0), M9.2) (fun M10 => pv_nm (pv_u rf9 196 11 (some 206)) (fun rf10 => pv_nm (pv_row M10.1 207 (fun _ => 0), M10.2) (fun M11 => pv_nm (pv_u rf10 196 13 (some 207)) (fun rf11 => pv_nm (pv_row M11.1 208 (fun _ => 0), M11.2) (fun M12 => pv_nm (pv_u rf11 196 14 (some 208)) (fun rf12 => pv_nm (pv_row M12.1 209 (fun _ => 0), M12.2) (fun M13 => pv_nm (pv_u rf12 196 15 (some 209)) (fun rf13 => pv_nm (pv_row M13.1 210 (fun _ => 0), M13.2) (fun M14 => pv_nm (pv_u rf13 196 16 (some 210)) (fun rf14 => pv_nm (pv_row M14.1 211 (fun _ => 0), M14.2) (fun M15 => pv_nm (pv_u rf14 196 18 (some 211)) (fun rf15 => pv_nm (pv_row M15.1 212 (fun _ => 0), M15.2) (fun M16 => pv_nm (pv_u rf15 196 19 (some 212)) (fun rf16 => pv_nm (pv_row M16.1 213 (fun _ => 0), M16.2) (fun M17 => pv_nm (pv_u rf16 196 20 (some 213)) (fun rf17 => pv_nm (pv_row M17.1 214 (fun _ => 0), M17.2) (fun M18 => pv_nm (pv_u rf17 196 21 (some 214)) (fun rf18 => pv_nm (pv_row M18.1 215 (fun _ => 0), M18.2) (fun M19 => pv_nm (pv_u rf18 196 22 (some 215)) (fun rf19 => pv_nm (pv_row M19.1 216 (fun _ => 0), M19.2) (fun M20 => pv_nm (pv_u rf19 196 23 (some 216)) (fun rf20 => pv_nm (M20.1, pv_row M20.2 217 (fun _ => 0)) (fun M21 => pv_nm (pv_u rf20 196 24 (some 217)) (fun rf21 => pv_nm (M21.1, pv_row M21.2 218 (fun _ => 0)) (fun M22 => pv_nm (pv_u rf21 196 25 (some 218)) (fun rf22 => pv_nm (pv_row M22.1 219 (fun _ => 0), M22.2) (fun M23 => pv_nm (pv_u rf22 196 27 (some 219)) (fun rf23 => pv_nm (pv_row M23.1 220 (fun _ => 0), M23.2) (fun M24 => pv_nm (pv_u rf23 196 28 (some 220)) (fun rf24 => pv_nm (pv_row M24.1 221 (fun _ => 0), M24.2) (fun M25 => pv_nm (pv_u rf24 196 33 (some 221)) (fun rf25 => pv_lp2 (fc_X9_init_L199 rf25) pv_FU 0 M25))))))))))))))))))))))))))))))))))))))))))))))))))
set_option maxHeartbeats 4000000 in
set_option maxRecDepth 100000 in
theorem kc_X9_196 (l : Launch) (κ : pv_K) (M : pv_M) (rf : pv_F) : pv_MtC l yX9_init cX9_init 2 1 κ 197 [.ref (κ.1 + 196)] M rf 222 25 878 (fc_X9_196 M rf) := by
  refine pv_enterC (by decide +kernel) rfl (Nat.le_of_ble_eq_true rfl) (fun g hl hR C CC => ?_)
  have C : pv_Ok g κ 2 cX9_init RX9 none := C
  show pv_R g κ 197 rf 2 0 0 (pv_QC g κ 222 25 878) 0 [(0, .ref (κ.1 + 196))] [] M (fc_X9_196 M rf)
  unfold fc_X9_196
  refine rw_aload_n C dX9_init_0 rfl 0 rfl ?_
  refine rw_objI C dX9_init_1 ⟨mw_137, mw_10, mw_11⟩ (by rw [hR]; decide) (Nat.le_of_ble_eq_true rfl) ?_
  refine rw_aload_n C dX9_init_4 rfl 0 rfl ?_
  refine rw_iconst (c := 4) C dX9_init_5 ci_4 ?_
  refine rw_newI (N := 197) (L := 4) C dX9_init_6 mw_24 (by decide) (by decide) (by decide) (by decide +kernel) rfl rfl (by rw [hR]; decide) (fun M1 => ?_)
  refine rw_putR (k0 := 196) (k1 := 197) C CC dX9_init_8 fl_X9_7 (fun T n C h => by cases h; rfl) (fun T m D h => by cases h; rfl) rfl (fun _ => rfl) (fun _ => rfl) (by decide) sh_196 (by decide) (fun rf1 => ?_)
  refine rw_aload_n C dX9_init_11 rfl 0 rfl ?_
  refine rw_iconst (c := 4) C dX9_init_12 ci_4 ?_
  refine rw_newI (N := 198) (L := 4) C dX9_init_13 mw_24 (by decide) (by decide) (by decide) (by decide +kernel) rfl rfl (by rw [hR]; decide) (fun M2 => ?_)
  refine rw_putR (k0 := 196) (k1 := 198) C CC dX9_init_15 fl_X9_13 (fun T n C h => by cases h; rfl) (fun T m D h => by cases h; rfl) rfl (fun _ => rfl) (fun _ => rfl) (by decide) sh_196 (by decide) (fun rf2 => ?_)
  refine rw_aload_n C dX9_init_18 rfl 0 rfl ?_
  refine rw_sipush (c := 240) C dX9_init_19 (by decide) ?_
  refine rw_newI (N := 199) (L := 240) C dX9_init_22 mw_24 (by decide) (by decide) (by decide) (by decide +kernel) rfl rfl (by rw [hR]; decide) (fun M3 => ?_)
  refine rw_putR (k0 := 196) (k1 := 199) C CC dX9_init_24 fl_X9_16 (fun T n C h => by cases h; rfl) (fun T m D h => by cases h; rfl) rfl (fun _ => rfl) (fun _ => rfl) (by decide) sh_196 (by decide) (fun rf3 => ?_)
  refine rw_aload_n C dX9_init_27 rfl 0 rfl ?_
  refine rw_bipush (c := 60) C dX9_init_28 (by decide) ?_
  refine rw_newI (N := 200) (L := 60) C dX9_init_30 mw_24 (by decide) (by decide) (by decide) (by decide +kernel) rfl rfl (by rw [hR]; decide) (fun M4 => ?_)
  refine rw_putR (k0 := 196) (k1 := 200) C CC dX9_init_32 fl_X9_19 (fun T n C h => by cases h; rfl) (fun T m D h => by cases h; rfl) rfl (fun _ => rfl) (fun _ => rfl) (by decide) sh_196 (by decide) (fun rf4 => ?_)
  refine rw_aload_n C dX9_init_35 rfl 0 rfl ?_
  refine rw_bipush (c := 120) C dX9_init_36 (by decide) ?_
  refine rw_newI (N := 201) (L := 120) C dX9_init_38 mw_24 (by decide) (by decide) (by decide) (by decide +kernel) rfl rfl (by rw [hR]; decide) (fun M5 => ?_)
  refine rw_putR (k0 := 196) (k1 := 201) C CC dX9_init_40 fl_X9_22 (fun T n C h => by cases h; rfl) (fun T m D h => by cases h; rfl) rfl (fun _ => rfl) (fun _ => rfl) (by decide) sh_196 (by decide) (fun rf5 => ?_)
  refine rw_aload_n C dX9_init_43 rfl 0 rfl ?_
  refine rw_iconst (c := 3) C dX9_init_44 ci_3 ?_
  refine rw_newI (N := 202) (L := 3) C dX9_init_45 mw_24 (by decide) (by decide) (by decide) (by decide +kernel) rfl rfl (by rw [hR]; decide) (fun M6 => ?_)
  refine rw_putR (k0 := 196) (k1 := 202) C CC dX9_init_47 fl_X9_25 (fun T n C h => by cases h; rfl) (fun T m D h => by cases h; rfl) rfl (fun _ => rfl) (fun _ => rfl) (by decide) sh_196 (by decide) (fun rf6 => ?_)
  refine rw_aload_n C dX9_init_50 rfl 0 rfl ?_
  refine rw_iconst (c := 3) C dX9_init_51 ci_3 ?_
  refine rw_newI (N := 203) (L := 3) C dX9_init_52 mw_24 (by decide) (by decide) (by decide) (by decide +kernel) rfl rfl (by rw [hR]; decide) (fun M7 => ?_)
  refine rw_putR (k0 := 196) (k1 := 203) C CC dX9_init_54 fl_X9_28 (fun T n C h => by cases h; rfl) (fun T m D h => by cases h; rfl) rfl (fun _ => rfl) (fun _ => rfl) (by decide) sh_196 (by decide) (fun rf7 => ?_)
  refine rw_aload_n C dX9_init_57 rfl 0 rfl ?_
  refine rw_bipush (c := 72) C dX9_init_58 (by decide) ?_
  refine rw_newI (N := 204) (L := 72) C dX9_init_60 mw_24 (by decide) (by decide) (by decide) (by decide +kernel) rfl rfl (by rw [hR]; decide) (fun M8 => ?_)
  refine rw_putR (k0 := 196) (k1 := 204) C CC dX9_init_62 fl_X9_31 (fun T n C h => by cases h; rfl) (fun T m D h => by cases h; rfl) rfl (fun _ => rfl) (fun _ => rfl) (by decide) sh_196 (by decide) (fun rf8 => ?_)
  refine rw_aload_n C dX9_init_65 rfl 0 rfl ?_
  refine rw_iconst (c := 2) C dX9_init_66 ci_2 ?_
  refine rw_newI (N := 205) (L := 2) C dX9_init_67 mw_24 (by decide) (by decide) (by decide) (by decide +kernel) rfl rfl (by rw [hR]; decide) (fun M9 => ?_)
  refine rw_putR (k0 := 196) (k1 := 205) C CC dX9_init_69 fl_X9_34 (fun T n C h => by cases h; rfl) (fun T m D h => by cases h; rfl) rfl (fun _ => rfl) (fun _ => rfl) (by decide) sh_196 (by decide) (fun rf9 => ?_)
  refine rw_aload_n C dX9_init_72 rfl 0 rfl ?_
  refine rw_bipush (c := 8) C dX9_init_73 (by decide) ?_
  refine rw_newI (N := 206) (L := 8) C dX9_init_75 mw_24 (by decide) (by decide) (by decide) (by decide +kernel) rfl rfl (by rw [hR]; decide) (fun M10 => ?_)
  refine rw_putR (k0 := 196) (k1 := 206) C CC dX9_init_77 fl_X9_37 (fun T n C h => by cases h; rfl) (fun T m D h => by cases h; rfl) rfl (fun _ => rfl) (fun _ => rfl) (by decide) sh_196 (by decide) (fun rf10 => ?_)
  refine rw_aload_n C dX9_init_80 rfl 0 rfl ?_
  refine rw_bipush (c := 40) C dX9_init_81 (by decide) ?_
  refine rw_newI (N := 207) (L := 40) C dX9_init_83 mw_24 (by decide) (by decide) (by decide) (by decide +kernel) rfl rfl (by rw [hR]; decide) (fun M11 => ?_)
  refine rw_putR (k0 := 196) (k1 := 207) C CC dX9_init_85 fl_X9_40 (fun T n C h => by cases h; rfl) (fun T m D h => by cases h; rfl) rfl (fun _ => rfl) (fun _ => rfl) (by decide) sh_196 (by decide) (fun rf11 => ?_)
  refine rw_aload_n C dX9_init_88 rfl 0 rfl ?_
  refine rw_bipush (c := 30) C dX9_init_89 (by decide) ?_
  refine rw_newI (N := 208) (L := 30) C dX9_init_91 mw_24 (by decide) (by decide) (by decide) (by decide +kernel) rfl rfl (by rw [hR]; decide) (fun M12 => ?_)
  refine rw_putR (k0 := 196) (k1 := 208) C CC dX9_init_93 fl_X9_43 (fun T n C h => by cases h; rfl) (fun T m D h => by cases h; rfl) rfl (fun _ => rfl) (fun _ => rfl) (by decide) sh_196 (by decide) (fun rf12 => ?_)
  refine rw_aload_n C dX9_init_96 rfl 0 rfl ?_
  refine rw_bipush (c := 120) C dX9_init_97 (by decide) ?_
  refine rw_newI (N := 209) (L := 120) C dX9_init_99 mw_24 (by decide) (by decide) (by decide) (by decide +kernel) rfl rfl (by rw [hR]; decide) (fun M13 => ?_)
  refine rw_putR (k0 := 196) (k1 := 209) C CC dX9_init_101 fl_X9_46 (fun T n C h => by cases h; rfl) (fun T m D h => by cases h; rfl) rfl (fun _ => rfl) (fun _ => rfl) (by decide) sh_196 (by decide) (fun rf13 => ?_)
  refine rw_aload_n C dX9_init_104 rfl 0 rfl ?_
  refine rw_bipush (c := 30) C dX9_init_105 (by decide) ?_
  refine rw_newI (N := 210) (L := 30) C dX9_init_107 mw_24 (by decide) (by decide) (by decide) (by decide +kernel) rfl rfl (by rw [hR]; decide) (fun M14 => ?_)
  refine rw_putR (k0 := 196) (k1 := 210) C CC dX9_init_109 fl_X9_49 (fun T n C h => by cases h; rfl) (fun T m D h => by cases h; rfl) rfl (fun _ => rfl) (fun _ => rfl) (by decide) sh_196 (by decide) (fun rf14 => ?_)
  refine rw_aload_n C dX9_init_112 rfl 0 rfl ?_
  refine rw_bipush (c := 48) C dX9_init_113 (by decide) ?_
  refine rw_newI (N := 211) (L := 48) C dX9_init_115 mw_24 (by decide) (by decide) (by decide) (by decide +kernel) rfl rfl (by rw [hR]; decide) (fun M15 => ?_)
  refine rw_putR (k0 := 196) (k1 := 211) C CC dX9_init_117 fl_X9_52 (fun T n C h => by cases h; rfl) (fun T m D h => by cases h; rfl) rfl (fun _ => rfl) (fun _ => rfl) (by decide) sh_196 (by decide) (fun rf15 => ?_)
  refine rw_aload_n C dX9_init_120 rfl 0 rfl ?_
  refine rw_bipush (c := 8) C dX9_init_121 (by decide) ?_
  refine rw_newI (N := 212) (L := 8) C dX9_init_123 mw_24 (by decide) (by decide) (by decide) (by decide +kernel) rfl rfl (by rw [hR]; decide) (fun M16 => ?_)
  refine rw_putR (k0 := 196) (k1 := 212) C CC dX9_init_125 fl_X9_55 (fun T n C h => by cases h; rfl) (fun T m D h => by cases h; rfl) rfl (fun _ => rfl) (fun _ => rfl) (by decide) sh_196 (by decide) (fun rf16 => ?_)
  refine rw_aload_n C dX9_init_128 rfl 0 rfl ?_
  refine rw_iconst (c := 4) C dX9_init_129 ci_4 ?_
  refine rw_newI (N := 213) (L := 4) C dX9_init_130 mw_24 (by decide) (by decide) (by decide) (by decide +kernel) rfl rfl (by rw [hR]; decide) (fun M17 => ?_)
  refine rw_putR (k0 := 196) (k1 := 213) C CC dX9_init_132 fl_X9_58 (fun T n C h => by cases h; rfl) (fun T m D h => by cases h; rfl) rfl (fun _ => rfl) (fun _ => rfl) (by decide) sh_196 (by decide) (fun rf17 => ?_)
  refine rw_aload_n C dX9_init_135 rfl 0 rfl ?_
  refine rw_bipush (c := 8) C dX9_init_136 (by decide) ?_
  refine rw_newI (N := 214) (L := 8) C dX9_init_138 mw_24 (by decide) (by decide) (by decide) (by decide +kernel) rfl rfl (by rw [hR]; decide) (fun M18 => ?_)
  refine rw_putR (k0 := 196) (k1 := 214) C CC dX9_init_140 fl_X9_61 (fun T n C h => by cases h; rfl) (fun T m D h => by cases h; rfl) rfl (fun _ => rfl) (fun _ => rfl) (by decide) sh_196 (by decide) (fun rf18 => ?_)
  refine rw_aload_n C dX9_init_143 rfl 0 rfl ?_
  refine rw_iconst (c := 2) C dX9_init_144 ci_2 ?_
  refine rw_newI (N := 215) (L := 2) C dX9_init_145 mw_24 (by decide) (by decide) (by decide) (by decide +kernel) rfl rfl (by rw [hR]; decide) (fun M19 => ?_)
  refine rw_putR (k0 := 196) (k1 := 215) C CC dX9_init_147 fl_X9_64 (fun T n C h => by cases h; rfl) (fun T m D h => by cases h; rfl) rfl (fun _ => rfl) (fun _ => rfl) (by decide) sh_196 (by decide) (fun rf19 => ?_)
  refine rw_aload_n C dX9_init_150 rfl 0 rfl ?_
  refine rw_bipush (c := 6) C dX9_init_151 (by decide) ?_
  refine rw_newI (N := 216) (L := 6) C dX9_init_153 mw_24 (by decide) (by decide) (by decide) (by decide +kernel) rfl rfl (by rw [hR]; decide) (fun M20 => ?_)
  refine rw_putR (k0 := 196) (k1 := 216) C CC dX9_init_155 fl_X9_67 (fun T n C h => by cases h; rfl) (fun T m D h => by cases h; rfl) rfl (fun _ => rfl) (fun _ => rfl) (by decide) sh_196 (by decide) (fun rf20 => ?_)
  refine rw_aload_n C dX9_init_158 rfl 0 rfl ?_
  refine rw_bipush (c := 6) C dX9_init_159 (by decide) ?_
  refine rw_newL (N := 217) (L := 6) C dX9_init_161 mw_107 (by decide) (by decide) (by decide) (by decide +kernel) rfl rfl (by rw [hR]; decide) (fun M21 => ?_)
  refine rw_putR (k0 := 196) (k1 := 217) C CC dX9_init_163 fl_X9_70 (fun T n C h => by cases h; rfl) (fun T m D h => by cases h; rfl) rfl (fun _ => rfl) (fun _ => rfl) (by decide) sh_196 (by decide) (fun rf21 => ?_)
  refine rw_aload_n C dX9_init_166 rfl 0 rfl ?_
  refine rw_bipush (c := 6) C dX9_init_167 (by decide) ?_
  refine rw_newL (N := 218) (L := 6) C dX9_init_169 mw_107 (by decide) (by decide) (by decide) (by decide +kernel) rfl rfl (by rw [hR]; decide) (fun M22 => ?_)
  refine rw_putR (k0 := 196) (k1 := 218) C CC dX9_init_171 fl_X9_74 (fun T n C h => by cases h; rfl) (fun T m D h => by cases h; rfl) rfl (fun _ => rfl) (fun _ => rfl) (by decide) sh_196 (by decide) (fun rf22 => ?_)
  refine rw_aload_n C dX9_init_174 rfl 0 rfl ?_
  refine rw_bipush (c := 32) C dX9_init_175 (by decide) ?_
  refine rw_newI (N := 219) (L := 32) C dX9_init_177 mw_24 (by decide) (by decide) (by decide) (by decide +kernel) rfl rfl (by rw [hR]; decide) (fun M23 => ?_)
  refine rw_putR (k0 := 196) (k1 := 219) C CC dX9_init_179 fl_X9_77 (fun T n C h => by cases h; rfl) (fun T m D h => by cases h; rfl) rfl (fun _ => rfl) (fun _ => rfl) (by decide) sh_196 (by decide) (fun rf23 => ?_)
  refine rw_aload_n C dX9_init_182 rfl 0 rfl ?_
  refine rw_iconst (c := 4) C dX9_init_183 ci_4 ?_
  refine rw_newI (N := 220) (L := 4) C dX9_init_184 mw_24 (by decide) (by decide) (by decide) (by decide +kernel) rfl rfl (by rw [hR]; decide) (fun M24 => ?_)
  refine rw_putR (k0 := 196) (k1 := 220) C CC dX9_init_186 fl_X9_80 (fun T n C h => by cases h; rfl) (fun T m D h => by cases h; rfl) rfl (fun _ => rfl) (fun _ => rfl) (by decide) sh_196 (by decide) (fun rf24 => ?_)
  refine rw_aload_n C dX9_init_189 rfl 0 rfl ?_
  refine rw_bipush (c := 18) C dX9_init_190 (by decide) ?_
  refine rw_newI (N := 221) (L := 18) C dX9_init_192 mw_24 (by decide) (by decide) (by decide) (by decide +kernel) rfl rfl (by rw [hR]; decide) (fun M25 => ?_)
  refine rw_putR (k0 := 196) (k1 := 221) C CC dX9_init_194 fl_X9_83 (fun T n C h => by cases h; rfl) (fun T m D h => by cases h; rfl) rfl (fun _ => rfl) (fun _ => rfl) (by decide) sh_196 (by decide) (fun rf25 => ?_)
  refine rw_iconst (c := 0) C dX9_init_197 ci_0 ?_
  refine rw_istore_n (lv' := [(1, .int 0), (0, .ref (κ.1 + 196))]) C dX9_init_198 rfl (by decide) rfl ?_
  refine rw_lv (lv' := [(0, .ref (κ.1 + 196)), (1, .int 0)]) [1, 0] rfl ?_
  refine pv_lp2_ind (fun x1 M26 xx => pv_R g κ 222 rf25 2 25 878 (pv_QC g κ 222 25 878) 199 [(0, .ref (κ.1 + 196)), (1, .int x1)] [] M26 xx) (fun _ _ => rw_none) (fun rec1 hrec1 x1 M26 => ?_) _ _ _
  unfold fc_X9_init_L199
  refine rw_iload_n C dX9_init_199 rfl 1 rfl ?_
  refine rw_iconst (c := 4) C dX9_init_200 ci_4 ?_
  refine rw_icmp_ge (tgt := 217) C dX9_init_201 (by decide) ?_ ?_
  · refine rw_iconst (c := 0) C dX9_init_217 ci_0 ?_
    refine rw_istore_n (lv' := [(1, .int 0), (0, .ref (κ.1 + 196))]) C dX9_init_218 rfl (by decide) rfl ?_
    refine rw_lv (lv' := [(0, .ref (κ.1 + 196)), (1, .int 0)]) [1, 0] rfl ?_
    refine pv_lp2_ind (fun x2 M27 xx => pv_R g κ 222 rf25 2 25 878 (pv_QC g κ 222 25 878) 219 [(0, .ref (κ.1 + 196)), (1, .int x2)] [] M27 xx) (fun _ _ => rw_none) (fun rec2 hrec2 x2 M27 => ?_) _ _ _
    unfold fc_X9_init_L219
    refine rw_iload_n C dX9_init_219 rfl 1 rfl ?_
    refine rw_bipush (c := 8) C dX9_init_220 (by decide) ?_
    refine rw_icmp_ge (tgt := 239) C dX9_init_222 (by decide) ?_ ?_
    · refine rw_iconst (c := 0) C dX9_init_239 ci_0 ?_
      refine rw_istore_n (lv' := [(1, .int 0), (0, .ref (κ.1 + 196))]) C dX9_init_240 rfl (by decide) rfl ?_
      refine rw_lv (lv' := [(0, .ref (κ.1 + 196)), (1, .int 0)]) [1, 0] rfl ?_
      refine pv_lp2_ind (fun x3 M28 xx => pv_R g κ 222 rf25 2 25 878 (pv_QC g κ 222 25 878) 241 [(0, .ref (κ.1 + 196)), (1, .int x3)] [] M28 xx) (fun _ _ => rw_none) (fun rec3 hrec3 x3 M28 => ?_) _ _ _
      unfold fc_X9_init_L241
      refine rw_iload_n C dX9_init_241 rfl 1 rfl ?_
      refine rw_bipush (c := 32) C dX9_init_242 (by decide) ?_
      refine rw_icmp_ge (tgt := 260) C dX9_init_244 (by decide) ?_ ?_
      · exact rw_vretC C dX9_init_260
      · refine rw_aload_n C dX9_init_247 rfl 0 rfl ?_
        refine rw_gr (fun hg1 => ?_)
        refine rw_getR (k0 := 196) (k1 := 219) C dX9_init_248 fl_X9_77 rfl (by decide) sh_196 (by decide) hg1 ?_
        refine rw_iload_n C dX9_init_251 rfl 1 rfl ?_
        refine rw_iconst (c := 1) C dX9_init_252 ci_1 ?_
        refine rw_stI C dX9_init_253 (fun M29 => ?_)
        refine rw_iinc (c := 1) (lv' := [(1, .int (x3 + 1)), (0, .ref (κ.1 + 196))]) C dX9_init_254 1 rfl (by decide) (by decide) rfl ?_
        refine rw_goto (tgt := 241) C dX9_init_257 (by decide) ?_
        exact rw_lv [1, 0] rfl (hrec3 (x3 + 1) M29)
    · refine rw_aload_n C dX9_init_225 rfl 0 rfl ?_
      refine rw_gr (fun hg2 => ?_)
      refine rw_getR (k0 := 196) (k1 := 206) C dX9_init_226 fl_X9_37 rfl (by decide) sh_196 (by decide) hg2 ?_
      refine rw_iload_n C dX9_init_229 rfl 1 rfl ?_
      refine rw_bipush (c := 100) C dX9_init_230 (by decide) ?_
      refine rw_stI C dX9_init_232 (fun M30 => ?_)
      refine rw_iinc (c := 1) (lv' := [(1, .int (x2 + 1)), (0, .ref (κ.1 + 196))]) C dX9_init_233 1 rfl (by decide) (by decide) rfl ?_
      refine rw_goto (tgt := 219) C dX9_init_236 (by decide) ?_
      exact rw_lv [1, 0] rfl (hrec2 (x2 + 1) M30)
  · refine rw_aload_n C dX9_init_204 rfl 0 rfl ?_
    refine rw_gr (fun hg3 => ?_)
    refine rw_getR (k0 := 196) (k1 := 197) C dX9_init_205 fl_X9_7 rfl (by decide) sh_196 (by decide) hg3 ?_
    refine rw_iload_n C dX9_init_208 rfl 1 rfl ?_
    refine rw_iconst (c := (-1)) C dX9_init_209 ci_m1 ?_
    refine rw_stI C dX9_init_210 (fun M31 => ?_)
    refine rw_iinc (c := 1) (lv' := [(1, .int (x1 + 1)), (0, .ref (κ.1 + 196))]) C dX9_init_211 1 rfl (by decide) (by decide) rfl ?_
    refine rw_goto (tgt := 199) C dX9_init_214 (by decide) ?_
    exact rw_lv [1, 0] rfl (hrec1 (x1 + 1) M31)
