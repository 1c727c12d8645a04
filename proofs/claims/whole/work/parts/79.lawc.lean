theorem lds {ρ : Type} {L k j : Nat} {xs : Nat → Int32} (x : Int32) (hx : x = nI j) (h : k + j < L) (hL : L ≤ 3584) (f : Int32 → Option ρ) : pv_ldS L xs (nI k + x) f = f (xs (k + j)) := by
  unfold pv_ldS
  rw [hx, nI_add, if_pos ⟨nI_pos (by omega), by rw [nI_clamp (by omega)]; exact h⟩, nI_clamp (by omega)]
theorem cmpS (x : Int64) : lg_cmp x x = 0 := (lg_cmp_eq x x).mpr rfl
section LC
variable {L k c : Nat} {xs : Nat → Int32} {M : pv_M} {rec : Int32 → pv_M → Option Int32}
theorem lc_0 (hk : k + 7 ≤ L) (hL : L ≤ 3584) (hc : c < 512) (hI : Inv RIo (CAo BAo) c M) (hrec : ∀ M2, Inv RIo (CAo BAo) (c + 1) M2 → rec (nI (k + 7)) M2 = some 1) : law_c0 L xs (nI k) M rec = some 1 := by
  obtain ⟨r, M1, M2, e1, e2, e3⟩ := (op_type RIo (CAo BAo) (xs (k + 1)) (xs (k + 2))) c M hc hI
  unfold law_c0
  rw [lds 1 (j := 1) rfl (by omega) hL, lds 2 (j := 2) rfl (by omega) hL, e1, pv_cal_some, lds 1 (j := 1) rfl (by omega) hL, lds 2 (j := 2) rfl (by omega) hL, e2, pv_cal_some, if_pos rfl, show (7 : Int32) = nI 7 from rfl, nI_add]
  exact hrec M2 e3
theorem lc_1 (hk : k + 7 ≤ L) (hL : L ≤ 3584) (hc : c < 512) (hI : Inv RIo (CAo BAo) c M) (hrec : ∀ M2, Inv RIo (CAo BAo) (c + 1) M2 → rec (nI (k + 7)) M2 = some 1) : law_c1 L xs (nI k) M rec = some 1 := by
  obtain ⟨r, M1, M2, e1, e2, e3⟩ := (op_wipe RIo (CAo BAo) (xs (k + 1))) c M hc hI
  unfold law_c1
  rw [lds 1 (j := 1) rfl (by omega) hL, e1, pv_cal_some, lds 1 (j := 1) rfl (by omega) hL, e2, pv_cal_some, if_pos rfl, show (7 : Int32) = nI 7 from rfl, nI_add]
  exact hrec M2 e3
theorem lc_2 (hk : k + 7 ≤ L) (hL : L ≤ 3584) (hc : c < 512) (hI : Inv RIo (CAo BAo) c M) (hrec : ∀ M2, Inv RIo (CAo BAo) (c + 1) M2 → rec (nI (k + 7)) M2 = some 1) : law_c2 L xs (nI k) M rec = some 1 := by
  obtain ⟨r, M1, M2, e1, e2, e3⟩ := (op_undo RIo (CAo BAo) (xs (k + 1))) c M hc hI
  unfold law_c2
  rw [lds 1 (j := 1) rfl (by omega) hL, e1, pv_cal_some, lds 1 (j := 1) rfl (by omega) hL, e2, pv_cal_some, if_pos rfl, show (7 : Int32) = nI 7 from rfl, nI_add]
  exact hrec M2 e3
theorem lc_3 (hk : k + 7 ≤ L) (hL : L ≤ 3584) (hc : c < 512) (hI : Inv RIo (CAo BAo) c M) (hrec : ∀ M2, Inv RIo (CAo BAo) (c + 1) M2 → rec (nI (k + 7)) M2 = some 1) : law_c3 L xs (nI k) M rec = some 1 := by
  obtain ⟨r, M2, e1, e2, e3⟩ := (op_fault RIo (CAo BAo) (xs (k + 1))) c M hc hI
  unfold law_c3
  rw [lds 1 (j := 1) rfl (by omega) hL, e1, pv_cap_some, lds 1 (j := 1) rfl (by omega) hL, e2, pv_cal_some, if_pos rfl, show (7 : Int32) = nI 7 from rfl, nI_add]
  exact hrec M2 e3
theorem lc_4 (hk : k + 7 ≤ L) (hL : L ≤ 3584) (hc : c < 512) (hI : Inv RIo (CAo BAo) c M) (hrec : ∀ M2, Inv RIo (CAo BAo) (c + 1) M2 → rec (nI (k + 7)) M2 = some 1) : law_c4 L xs (nI k) M rec = some 1 := by
  obtain ⟨r, M1, M2, e1, e2, e3⟩ := (op_ticket BAo_ok (xs (k + 1)) (xs (k + 2)) (xs (k + 3))) c M hc hI
  unfold law_c4
  rw [lds 1 (j := 1) rfl (by omega) hL, lds 2 (j := 2) rfl (by omega) hL, lds 3 (j := 3) rfl (by omega) hL, e1, pv_cal_some, lds 1 (j := 1) rfl (by omega) hL, lds 2 (j := 2) rfl (by omega) hL, lds 3 (j := 3) rfl (by omega) hL, e2, pv_cal_some, if_pos rfl, show (7 : Int32) = nI 7 from rfl, nI_add]
  exact hrec M2 e3
theorem lc_5 (hk : k + 7 ≤ L) (hL : L ≤ 3584) (hc : c < 512) (hI : Inv RIo (CAo BAo) c M) (hrec : ∀ M2, Inv RIo (CAo BAo) (c + 1) M2 → rec (nI (k + 7)) M2 = some 1) : law_c5 L xs (nI k) M rec = some 1 := by
  obtain ⟨r, M1, M2, e1, e2, e3⟩ := (op_voter BAo_ok (xs (k + 1)) (xs (k + 2))) c M hc hI
  unfold law_c5
  rw [lds 1 (j := 1) rfl (by omega) hL, lds 2 (j := 2) rfl (by omega) hL, e1, pv_cal_some, lds 1 (j := 1) rfl (by omega) hL, lds 2 (j := 2) rfl (by omega) hL, e2, pv_cal_some, if_pos rfl, show (7 : Int32) = nI 7 from rfl, nI_add]
  exact hrec M2 e3
theorem lc_6 (hk : k + 7 ≤ L) (hL : L ≤ 3584) (hc : c < 512) (hI : Inv RIo (CAo BAo) c M) (hrec : ∀ M2, Inv RIo (CAo BAo) (c + 1) M2 → rec (nI (k + 7)) M2 = some 1) : law_c6 L xs (nI k) M rec = some 1 := by
  obtain ⟨r, M1, M2, e1, e2, e3⟩ := (op_set RIo (CAo BAo) (xs (k + 1)) (xs (k + 2))) c M hc hI
  unfold law_c6
  rw [lds 1 (j := 1) rfl (by omega) hL, lds 2 (j := 2) rfl (by omega) hL, e1, pv_cal_some, lds 1 (j := 1) rfl (by omega) hL, lds 2 (j := 2) rfl (by omega) hL, e2, pv_cal_some, if_pos rfl, show (7 : Int32) = nI 7 from rfl, nI_add]
  exact hrec M2 e3
theorem lc_7 (hk : k + 7 ≤ L) (hL : L ≤ 3584) (hc : c < 512) (hI : Inv RIo (CAo BAo) c M) (hrec : ∀ M2, Inv RIo (CAo BAo) (c + 1) M2 → rec (nI (k + 7)) M2 = some 1) : law_c7 L xs (nI k) M rec = some 1 := by
  obtain ⟨r, M1, M2, e1, e2, e3⟩ := (op_purse RIo (CAo BAo) (xs (k + 1)) (xs (k + 2))) c M hc hI
  unfold law_c7
  rw [lds 1 (j := 1) rfl (by omega) hL, lds 2 (j := 2) rfl (by omega) hL, e1, pv_cal_some, lds 1 (j := 1) rfl (by omega) hL, lds 2 (j := 2) rfl (by omega) hL, e2, pv_cal_some, if_pos rfl, show (7 : Int32) = nI 7 from rfl, nI_add]
  exact hrec M2 e3
theorem lc_8 (hk : k + 7 ≤ L) (hL : L ≤ 3584) (hc : c < 512) (hI : Inv RIo (CAo BAo) c M) (hrec : ∀ M2, Inv RIo (CAo BAo) (c + 1) M2 → rec (nI (k + 7)) M2 = some 1) : law_c8 L xs (nI k) M rec = some 1 := by
  obtain ⟨r, M1, M2, e1, e2, e3⟩ := (op_change RIo (CAo BAo) (xs (k + 1)) (xs (k + 2)) (xs (k + 3)) (xs (k + 4))) c M hc hI
  unfold law_c8
  rw [lds 1 (j := 1) rfl (by omega) hL, lds 2 (j := 2) rfl (by omega) hL, lds 3 (j := 3) rfl (by omega) hL, lds 4 (j := 4) rfl (by omega) hL, e1, pv_cal_some, lds 1 (j := 1) rfl (by omega) hL, lds 2 (j := 2) rfl (by omega) hL, lds 3 (j := 3) rfl (by omega) hL, lds 4 (j := 4) rfl (by omega) hL, e2, pv_cal_some, if_pos rfl, show (7 : Int32) = nI 7 from rfl, nI_add]
  exact hrec M2 e3
theorem lc_9 (hk : k + 7 ≤ L) (hL : L ≤ 3584) (hc : c < 512) (hI : Inv RIo (CAo BAo) c M) (hrec : ∀ M2, Inv RIo (CAo BAo) (c + 1) M2 → rec (nI (k + 7)) M2 = some 1) : law_c9 L xs (nI k) M rec = some 1 := by
  obtain ⟨r, M1, M2, e1, e2, e3⟩ := (op_back RIo (CAo BAo) (xs (k + 1))) c M hc hI
  unfold law_c9
  rw [lds 1 (j := 1) rfl (by omega) hL, e1, pv_cal_some, lds 1 (j := 1) rfl (by omega) hL, e2, pv_cal_some, if_pos rfl, show (7 : Int32) = nI 7 from rfl, nI_add]
  exact hrec M2 e3
theorem lc_10 (hk : k + 7 ≤ L) (hL : L ≤ 3584) (hc : c < 512) (hI : Inv RIo (CAo BAo) c M) (hrec : ∀ M2, Inv RIo (CAo BAo) (c + 1) M2 → rec (nI (k + 7)) M2 = some 1) : law_c10 L xs (nI k) M rec = some 1 := by
  obtain ⟨r, M1, M2, e1, e2, e3⟩ := (op_elected BAo_ok (xs (k + 1)) (xs (k + 2))) c M hc hI
  unfold law_c10
  rw [lds 1 (j := 1) rfl (by omega) hL, lds 2 (j := 2) rfl (by omega) hL, e1, pv_cal_some, lds 1 (j := 1) rfl (by omega) hL, lds 2 (j := 2) rfl (by omega) hL, e2, pv_cal_some, if_pos rfl, show (7 : Int32) = nI 7 from rfl, nI_add]
  exact hrec M2 e3
theorem lc_11 (hk : k + 7 ≤ L) (hL : L ≤ 3584) (hc : c < 512) (hI : Inv RIo (CAo BAo) c M) (hrec : ∀ M2, Inv RIo (CAo BAo) (c + 1) M2 → rec (nI (k + 7)) M2 = some 1) : law_c11 L xs (nI k) M rec = some 1 := by
  obtain ⟨r, M1, M2, e1, e2, e3⟩ := (op_great BAo_ok (xs (k + 1)) (xs (k + 2))) c M hc hI
  unfold law_c11
  rw [lds 1 (j := 1) rfl (by omega) hL, lds 2 (j := 2) rfl (by omega) hL, e1, pv_cal_some, lds 1 (j := 1) rfl (by omega) hL, lds 2 (j := 2) rfl (by omega) hL, e2, pv_cal_some, if_pos rfl, show (7 : Int32) = nI 7 from rfl, nI_add]
  exact hrec M2 e3
theorem lc_12 (hk : k + 7 ≤ L) (hL : L ≤ 3584) (hc : c < 512) (hI : Inv RIo (CAo BAo) c M) (hrec : ∀ M2, Inv RIo (CAo BAo) (c + 1) M2 → rec (nI (k + 7)) M2 = some 1) : law_c12 L xs (nI k) M rec = some 1 := by
  obtain ⟨r, M1, M2, e1, e2, e3⟩ := (op_votes BAo_ok (xs (k + 1)) (xs (k + 2)) (xs (k + 3))) c M hc hI
  unfold law_c12
  rw [lds 1 (j := 1) rfl (by omega) hL, lds 2 (j := 2) rfl (by omega) hL, lds 3 (j := 3) rfl (by omega) hL, e1, pv_cal_some, lds 1 (j := 1) rfl (by omega) hL, lds 2 (j := 2) rfl (by omega) hL, lds 3 (j := 3) rfl (by omega) hL, e2, pv_cal_some, if_pos rfl, show (7 : Int32) = nI 7 from rfl, nI_add]
  exact hrec M2 e3
theorem lc_13 (hk : k + 7 ≤ L) (hL : L ≤ 3584) (hc : c < 512) (hI : Inv RIo (CAo BAo) c M) (hrec : ∀ M2, Inv RIo (CAo BAo) (c + 1) M2 → rec (nI (k + 7)) M2 = some 1) : law_c13 M rec (nI k) = some 1 := by
  obtain ⟨r, M1, M2, e1, e2, e3⟩ := (op_split BAo_ok ) c M hc hI
  unfold law_c13
  rw [e1, pv_cal_some, e2, pv_cal_some, if_pos rfl, show (7 : Int32) = nI 7 from rfl, nI_add]
  exact hrec M2 e3
theorem lc_14 (hk : k + 7 ≤ L) (hL : L ≤ 3584) (hc : c < 512) (hI : Inv RIo (CAo BAo) c M) (hrec : ∀ M2, Inv RIo (CAo BAo) (c + 1) M2 → rec (nI (k + 7)) M2 = some 1) : law_c14 L xs (nI k) M rec = some 1 := by
  obtain ⟨r, M1, M2, e1, e2, e3⟩ := (op_contract RIo (CAo BAo) (xs (k + 1)) (xs (k + 2)) (xs (k + 3)) (xs (k + 4)) (xs (k + 5)) (xs (k + 6))) c M hc hI
  unfold law_c14
  rw [lds 1 (j := 1) rfl (by omega) hL, lds 2 (j := 2) rfl (by omega) hL, lds 3 (j := 3) rfl (by omega) hL, lds 4 (j := 4) rfl (by omega) hL, lds 5 (j := 5) rfl (by omega) hL, lds 6 (j := 6) rfl (by omega) hL, e1, pv_cal_some, lds 1 (j := 1) rfl (by omega) hL, lds 2 (j := 2) rfl (by omega) hL, lds 3 (j := 3) rfl (by omega) hL, lds 4 (j := 4) rfl (by omega) hL, lds 5 (j := 5) rfl (by omega) hL, lds 6 (j := 6) rfl (by omega) hL, e2, pv_cal_some, if_pos rfl, show (7 : Int32) = nI 7 from rfl, nI_add]
  exact hrec M2 e3
theorem lc_15 (hk : k + 7 ≤ L) (hL : L ≤ 3584) (hc : c < 512) (hI : Inv RIo (CAo BAo) c M) (hrec : ∀ M2, Inv RIo (CAo BAo) (c + 1) M2 → rec (nI (k + 7)) M2 = some 1) : law_c15 L xs (nI k) M rec = some 1 := by
  obtain ⟨r, M1, M2, e1, e2, e3⟩ := (op_money BAo_ok (xs (k + 1)) (xs (k + 2))) c M hc hI
  unfold law_c15
  rw [lds 1 (j := 1) rfl (by omega) hL, lds 2 (j := 2) rfl (by omega) hL, e1, pv_cal_some, lds 1 (j := 1) rfl (by omega) hL, lds 2 (j := 2) rfl (by omega) hL, e2, pv_cal_some, if_pos rfl, show (7 : Int32) = nI 7 from rfl, nI_add]
  exact hrec M2 e3
theorem lc_16 (hk : k + 7 ≤ L) (hL : L ≤ 3584) (hc : c < 512) (hI : Inv RIo (CAo BAo) c M) (hrec : ∀ M2, Inv RIo (CAo BAo) (c + 1) M2 → rec (nI (k + 7)) M2 = some 1) : law_c16 L xs (nI k) M rec = some 1 := by
  obtain ⟨r, M1, M2, e1, e2, e3⟩ := (op_ruined BAo_ok (xs (k + 1))) c M hc hI
  unfold law_c16
  rw [lds 1 (j := 1) rfl (by omega) hL, e1, pv_cal_some, lds 1 (j := 1) rfl (by omega) hL, e2, pv_cal_some, if_pos rfl, show (7 : Int32) = nI 7 from rfl, nI_add]
  exact hrec M2 e3
theorem lc_17 (hk : k + 7 ≤ L) (hL : L ≤ 3584) (hc : c < 512) (hI : Inv RIo (CAo BAo) c M) (hrec : ∀ M2, Inv RIo (CAo BAo) (c + 1) M2 → rec (nI (k + 7)) M2 = some 1) : law_c17 L xs (nI k) M rec = some 1 := by
  obtain ⟨r, M1, M2, e1, e2, e3⟩ := (op_worst BAo_ok (xs (k + 1))) c M hc hI
  unfold law_c17
  rw [lds 1 (j := 1) rfl (by omega) hL, e1, pv_cal_some, lds 1 (j := 1) rfl (by omega) hL, e2, pv_cal_some, if_pos rfl, show (7 : Int32) = nI 7 from rfl, nI_add]
  exact hrec M2 e3
theorem lc_18 (hk : k + 7 ≤ L) (hL : L ≤ 3584) (hc : c < 512) (hI : Inv RIo (CAo BAo) c M) (hrec : ∀ M2, Inv RIo (CAo BAo) (c + 1) M2 → rec (nI (k + 7)) M2 = some 1) : law_c18 L xs (nI k) M rec = some 1 := by
  obtain ⟨r, M1, M2, e1, e2, e3⟩ := (op_rest (xs (k + 1))) c M hc hI
  unfold law_c18
  rw [lds 1 (j := 1) rfl (by omega) hL, e1, pv_cal_some, lds 1 (j := 1) rfl (by omega) hL, e2, pv_cal_some, if_pos rfl, show (7 : Int32) = nI 7 from rfl, nI_add]
  exact hrec M2 e3
theorem lc_19 (hk : k + 7 ≤ L) (hL : L ≤ 3584) (hc : c < 512) (hI : Inv RIo (CAo BAo) c M) (hrec : ∀ M2, Inv RIo (CAo BAo) (c + 1) M2 → rec (nI (k + 7)) M2 = some 1) : law_c19 M rec (nI k) = some 1 := by
  obtain ⟨r, M1, M2, e1, e2, e3⟩ := (op_rests ) c M hc hI
  unfold law_c19
  rw [e1, pv_cal_some, e2, pv_cal_some, if_pos rfl, show (7 : Int32) = nI 7 from rfl, nI_add]
  exact hrec M2 e3
theorem lc_20 (hk : k + 7 ≤ L) (hL : L ≤ 3584) (hc : c < 512) (hI : Inv RIo (CAo BAo) c M) (hrec : ∀ M2, Inv RIo (CAo BAo) (c + 1) M2 → rec (nI (k + 7)) M2 = some 1) : law_c20 L xs (nI k) M rec = some 1 := by
  obtain ⟨r, M1, M2, e1, e2, e3⟩ := (op_wins (xs (k + 1)) (xs (k + 2))) c M hc hI
  unfold law_c20
  rw [lds 1 (j := 1) rfl (by omega) hL, lds 2 (j := 2) rfl (by omega) hL, e1, pv_cal_some, lds 1 (j := 1) rfl (by omega) hL, lds 2 (j := 2) rfl (by omega) hL, e2, pv_cal_some, if_pos rfl, show (7 : Int32) = nI 7 from rfl, nI_add]
  exact hrec M2 e3
theorem lc_21 (hk : k + 7 ≤ L) (hL : L ≤ 3584) (hc : c < 512) (hI : Inv RIo (CAo BAo) c M) (hrec : ∀ M2, Inv RIo (CAo BAo) (c + 1) M2 → rec (nI (k + 7)) M2 = some 1) : law_c21 L xs (nI k) M rec = some 1 := by
  obtain ⟨r, M1, M2, e1, e2, e3⟩ := (op_hedge (xs (k + 1))) c M hc hI
  unfold law_c21
  rw [lds 1 (j := 1) rfl (by omega) hL, e1, pv_cal_some, lds 1 (j := 1) rfl (by omega) hL, e2, pv_cal_some, if_pos rfl, show (7 : Int32) = nI 7 from rfl, nI_add]
  exact hrec M2 e3
theorem lc_22 (hk : k + 7 ≤ L) (hL : L ≤ 3584) (hc : c < 512) (hI : Inv RIo (CAo BAo) c M) (hrec : ∀ M2, Inv RIo (CAo BAo) (c + 1) M2 → rec (nI (k + 7)) M2 = some 1) : law_c22 L xs (nI k) M rec = some 1 := by
  obtain ⟨r, M1, M2, e1, e2, e3⟩ := (op_worth (BA := BAo) (xs (k + 1)) (xs (k + 2)) (xs (k + 3))) c M hc hI
  unfold law_c22
  rw [lds 1 (j := 1) rfl (by omega) hL, lds 2 (j := 2) rfl (by omega) hL, lds 3 (j := 3) rfl (by omega) hL, e1, pv_cal_some, lds 1 (j := 1) rfl (by omega) hL, lds 2 (j := 2) rfl (by omega) hL, lds 3 (j := 3) rfl (by omega) hL, e2, pv_cal_some, if_pos (cmpS r), show (7 : Int32) = nI 7 from rfl, nI_add]
  exact hrec M2 e3
theorem lc_23 (hk : k + 7 ≤ L) (hL : L ≤ 3584) (hc : c < 512) (hI : Inv RIo (CAo BAo) c M) (hrec : ∀ M2, Inv RIo (CAo BAo) (c + 1) M2 → rec (nI (k + 7)) M2 = some 1) : law_c23 M rec (nI k) = some 1 := by
  obtain ⟨r, M1, M2, e1, e2, e3⟩ := (op_clash (BA := BAo) ) c M hc hI
  unfold law_c23
  rw [e1, pv_cal_some, e2, pv_cal_some, if_pos rfl, show (7 : Int32) = nI 7 from rfl, nI_add]
  exact hrec M2 e3
theorem lc_24 (hk : k + 7 ≤ L) (hL : L ≤ 3584) (hc : c < 512) (hI : Inv RIo (CAo BAo) c M) (hrec : ∀ M2, Inv RIo (CAo BAo) (c + 1) M2 → rec (nI (k + 7)) M2 = some 1) : law_c24 M rec (nI k) = some 1 := by
  obtain ⟨r, M1, M2, e1, e2, e3⟩ := (op_drop (BA := BAo) ) c M hc hI
  unfold law_c24
  rw [e1, pv_cal_some, e2, pv_cal_some, if_pos rfl, show (7 : Int32) = nI 7 from rfl, nI_add]
  exact hrec M2 e3
theorem lc_25 (hk : k + 7 ≤ L) (hL : L ≤ 3584) (hc : c < 512) (hI : Inv RIo (CAo BAo) c M) (hrec : ∀ M2, Inv RIo (CAo BAo) (c + 1) M2 → rec (nI (k + 7)) M2 = some 1) : law_c25 L xs (nI k) M rec = some 1 := by
  obtain ⟨r, M1, M2, e1, e2, e3⟩ := (op_rate RIo (CAo BAo) (xs (k + 1)) (xs (k + 2)) (xs (k + 3)) (xs (k + 4))) c M hc hI
  unfold law_c25
  rw [lds 1 (j := 1) rfl (by omega) hL, lds 2 (j := 2) rfl (by omega) hL, lds 3 (j := 3) rfl (by omega) hL, lds 4 (j := 4) rfl (by omega) hL, e1, pv_cal_some, lds 1 (j := 1) rfl (by omega) hL, lds 2 (j := 2) rfl (by omega) hL, lds 3 (j := 3) rfl (by omega) hL, lds 4 (j := 4) rfl (by omega) hL, e2, pv_cal_some, if_pos rfl, show (7 : Int32) = nI 7 from rfl, nI_add]
  exact hrec M2 e3
theorem lc_26 (hk : k + 7 ≤ L) (hL : L ≤ 3584) (hc : c < 512) (hI : Inv RIo (CAo BAo) c M) (hrec : ∀ M2, Inv RIo (CAo BAo) (c + 1) M2 → rec (nI (k + 7)) M2 = some 1) : law_c26 L xs (nI k) M rec = some 1 := by
  obtain ⟨r, M1, M2, e1, e2, e3⟩ := (op_round (BA := BAo) (xs (k + 1))) c M hc hI
  unfold law_c26
  rw [lds 1 (j := 1) rfl (by omega) hL, e1, pv_cal_some, lds 1 (j := 1) rfl (by omega) hL, e2, pv_cal_some, if_pos rfl, show (7 : Int32) = nI 7 from rfl, nI_add]
  exact hrec M2 e3
theorem lc_27 (hk : k + 7 ≤ L) (hL : L ≤ 3584) (hc : c < 512) (hI : Inv RIo (CAo BAo) c M) (hrec : ∀ M2, Inv RIo (CAo BAo) (c + 1) M2 → rec (nI (k + 7)) M2 = some 1) : law_c27 L xs (nI k) M rec = some 1 := by
  obtain ⟨r, M1, M2, e1, e2, e3⟩ := (op_bill RIo (CAo BAo) (xs (k + 1)) (xs (k + 2)) (xs (k + 3))) c M hc hI
  unfold law_c27
  rw [lds 1 (j := 1) rfl (by omega) hL, lds 2 (j := 2) rfl (by omega) hL, lds 3 (j := 3) rfl (by omega) hL, e1, pv_cal_some, lds 1 (j := 1) rfl (by omega) hL, lds 2 (j := 2) rfl (by omega) hL, lds 3 (j := 3) rfl (by omega) hL, e2, pv_cal_some, if_pos rfl, show (7 : Int32) = nI 7 from rfl, nI_add]
  exact hrec M2 e3
theorem lc_28 (hk : k + 7 ≤ L) (hL : L ≤ 3584) (hc : c < 512) (hI : Inv RIo (CAo BAo) c M) (hrec : ∀ M2, Inv RIo (CAo BAo) (c + 1) M2 → rec (nI (k + 7)) M2 = some 1) : law_c28 M rec (nI k) = some 1 := by
  obtain ⟨r, M1, M2, e1, e2, e3⟩ := (op_years BAo_ok ) c M hc hI
  unfold law_c28
  rw [e1, pv_cal_some, e2, pv_cal_some, if_pos rfl, show (7 : Int32) = nI 7 from rfl, nI_add]
  exact hrec M2 e3
theorem lc_29 (hk : k + 7 ≤ L) (hL : L ≤ 3584) (hc : c < 512) (hI : Inv RIo (CAo BAo) c M) (hrec : ∀ M2, Inv RIo (CAo BAo) (c + 1) M2 → rec (nI (k + 7)) M2 = some 1) : law_c29 L xs (nI k) M rec = some 1 := by
  obtain ⟨r, M1, M2, e1, e2, e3⟩ := (op_sheet RIo (CAo BAo) (xs (k + 1)) (xs (k + 2)) (xs (k + 3))) c M hc hI
  unfold law_c29
  rw [lds 1 (j := 1) rfl (by omega) hL, lds 2 (j := 2) rfl (by omega) hL, lds 3 (j := 3) rfl (by omega) hL, e1, pv_cal_some, lds 1 (j := 1) rfl (by omega) hL, lds 2 (j := 2) rfl (by omega) hL, lds 3 (j := 3) rfl (by omega) hL, e2, pv_cal_some, if_pos rfl, show (7 : Int32) = nI 7 from rfl, nI_add]
  exact hrec M2 e3
theorem lc_30 (hk : k + 7 ≤ L) (hL : L ≤ 3584) (hc : c < 512) (hI : Inv RIo (CAo BAo) c M) (hrec : ∀ M2, Inv RIo (CAo BAo) (c + 1) M2 → rec (nI (k + 7)) M2 = some 1) : law_c30 L xs (nI k) M rec = some 1 := by
  obtain ⟨r, M1, M2, e1, e2, e3⟩ := (op_lose RIo (CAo BAo) (xs (k + 1))) c M hc hI
  unfold law_c30
  rw [lds 1 (j := 1) rfl (by omega) hL, e1, pv_cal_some, lds 1 (j := 1) rfl (by omega) hL, e2, pv_cal_some, if_pos rfl, show (7 : Int32) = nI 7 from rfl, nI_add]
  exact hrec M2 e3
theorem lc_31 (hk : k + 7 ≤ L) (hL : L ≤ 3584) (hc : c < 512) (hI : Inv RIo (CAo BAo) c M) (hrec : ∀ M2, Inv RIo (CAo BAo) (c + 1) M2 → rec (nI (k + 7)) M2 = some 1) : law_c31 L xs (nI k) M rec = some 1 := by
  obtain ⟨r, M1, M2, e1, e2, e3⟩ := (op_lay RIo (CAo BAo) (xs (k + 1)) (xs (k + 2)) (xs (k + 3)) (xs (k + 4))) c M hc hI
  unfold law_c31
  rw [lds 1 (j := 1) rfl (by omega) hL, lds 2 (j := 2) rfl (by omega) hL, lds 3 (j := 3) rfl (by omega) hL, lds 4 (j := 4) rfl (by omega) hL, e1, pv_cal_some, lds 1 (j := 1) rfl (by omega) hL, lds 2 (j := 2) rfl (by omega) hL, lds 3 (j := 3) rfl (by omega) hL, lds 4 (j := 4) rfl (by omega) hL, e2, pv_cal_some, if_pos rfl, show (7 : Int32) = nI 7 from rfl, nI_add]
  exact hrec M2 e3
theorem lc_32 (hk : k + 7 ≤ L) (hL : L ≤ 3584) (hc : c < 512) (hI : Inv RIo (CAo BAo) c M) (hrec : ∀ M2, Inv RIo (CAo BAo) (c + 1) M2 → rec (nI (k + 7)) M2 = some 1) : law_c32 L xs (nI k) M rec = some 1 := by
  obtain ⟨r, M1, M2, e1, e2, e3⟩ := (op_get RIo (CAo BAo) (xs (k + 1)) (xs (k + 2)) (xs (k + 3))) c M hc hI
  unfold law_c32
  rw [lds 1 (j := 1) rfl (by omega) hL, lds 2 (j := 2) rfl (by omega) hL, lds 3 (j := 3) rfl (by omega) hL, e1, pv_cal_some, lds 1 (j := 1) rfl (by omega) hL, lds 2 (j := 2) rfl (by omega) hL, lds 3 (j := 3) rfl (by omega) hL, e2, pv_cal_some, if_pos rfl, show (7 : Int32) = nI 7 from rfl, nI_add]
  exact hrec M2 e3
theorem lc_33 (hk : k + 7 ≤ L) (hL : L ≤ 3584) (hc : c < 512) (hI : Inv RIo (CAo BAo) c M) (hrec : ∀ M2, Inv RIo (CAo BAo) (c + 1) M2 → rec (nI (k + 7)) M2 = some 1) : law_c33 L xs (nI k) M rec = some 1 := by
  obtain ⟨r, M1, M2, e1, e2, e3⟩ := (op_copy RIo (CAo BAo) (xs (k + 1)) (xs (k + 2)) (xs (k + 3)) (xs (k + 4)) (xs (k + 5))) c M hc hI
  unfold law_c33
  rw [lds 1 (j := 1) rfl (by omega) hL, lds 2 (j := 2) rfl (by omega) hL, lds 3 (j := 3) rfl (by omega) hL, lds 4 (j := 4) rfl (by omega) hL, lds 5 (j := 5) rfl (by omega) hL, e1, pv_cal_some, lds 1 (j := 1) rfl (by omega) hL, lds 2 (j := 2) rfl (by omega) hL, lds 3 (j := 3) rfl (by omega) hL, lds 4 (j := 4) rfl (by omega) hL, lds 5 (j := 5) rfl (by omega) hL, e2, pv_cal_some, if_pos rfl, show (7 : Int32) = nI 7 from rfl, nI_add]
  exact hrec M2 e3
theorem lc_34 (hk : k + 7 ≤ L) (hL : L ≤ 3584) (hc : c < 512) (hI : Inv RIo (CAo BAo) c M) (hrec : ∀ M2, Inv RIo (CAo BAo) (c + 1) M2 → rec (nI (k + 7)) M2 = some 1) : law_c34 L xs (nI k) M rec = some 1 := by
  obtain ⟨r, M1, M2, e1, e2, e3⟩ := (op_read RIo (CAo BAo) (xs (k + 1))) c M hc hI
  unfold law_c34
  rw [lds 1 (j := 1) rfl (by omega) hL, e1, pv_cal_some, lds 1 (j := 1) rfl (by omega) hL, e2, pv_cal_some, if_pos rfl, show (7 : Int32) = nI 7 from rfl, nI_add]
  exact hrec M2 e3
theorem lc_35 (hk : k + 7 ≤ L) (hL : L ≤ 3584) (hc : c < 512) (hI : Inv RIo (CAo BAo) c M) (hrec : ∀ M2, Inv RIo (CAo BAo) (c + 1) M2 → rec (nI (k + 7)) M2 = some 1) : law_c35 L xs (nI k) M rec = some 1 := by
  obtain ⟨r, M1, M2, e1, e2, e3⟩ := (op_write BAo_ok (xs (k + 1)) (xs (k + 2))) c M hc hI
  unfold law_c35
  rw [lds 1 (j := 1) rfl (by omega) hL, lds 2 (j := 2) rfl (by omega) hL, e1, pv_cal_some, lds 1 (j := 1) rfl (by omega) hL, lds 2 (j := 2) rfl (by omega) hL, e2, pv_cal_some, if_pos rfl, show (7 : Int32) = nI 7 from rfl, nI_add]
  exact hrec M2 e3
theorem lc_36 (hk : k + 7 ≤ L) (hL : L ≤ 3584) (hc : c < 512) (hI : Inv RIo (CAo BAo) c M) (hrec : ∀ M2, Inv RIo (CAo BAo) (c + 1) M2 → rec (nI (k + 7)) M2 = some 1) : law_c36 L xs (nI k) M rec = some 1 := by
  obtain ⟨r, M2, e1, e2, e3⟩ := (op_count RIo (CAo BAo) (xs (k + 1))) c M hc hI
  unfold law_c36
  rw [lds 1 (j := 1) rfl (by omega) hL, e1, pv_cap_some, lds 1 (j := 1) rfl (by omega) hL, e2, pv_cal_some, if_pos rfl, show (7 : Int32) = nI 7 from rfl, nI_add]
  exact hrec M2 e3
theorem lc_37 (hk : k + 7 ≤ L) (hL : L ≤ 3584) (hc : c < 512) (hI : Inv RIo (CAo BAo) c M) (hrec : ∀ M2, Inv RIo (CAo BAo) (c + 1) M2 → rec (nI (k + 7)) M2 = some 1) : law_c37 M rec (nI k) = some 1 := by
  obtain ⟨r, M1, M2, e1, e2, e3⟩ := (op_digest ) c M hc hI
  unfold law_c37
  rw [e1, pv_cal_some, e2, pv_cal_some, if_pos (cmpS r), show (7 : Int32) = nI 7 from rfl, nI_add]
  exact hrec M2 e3
end LC
