section M
variable {BA : pv_BA} {c v : Nat} {M : pv_M} {n : Nat → Nat} {b : Nat → Nat → Nat} {cn : Nat} {cf : Nat → Nat → Nat} {kn : Nat} {kf : Nat → Nat → Nat} {bn : Nat} {bf : Nat → Nat → Nat} {l d : Nat} {pu ra rb : Nat → Nat} {P V : Nat} {T : Nat → Nat → Nat → Nat} {U : Nat → Nat} {H : Nat → Int}
theorem I3.row (h : I3 M kn kf) {i : Nat} (hi : i < kn) {j : Nat} (hj : j < 6) : M.1 (21 + i) j = nI (kf i j) ∧ M.1 211 (6 * i + j) = nI (kf i j) := (h.2.2.2 i hi).2 j hj
theorem x_paidBy (g : GX M kn kf l d P V T U H) {i y : Nat} (hi : i < kn) (hy : y < 10) : f_X8_paidBy (21 + i) (nI y) M = some (nI (pyB kf (grt P V T U H l) i y)) := by
  obtain ⟨g5, g3, gw, gp⟩ := g
  have hl := g5.1
  have hn := g3.1
  obtain ⟨z0, z1, z2, z3, z4, z5, z6, z7⟩ := (g3.2.2.2 i hi).1
  unfold f_X8_paidBy pyB
  rw [show (2 : Int32) = nI 2 from rfl, lf_21 (by omega) (by decide), (g3.row hi (by decide)).1, pv_nm_eq, g5.2.2.1, x_pollBy hl, pv_cap_some, isP_o (isO_l hl), pv_ck_true, show (3 : Int32) = nI 3 from rfl, lf_21 (by omega) (by decide), (g3.row hi (by decide)).1, Pv_great (isO_l hl) hy z5 (gp y _ hy z5), pv_cap_some, pk_mul]
theorem x_paid (g : GX M kn kf l d P V T U H) {i : Nat} (hi : i < kn) : f_X8_paid (21 + i) M = some (nI (pyS kf (grt P V T U H l) d i)) := by
  have g5 := g.1
  have g3 := g.2.1
  have hn := g3.1
  have hd := g5.2.1
  obtain ⟨z0, z1, z2, z3, z4, z5, z6, z7⟩ := (g3.2.2.2 i hi).1
  unfold f_X8_paid
  rw [pv_nm_eq, g5.2.2.2.2.1, pv_jn_eq, ite_eq0 (by omega)]
  rcases (show d = 0 ∨ d = 1 by omega) with h | h
  · rw [if_pos h]
    dsimp only
    rw [show (4 : Int32) = nI 4 from rfl, lf_21 (by omega) (by decide), (g3.row hi (by decide)).1, x_paidBy g hi (by omega), pv_cap_some, h]
    rfl
  · rw [if_neg (by omega)]
    dsimp only
    rw [show (5 : Int32) = nI 5 from rfl, lf_21 (by omega) (by decide), (g3.row hi (by decide)).1, x_paidBy g hi (by omega), pv_cap_some, h]
    rfl
theorem m_paysBy (g : GY M kn kf l d P V T U H) {i y : Nat} (hi : i < kn) (hy : y < 10) : f_X9_paysBy (nI i) (nI y) M = some (nI (pyB kf (grt P V T U H l) i y)) := by
  obtain ⟨g5, g3, gw, gR, gL⟩ := g
  have hn := g3.1
  obtain ⟨z0, z1, z2, z3, z4, z5, z6, z7⟩ := (g3.2.2.2 i hi).1
  unfold f_X9_paysBy pyB
  rw [show (2 : Int32) = nI 2 from rfl, show (6 : Int32) = nI 6 from rfl, show (3 : Int32) = nI 3 from rfl, pk_mul, nI_add, nI_add, ld_211 (by omega), (g3.row hi (by decide)).2, ld_211 (by omega), (g3.row hi (by decide)).2, Lv_great gL gR gw hy z5, pv_cap_some, pk_mul]
theorem m_pays (g : GY M kn kf l d P V T U H) {i : Nat} (hi : i < kn) : f_X9_pays (nI i) M = some (nI (pyS kf (grt P V T U H l) d i)) := by
  have g5 := g.1
  have g3 := g.2.1
  have hn := g3.1
  have hd := g5.2.1
  obtain ⟨z0, z1, z2, z3, z4, z5, z6, z7⟩ := (g3.2.2.2 i hi).1
  unfold f_X9_pays
  rw [show (1 : Int32) = nI 1 from rfl, ld_205 (by decide), g5.2.2.2.2.2.1, show (6 : Int32) = nI 6 from rfl, show (4 : Int32) = nI 4 from rfl, pk_mul, nI_add, nI_add, Nat.add_assoc, ld_211 (by omega), (g3.row hi (by omega)).2, m_paysBy g hi (by rcases (show d = 0 ∨ d = 1 by omega) with rfl | rfl <;> first | (show kf i 4 < 10; omega) | (show kf i 5 < 10; omega)), pv_cap_some]
  rfl
theorem pyB_le (w : WF P V T U H) (g3 : I3 M kn kf) {k i y : Nat} (hi : i < kn) (hy : y < 10) : pyB kf (grt P V T U H k) i y ≤ 891 := by
  obtain ⟨z0, z1, z2, z3, z4, z5, z6, z7⟩ := (g3.2.2.2 i hi).1
  have h := (grt_rg w (k := k) hy z5).2
  unfold pyB
  exact Nat.le_trans (Nat.mul_le_mul z4 h) (by decide)
theorem pyS_le (w : WF P V T U H) (g3 : I3 M kn kf) {k i : Nat} (hi : i < kn) (hd : d < 2) : pyS kf (grt P V T U H k) d i ≤ 891 := by
  obtain ⟨z0, z1, z2, z3, z4, z5, z6, z7⟩ := (g3.2.2.2 i hi).1
  exact pyB_le w g3 hi (by rcases (show d = 0 ∨ d = 1 by omega) with rfl | rfl <;> first | (show kf i 4 < 10; omega) | (show kf i 5 < 10; omega))
theorem x_money (g : GX M kn kf l d P V T U H) (h6 : I6 M pu) {w y : Nat} (hw : w < 8) (hy : y < 10) : f_X8_moneyBehind (nI w) (nI y) M = some (iI (mny pu kf (grt P V T U H l) d w y kn)) := by
  have g3 := g.2.1
  have hn := g3.1
  unfold f_X8_moneyBehind
  rw [ld_37 hw, (h6 w hw).2.1]
  refine for2b kn (fun k (x : Int32) => x = iI (mny pu kf (grt P V T U H l) d w y k)) (fun q => q = some (iI (mny pu kf (grt P V T U H l) d w y kn))) ?_ ?_ pv_FU 0 _ (Nat.zero_le _) (by show kn - 0 < 5000; omega) (iI_n _).symm
  · rintro rec x rfl
    unfold f_X8_moneyBehind_L10
    rw [pv_nm_eq, g3.2.1, if_pos (nI_le (Nat.le_refl _) (by omega))]
  · rintro rec k x hk rfl hrec
    obtain ⟨z0, z1, z2, z3, z4, z5, z6, z7⟩ := (g3.2.2.2 k hk).1
    unfold f_X8_moneyBehind_L10
    rw [pv_nm_eq, g3.2.1, if_neg (nI_ge hk (by omega)), lr_20 (by omega), show (5 : Int32) = nI 5 from rfl, lf_21 (by omega) (by decide), (g3.row hk (by decide)).1, ite_le (by omega) (by omega), nI_1]
    by_cases e : kf k 5 ≤ y
    · rw [if_pos e, show (0 : Int32) = nI 0 from rfl, lf_21 (by omega) (by decide), (g3.row hk (by decide)).1, pv_jn_eq, ite_eq (by omega) (by omega), show (1 : Int32) = nI 1 from rfl, x_paid g hk]
      by_cases e0 : kf k 0 = w
      · have e1 : ¬ kf k 1 = w := by omega
        rw [if_pos e0, pv_cap_some, pv_nm_eq]
        dsimp only
        rw [lf_21 (by omega) (by decide), (g3.row hk (by decide)).1, ite_eq (by omega) (by omega), if_neg e1, ← iI_n, iI_sub]
        refine hrec _ ?_
        conv => rhs; unfold mny
        rw [if_pos e, if_neg e1, if_pos e0]
        congr 1
        all_goals omega
      · rw [if_neg e0]
        dsimp only
        rw [lf_21 (by omega) (by decide), (g3.row hk (by decide)).1, ite_eq (by omega) (by omega)]
        by_cases e1 : kf k 1 = w
        · rw [if_pos e1, pv_cap_some, pv_nm_eq, ← iI_n, iI_add]
          refine hrec _ ?_
          conv => rhs; unfold mny
          rw [if_pos e, if_pos e1, if_neg e0]
          congr 1
          all_goals omega
        · rw [if_neg e1]
          refine hrec _ ?_
          conv => rhs; unfold mny
          rw [if_pos e, if_neg e1, if_neg e0]
          congr 1
          all_goals omega
    · rw [if_neg e]
      refine hrec _ ?_
      conv => rhs; unfold mny
      rw [if_neg e, Int.add_zero]
theorem m_money (g : GY M kn kf l d P V T U H) (h6 : I6 M pu) {w y : Nat} (hw : w < 8) (hy : y < 10) : f_X9_moneyOf (nI w) (nI y) M = some (iI (mny pu kf (grt P V T U H l) d w y kn)) := by
  have g3 := g.2.1
  have hn := g3.1
  unfold f_X9_moneyOf
  rw [ld_206 hw, (h6 w hw).2.2]
  refine for2b kn (fun k (x : Int32) => x = iI (mny pu kf (grt P V T U H l) d w y k)) (fun q => q = some (iI (mny pu kf (grt P V T U H l) d w y kn))) ?_ ?_ pv_FU 0 _ (Nat.zero_le _) (by show kn - 0 < 5000; omega) (iI_n _).symm
  · rintro rec x rfl
    unfold f_X9_moneyOf_L10
    rw [pv_nm_eq, g3.2.2.1, if_pos (nI_le (Nat.le_refl _) (by omega))]
  · rintro rec k x hk rfl hrec
    obtain ⟨z0, z1, z2, z3, z4, z5, z6, z7⟩ := (g3.2.2.2 k hk).1
    have q0 := (g3.row hk (show 0 < 6 by decide)).2
    rw [Nat.add_zero] at q0
    unfold f_X9_moneyOf_L10
    rw [pv_nm_eq, g3.2.2.1, if_neg (nI_ge hk (by omega)), show (6 : Int32) = nI 6 from rfl, show (5 : Int32) = nI 5 from rfl, show (1 : Int32) = nI 1 from rfl, show (0 : Int32) = nI 0 from rfl, pk_mul, nI_add, nI_add, nI_add, ld_211 (by omega), (g3.row hk (by decide)).2, ite_lt (by omega) (by omega)]
    by_cases e : kf k 5 ≤ y
    · rw [if_neg (by omega), ld_211 (by omega), q0, pv_jn_eq, ite_eq (by omega) (by omega), m_pays g hk]
      by_cases e0 : kf k 0 = w
      · have e1 : ¬ kf k 1 = w := by omega
        rw [if_pos e0, pv_cap_some]
        dsimp only
        rw [pv_nm_eq, ld_211 (by omega), (g3.row hk (by decide)).2, pv_jn_eq, ite_eq (by omega) (by omega), if_neg e1]
        dsimp only
        rw [pv_nm_eq, ← iI_n (pyS kf (grt P V T U H l) d k), ← iI_n 0, iI_sub, iI_add]
        refine hrec _ ?_
        conv => rhs; unfold mny
        rw [if_pos e, if_neg e1, if_pos e0]
        congr 1
        all_goals omega
      · rw [if_neg e0]
        dsimp only
        rw [pv_nm_eq, ld_211 (by omega), (g3.row hk (by decide)).2, pv_jn_eq, ite_eq (by omega) (by omega)]
        by_cases e1 : kf k 1 = w
        · rw [if_pos e1, pv_cap_some]
          dsimp only
          rw [pv_nm_eq, ← iI_n (pyS kf (grt P V T U H l) d k), ← iI_n 0, iI_sub, iI_add]
          refine hrec _ ?_
          conv => rhs; unfold mny
          rw [if_pos e, if_pos e1, if_neg e0]
          congr 1
          all_goals omega
        · rw [if_neg e1]
          dsimp only
          rw [pv_nm_eq, ← iI_n 0, iI_sub, iI_add]
          refine hrec _ ?_
          conv => rhs; unfold mny
          rw [if_pos e, if_neg e1, if_neg e0]
          congr 1
          all_goals omega
    · rw [if_pos (by omega)]
      refine hrec _ ?_
      conv => rhs; unfold mny
      rw [if_neg e, Int.add_zero]
theorem KS.gyT (K : KS BA c v M n b cn cf kn kf bn bf l d pu ra rb P V T U H) {M' : pv_M} (hF : FrL M M') (hR : MR M' P V T U H) (hL : Lv M' P V T U H l) : GY M' kn kf l d P V T U H := K.gy hF.M hR hL
theorem xs_money (K : KS BA c v M n b cn cf kn kf bn bf l d pu ra rb P V T U H) (hc : c < 900) {w y : Nat} (hw : w < 8) (hy : y < 10) : f_X8_money (nI w) (nI y) M = some (iI (mny pu kf (grt P V T U H l) d w y kn), M) := by
  unfold f_X8_money
  simp (disch := omega) only [↓pv_nm_eq, ↓pv_jn_eq, ↓reduceIte, pv_nm_eq, pv_jn_eq, pv_cap_some, pv_cal_some, pv_ck_true, lit_eq, pk_mul, nI_add, sbn, eqn, len', ltn, if_true, if_false, ite_true, ite_false, eq_self, u_s, u_e, u_k, u_j, Nat.zero_le, Nat.one_ne_zero, Nat.reduceEqDiff, Nat.reduceLT, Nat.reduceLeDiff, Nat.reduceAdd, Nat.reduceMul, Nat.reduceSub, and_self, and_true, true_and, ite_self, ↓gcm_isText, ↓gcm_isSheet, ↓gcm_isTwo, ↓gcm_isYear, ↓gcm_isUnit, ↓gcm_isAnyVoter, ↓gcx_isText, ↓gcx_isYear, ↓gcx_isUnit, ↓gcx_isPerson, ↓gcx_isSheet, ↓gcx_isForm, ↓gcx_isTown, ↓gcx_isKind, ↓gc_w, ↓gi_0_1, ↓gi_0_2, ↓gi_0_3, ↓gi_0_5, ↓gi_0_7, ↓gi_0_9, ↓gi_0_255, ↓gi_0_999, ↓gi_1_9, ↓gi_1_99, ↓gi_0_4095, ↓gi_m2_3, mg_isText, mg_isSheet, mg_isTwo, mg_isYear, mg_isUnit, mg_isAnyVoter, xg_isText, xg_isYear, xg_isUnit, xg_isPerson, xg_isSheet, xg_isForm, xg_isTown, xg_isKind, within_n, i_0_1, i_0_2, i_0_3, i_0_5, i_0_7, i_0_9, i_0_255, i_0_999, i_1_9, i_1_99, i_0_4095, i_m2_3, show w ≤ 7 by omega, show y ≤ 9 by omega]
  rw [K.settle hc, pv_cal_some, x_money (K.gx hc) K.2.2.2.2.2.1 hw hy, pv_cap_some]
theorem op_money (hB : BAok BA) (a1 a2 : Int32) : OP RIo (CAo BA) (f_X8_money a1 a2) (f_X9_money a1 a2) := by
  by_cases g1 : nI 0 ≤ a1 ∧ a1 ≤ nI 7
  · by_cases g2 : nI 0 ≤ a2 ∧ a2 ≤ nI 9
    · refine OP_of hB (fun M M1 e1 e2 _ => by unfold f_X8_money; rw [gcx_isPerson, bt1 g1, gcx_isYear, bt1 g2, e1, gcx_isPerson, bt1 g1, gcx_isYear, bt1 g2, e2]) ?_
      intro c v M n b cn cf kn kf bn bf l d pu ra rb P V T U H K hc
      obtain ⟨w, hw, rfl⟩ := rng (by decide) g1
      obtain ⟨y, hy, rfl⟩ := rng (by decide) g2
      obtain ⟨M2, y1, y2, y3, y4, y5⟩ := K.nowT
      refine ⟨_, M, M2, xs_money K (by omega) (show w < 8 by omega) (show y < 10 by omega), ?_, (K.frM hB y2.M).inv hB⟩
      unfold f_X9_money
      rw [y1, pv_cal_some]
      simp (disch := omega) only [↓pv_nm_eq, ↓pv_jn_eq, ↓reduceIte, pv_nm_eq, pv_jn_eq, pv_cap_some, pv_cal_some, pv_ck_true, lit_eq, pk_mul, nI_add, sbn, eqn, len', ltn, if_true, if_false, ite_true, ite_false, eq_self, u_s, u_e, u_k, u_j, Nat.zero_le, Nat.one_ne_zero, Nat.reduceEqDiff, Nat.reduceLT, Nat.reduceLeDiff, Nat.reduceAdd, Nat.reduceMul, Nat.reduceSub, and_self, and_true, true_and, ite_self, ↓gcm_isText, ↓gcm_isSheet, ↓gcm_isTwo, ↓gcm_isYear, ↓gcm_isUnit, ↓gcm_isAnyVoter, ↓gcx_isText, ↓gcx_isYear, ↓gcx_isUnit, ↓gcx_isPerson, ↓gcx_isSheet, ↓gcx_isForm, ↓gcx_isTown, ↓gcx_isKind, ↓gc_w, ↓gi_0_1, ↓gi_0_2, ↓gi_0_3, ↓gi_0_5, ↓gi_0_7, ↓gi_0_9, ↓gi_0_255, ↓gi_0_999, ↓gi_1_9, ↓gi_1_99, ↓gi_0_4095, ↓gi_m2_3, mg_isText, mg_isSheet, mg_isTwo, mg_isYear, mg_isUnit, mg_isAnyVoter, xg_isText, xg_isYear, xg_isUnit, xg_isPerson, xg_isSheet, xg_isForm, xg_isTown, xg_isKind, within_n, i_0_1, i_0_2, i_0_3, i_0_5, i_0_7, i_0_9, i_0_255, i_0_999, i_1_9, i_1_99, i_0_4095, i_m2_3, hy, hw, m_money (K.gyT y2 y4 y5) ((K.frM hB y2.M).2.2.2.2.2.1) (show w < 8 by omega) (show y < 10 by omega)]
    · intro c M hc hI
      obtain ⟨M2, e2, e3⟩ := now_bad hI
      refine ⟨-100002, M, M2, ?_, ?_, e3⟩
      · unfold f_X8_money
        simp (disch := omega) only [↓pv_nm_eq, ↓pv_jn_eq, ↓reduceIte, pv_nm_eq, pv_jn_eq, pv_cap_some, pv_cal_some, pv_ck_true, lit_eq, pk_mul, nI_add, sbn, eqn, len', ltn, if_true, if_false, ite_true, ite_false, eq_self, u_s, u_e, u_k, u_j, Nat.zero_le, Nat.one_ne_zero, Nat.reduceEqDiff, Nat.reduceLT, Nat.reduceLeDiff, Nat.reduceAdd, Nat.reduceMul, Nat.reduceSub, and_self, and_true, true_and, ite_self, ↓gcm_isText, ↓gcm_isSheet, ↓gcm_isTwo, ↓gcm_isYear, ↓gcm_isUnit, ↓gcm_isAnyVoter, ↓gcx_isText, ↓gcx_isYear, ↓gcx_isUnit, ↓gcx_isPerson, ↓gcx_isSheet, ↓gcx_isForm, ↓gcx_isTown, ↓gcx_isKind, ↓gc_w, ↓gi_0_1, ↓gi_0_2, ↓gi_0_3, ↓gi_0_5, ↓gi_0_7, ↓gi_0_9, ↓gi_0_255, ↓gi_0_999, ↓gi_1_9, ↓gi_1_99, ↓gi_0_4095, ↓gi_m2_3, mg_isText, mg_isSheet, mg_isTwo, mg_isYear, mg_isUnit, mg_isAnyVoter, xg_isText, xg_isYear, xg_isUnit, xg_isPerson, xg_isSheet, xg_isForm, xg_isTown, xg_isKind, within_n, i_0_1, i_0_2, i_0_3, i_0_5, i_0_7, i_0_9, i_0_255, i_0_999, i_1_9, i_1_99, i_0_4095, i_m2_3, g1, g2]
      · unfold f_X9_money
        rw [e2, pv_cal_some]
        simp (disch := omega) only [↓pv_nm_eq, ↓pv_jn_eq, ↓reduceIte, pv_nm_eq, pv_jn_eq, pv_cap_some, pv_cal_some, pv_ck_true, lit_eq, pk_mul, nI_add, sbn, eqn, len', ltn, if_true, if_false, ite_true, ite_false, eq_self, u_s, u_e, u_k, u_j, Nat.zero_le, Nat.one_ne_zero, Nat.reduceEqDiff, Nat.reduceLT, Nat.reduceLeDiff, Nat.reduceAdd, Nat.reduceMul, Nat.reduceSub, and_self, and_true, true_and, ite_self, ↓gcm_isText, ↓gcm_isSheet, ↓gcm_isTwo, ↓gcm_isYear, ↓gcm_isUnit, ↓gcm_isAnyVoter, ↓gcx_isText, ↓gcx_isYear, ↓gcx_isUnit, ↓gcx_isPerson, ↓gcx_isSheet, ↓gcx_isForm, ↓gcx_isTown, ↓gcx_isKind, ↓gc_w, ↓gi_0_1, ↓gi_0_2, ↓gi_0_3, ↓gi_0_5, ↓gi_0_7, ↓gi_0_9, ↓gi_0_255, ↓gi_0_999, ↓gi_1_9, ↓gi_1_99, ↓gi_0_4095, ↓gi_m2_3, mg_isText, mg_isSheet, mg_isTwo, mg_isYear, mg_isUnit, mg_isAnyVoter, xg_isText, xg_isYear, xg_isUnit, xg_isPerson, xg_isSheet, xg_isForm, xg_isTown, xg_isKind, within_n, i_0_1, i_0_2, i_0_3, i_0_5, i_0_7, i_0_9, i_0_255, i_0_999, i_1_9, i_1_99, i_0_4095, i_m2_3, g1, g2]
  · intro c M hc hI
    obtain ⟨M2, e2, e3⟩ := now_bad hI
    refine ⟨-100002, M, M2, ?_, ?_, e3⟩
    · unfold f_X8_money
      simp (disch := omega) only [↓pv_nm_eq, ↓pv_jn_eq, ↓reduceIte, pv_nm_eq, pv_jn_eq, pv_cap_some, pv_cal_some, pv_ck_true, lit_eq, pk_mul, nI_add, sbn, eqn, len', ltn, if_true, if_false, ite_true, ite_false, eq_self, u_s, u_e, u_k, u_j, Nat.zero_le, Nat.one_ne_zero, Nat.reduceEqDiff, Nat.reduceLT, Nat.reduceLeDiff, Nat.reduceAdd, Nat.reduceMul, Nat.reduceSub, and_self, and_true, true_and, ite_self, ↓gcm_isText, ↓gcm_isSheet, ↓gcm_isTwo, ↓gcm_isYear, ↓gcm_isUnit, ↓gcm_isAnyVoter, ↓gcx_isText, ↓gcx_isYear, ↓gcx_isUnit, ↓gcx_isPerson, ↓gcx_isSheet, ↓gcx_isForm, ↓gcx_isTown, ↓gcx_isKind, ↓gc_w, ↓gi_0_1, ↓gi_0_2, ↓gi_0_3, ↓gi_0_5, ↓gi_0_7, ↓gi_0_9, ↓gi_0_255, ↓gi_0_999, ↓gi_1_9, ↓gi_1_99, ↓gi_0_4095, ↓gi_m2_3, mg_isText, mg_isSheet, mg_isTwo, mg_isYear, mg_isUnit, mg_isAnyVoter, xg_isText, xg_isYear, xg_isUnit, xg_isPerson, xg_isSheet, xg_isForm, xg_isTown, xg_isKind, within_n, i_0_1, i_0_2, i_0_3, i_0_5, i_0_7, i_0_9, i_0_255, i_0_999, i_1_9, i_1_99, i_0_4095, i_m2_3, g1]
    · unfold f_X9_money
      rw [e2, pv_cal_some]
      simp (disch := omega) only [↓pv_nm_eq, ↓pv_jn_eq, ↓reduceIte, pv_nm_eq, pv_jn_eq, pv_cap_some, pv_cal_some, pv_ck_true, lit_eq, pk_mul, nI_add, sbn, eqn, len', ltn, if_true, if_false, ite_true, ite_false, eq_self, u_s, u_e, u_k, u_j, Nat.zero_le, Nat.one_ne_zero, Nat.reduceEqDiff, Nat.reduceLT, Nat.reduceLeDiff, Nat.reduceAdd, Nat.reduceMul, Nat.reduceSub, and_self, and_true, true_and, ite_self, ↓gcm_isText, ↓gcm_isSheet, ↓gcm_isTwo, ↓gcm_isYear, ↓gcm_isUnit, ↓gcm_isAnyVoter, ↓gcx_isText, ↓gcx_isYear, ↓gcx_isUnit, ↓gcx_isPerson, ↓gcx_isSheet, ↓gcx_isForm, ↓gcx_isTown, ↓gcx_isKind, ↓gc_w, ↓gi_0_1, ↓gi_0_2, ↓gi_0_3, ↓gi_0_5, ↓gi_0_7, ↓gi_0_9, ↓gi_0_255, ↓gi_0_999, ↓gi_1_9, ↓gi_1_99, ↓gi_0_4095, ↓gi_m2_3, mg_isText, mg_isSheet, mg_isTwo, mg_isYear, mg_isUnit, mg_isAnyVoter, xg_isText, xg_isYear, xg_isUnit, xg_isPerson, xg_isSheet, xg_isForm, xg_isTown, xg_isKind, within_n, i_0_1, i_0_2, i_0_3, i_0_5, i_0_7, i_0_9, i_0_255, i_0_999, i_1_9, i_1_99, i_0_4095, i_m2_3, g1]
def wrs (kf : Nat → Nat → Nat) (G : Nat → Nat → Nat) (i : Nat) : Int32 := if 0 ≤ nI (pyB kf G i (kf i 4)) - nI (pyB kf G i (kf i 5)) then nI (pyB kf G i (kf i 4)) - nI (pyB kf G i (kf i 5)) else -(nI (pyB kf G i (kf i 4)) - nI (pyB kf G i (kf i 5)))
theorem xs_worst (K : KS BA c v M n b cn cf kn kf bn bf l d pu ra rb P V T U H) (hc : c < 900) {i : Nat} (hi : i < kn) : f_X8_worst (nI i) M = some (wrs kf (grt P V T U H l) i, M) := by
  have g := K.gx hc
  have g3 := g.2.1
  have hn := g3.1
  obtain ⟨z0, z1, z2, z3, z4, z5, z6, z7⟩ := (g3.2.2.2 i hi).1
  unfold f_X8_worst
  rw [pv_nm_eq, g3.2.1, within_n, pv_cap_some, bt1 (by rw [show (0 : Int32) = nI 0 from rfl, show (1 : Int32) = nI 1 from rfl, pk_sub (by omega)]; exact ⟨nI_le (Nat.zero_le _) (by omega), nI_le (by omega) (by omega)⟩), K.settle hc, pv_cal_some, lr_20 (by omega), show (4 : Int32) = nI 4 from rfl, lf_21 (by omega) (by decide), (g3.row hi (by decide)).1, x_paidBy g hi (by omega), pv_cap_some, show (5 : Int32) = nI 5 from rfl, lf_21 (by omega) (by decide), (g3.row hi (by decide)).1, x_paidBy g hi (by omega), pv_cap_some, pv_nm_eq, Int32.zero_sub]
  rfl
theorem m_worst (g : GY M kn kf l d P V T U H) {i : Nat} (hi : i < kn) : f_X9_worstOf (nI i) M = some (wrs kf (grt P V T U H l) i) := by
  have g3 := g.2.1
  have hn := g3.1
  obtain ⟨z0, z1, z2, z3, z4, z5, z6, z7⟩ := (g3.2.2.2 i hi).1
  unfold f_X9_worstOf f_X9_amount
  rw [show (6 : Int32) = nI 6 from rfl, show (5 : Int32) = nI 5 from rfl, show (4 : Int32) = nI 4 from rfl, pk_mul, nI_add, nI_add, ld_211 (by omega), (g3.row hi (by decide)).2, m_paysBy g hi (by omega), pv_cap_some, ld_211 (by omega), (g3.row hi (by decide)).2, m_paysBy g hi (by omega), pv_cap_some]
  unfold wrs
  split
  · rw [pv_cap_some]
  · rw [pv_cap_some]
theorem op_worst (hB : BAok BA) (a1 : Int32) : OP RIo (CAo BA) (f_X8_worst a1) (f_X9_worst a1) := by
  intro c M hc hI
  obtain ⟨n, b, cn, cf, kn, kf, bn, bf, l, d, pu, ra, rb, h1, h2, h3, h4, h5, h6, h7, h8, h9⟩ := id hI
  have hkn := h3.1
  have h19 := h3.2.1
  by_cases g1 : (0 : Int32) ≤ a1 ∧ a1 ≤ nI kn - 1
  · obtain ⟨M1, v, n, b, cn, cf, kn', kf', bn, bf, l, d, pu, ra, rb, P, V, T, U, H, e1, K, hF⟩ := start hB (by omega) hI
    have ek : kn = kn' := by
      have q1 := K.2.2.1.2.1
      have q2 := K.2.2.1.1
      rw [hF 19 1 (by omega), h19] at q1
      exact (nI_eq (by omega) (by omega)).mp q1
    subst ek
    obtain ⟨i, hi, rfl⟩ := rngm (a := a1) (by omega) g1
    have hx := xs_worst K (by omega) hi
    obtain ⟨M2, y1, y2, y3, y4, y5⟩ := K.nowT
    have K2 := K.frM hB y2.M
    refine ⟨wrs kf' (grt P V T U H l) i, M1, M2, ?_, ?_, K2.inv hB⟩
    · rw [← hx]
      unfold f_X8_worst
      rw [pv_nm_eq, h19, within_n, pv_cap_some, bt1 g1, e1, pv_nm_eq, K.2.2.1.2.1, within_n, pv_cap_some, bt1 g1, K.settle (by omega)]
    · unfold f_X9_worst
      rw [y1, pv_cal_some, pv_nm_eq, K2.2.2.1.2.2.1, i_0hi, pv_cap_some, bt1 (c := nI 0 ≤ nI i ∧ nI i ≤ nI kn - 1) g1, m_worst (K.gyT y2 y4 y5) hi, pv_cap_some]
  · obtain ⟨M2, e2, e3⟩ := now_bad hI
    have hk2 : M2.1 196 17 = nI kn := by
      obtain ⟨N1, f1, f2, f3⟩ := m_reads h1
      have hMR := mr_of (h1.fr (fun k j q => f2 k j (by unfold PM; omega))) (h2.fr (fun k j q => f2 k j (by unfold PM; omega))) f3
      obtain ⟨N2, k1, k2, k3⟩ := m_livesL (wf_of h1 h2) hMR h5.1
      have e4 : f_X9_livesNow M = some ((), N2) := by
        unfold f_X9_livesNow f_X9_lives
        rw [show pv_ldI pv_T 205 0 M = fun f => pv_ldI pv_T 205 (nI 0) M f from rfl]
        dsimp only
        rw [ld_205 (by decide), h5.2.2.2.1, f1, pv_cal_some, k1, pv_cal_some]
      have := e2.symm.trans e4
      cases this
      rw [k2 _ _ (by omega), f2 _ _ (by unfold PM; omega), h3.2.2.1]
    refine ⟨-2, M, M2, ?_, ?_, e3⟩
    · unfold f_X8_worst
      rw [pv_nm_eq, h19, within_n, pv_cap_some, bt0 g1]
    · unfold f_X9_worst
      rw [e2, pv_cal_some, pv_nm_eq, hk2, i_0hi, pv_cap_some, bt0 (c := nI 0 ≤ a1 ∧ a1 ≤ nI kn - 1) g1]
end M
