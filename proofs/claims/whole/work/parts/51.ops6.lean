theorem clampn {i : Nat} (h : i < 2 ^ 31) : (nI i).toNatClampNeg = i := nI_clamp h
theorem x_cpy {M : pv_M} {a b i j k n m : Nat} (ha : pv_SH a = (0, n)) (hb : pv_SH b = (0, m)) (h1 : i + k ≤ n) (h2 : j + k ≤ m) : pv_cpyb pv_T a (nI i) b (nI j) (nI k) = true ∧ (pv_cpy M a (nI i) b (nI j) (nI k)).2 = M.2 ∧ ∀ x y, (pv_cpy M a (nI i) b (nI j) (nI k)).1 x y = if x = b ∧ j ≤ y ∧ y < j + k then M.1 a (i + (y - j)) else M.1 x y := by
  obtain ⟨q1, q2⟩ := pv_SH_bd ha (by decide)
  obtain ⟨q3, q4⟩ := pv_SH_bd hb (by decide)
  refine ⟨?_, rfl, fun x y => ?_⟩
  · unfold pv_cpyb
    rw [ha, hb, clampn (by omega), clampn (by omega), clampn (by omega)]
    have c1 : ∀ z : Nat, z < 2 ^ 31 → ¬ nI z < 0 := fun z hz q => by rw [fa_lt, nI_toInt hz, show ((0 : Int32)).toInt = 0 by decide] at q; omega
    simp only [q1, q3, show pv_T = 222 from rfl, c1 i (by omega), c1 j (by omega), c1 k (by omega), h1, h2, decide_true, Bool.and_true, not_false_eq_true]
  · show pv_row M.1 b (va_cpy (M.1 a) (M.1 b) _ _ _) x y = _
    rw [clampn (by omega), clampn (by omega), clampn (by omega)]
    unfold pv_row va_cpy
    by_cases e : x = b
    · subst e
      rw [if_pos rfl]
      ((repeat' split) <;> first | rfl | (exfalso; omega))
    · rw [if_neg e, if_neg (by omega)]
theorem op_copy (RI : pv_RI) (CA : pv_CA) (a1 a2 a3 a4 a5 : Int32) : OP RI CA (f_X8_copy a1 a2 a3 a4 a5) (f_X9_copy a1 a2 a3 a4 a5) := by
  intro c M hc hI
  by_cases g0 : nI 0 ≤ a1 ∧ a1 ≤ nI 3
  · by_cases g1 : nI 0 ≤ a3 ∧ a3 ≤ nI 3
    · obtain ⟨s, hs, rfl⟩ := rng (by decide) g0
      obtain ⟨t, ht, rfl⟩ := rng (by decide) g1
      have hI0 := hI
      obtain ⟨n, b, cn, cf, kn, kf, bn, bf, l, d, pu, ra, rb, h1, h2, h3, h4, h5, h6, h7, h8, h9⟩ := hI
      rcases h8 s (by omega) with ⟨z1, z2⟩ | ⟨f, m, z1, z2, z3, z4, z5, z6, z7⟩
      · refine ⟨-10 - 1, (pv_u M.1 0 18 1, M.2), (pv_u (pv_u M.1 0 18 1) 196 4 1, M.2), ?_, ?_, hI0.find 1⟩
        · unfold f_X8_copy f_X4_isLost f_X8_find
          simp (disch := omega) only [↓pv_nm_eq, ↓pv_jn_eq, ↓reduceIte, pv_nm_eq, pv_jn_eq, pv_cap_some, pv_cal_some, pv_ck_true, lit_eq, pk_mul, nI_add, sbn, eqn, len', ltn, if_true, if_false, ite_true, ite_false, eq_self, u_s, u_e, u_k, u_j, Nat.zero_le, Nat.one_ne_zero, Nat.reduceEqDiff, Nat.reduceLT, Nat.reduceLeDiff, Nat.reduceAdd, Nat.reduceMul, Nat.reduceSub, and_self, and_true, true_and, ite_self, ld_189, st_189, ↓gcm_isText, ↓gcm_isSheet, ↓gcm_isTwo, ↓gcm_isYear, ↓gcm_isUnit, ↓gcm_isAnyVoter, ↓gcx_isText, ↓gcx_isYear, ↓gcx_isUnit, ↓gcx_isPerson, ↓gcx_isSheet, ↓gcx_isForm, ↓gcx_isTown, ↓gcx_isKind, ↓gc_w, ↓gi_0_1, ↓gi_0_2, ↓gi_0_3, ↓gi_0_5, ↓gi_0_7, ↓gi_0_9, ↓gi_0_255, ↓gi_0_999, ↓gi_1_9, ↓gi_1_99, ↓gi_0_4095, ↓gi_m2_3, mg_isText, mg_isSheet, mg_isTwo, mg_isYear, mg_isUnit, mg_isAnyVoter, xg_isText, xg_isYear, xg_isUnit, xg_isPerson, xg_isSheet, xg_isForm, xg_isTown, xg_isKind, within_n, i_0_1, i_0_2, i_0_3, i_0_5, i_0_7, i_0_9, i_0_255, i_0_999, i_1_9, i_1_99, i_0_4095, i_m2_3, hs, ht, z1]
        · unfold f_X9_copy f_X9_met
          have v : ((pv_u M.1 0 18 1, M.2) : pv_M).1 197 s = -1 := by (try simp only [fst_u, u_if, and_self, if_true, if_false, false_and, and_false, true_and, and_true]) <;> (repeat first | rw [if_neg (by omega)] | rw [if_pos (by omega)]); exact z2
          rw [gcm_isSheet, bt1 g0, gcm_isSheet, bt1 g1, ld_197 (by omega), v, pv_jn_eq, if_pos (show (-1 : Int32) < 0 by decide)]
          rfl
      · rcases h8 t (by omega) with ⟨y1, y2⟩ | ⟨f', m', y1, y2, y3, y4, y5, y6, y7⟩
        · refine ⟨-10 - 1, (pv_u M.1 0 18 1, M.2), (pv_u (pv_u M.1 0 18 1) 196 4 1, M.2), ?_, ?_, hI0.find 1⟩
          · unfold f_X8_copy f_X4_isLost f_X8_find
            simp (disch := omega) only [↓pv_nm_eq, ↓pv_jn_eq, ↓reduceIte, pv_nm_eq, pv_jn_eq, pv_cap_some, pv_cal_some, pv_ck_true, lit_eq, pk_mul, nI_add, sbn, eqn, len', ltn, if_true, if_false, ite_true, ite_false, eq_self, u_s, u_e, u_k, u_j, Nat.zero_le, Nat.one_ne_zero, Nat.reduceEqDiff, Nat.reduceLT, Nat.reduceLeDiff, Nat.reduceAdd, Nat.reduceMul, Nat.reduceSub, and_self, and_true, true_and, ite_self, ld_189, st_189, ↓gcm_isText, ↓gcm_isSheet, ↓gcm_isTwo, ↓gcm_isYear, ↓gcm_isUnit, ↓gcm_isAnyVoter, ↓gcx_isText, ↓gcx_isYear, ↓gcx_isUnit, ↓gcx_isPerson, ↓gcx_isSheet, ↓gcx_isForm, ↓gcx_isTown, ↓gcx_isKind, ↓gc_w, ↓gi_0_1, ↓gi_0_2, ↓gi_0_3, ↓gi_0_5, ↓gi_0_7, ↓gi_0_9, ↓gi_0_255, ↓gi_0_999, ↓gi_1_9, ↓gi_1_99, ↓gi_0_4095, ↓gi_m2_3, mg_isText, mg_isSheet, mg_isTwo, mg_isYear, mg_isUnit, mg_isAnyVoter, xg_isText, xg_isYear, xg_isUnit, xg_isPerson, xg_isSheet, xg_isForm, xg_isTown, xg_isKind, within_n, i_0_1, i_0_2, i_0_3, i_0_5, i_0_7, i_0_9, i_0_255, i_0_999, i_1_9, i_1_99, i_0_4095, i_m2_3, hs, ht, z3, y1, nf1, n0m1, m1lt]
          · unfold f_X9_copy f_X9_met
            simp (disch := omega) only [↓pv_nm_eq, ↓pv_jn_eq, ↓reduceIte, pv_nm_eq, pv_jn_eq, pv_cap_some, pv_cal_some, pv_ck_true, lit_eq, pk_mul, nI_add, sbn, eqn, len', ltn, if_true, if_false, ite_true, ite_false, eq_self, u_s, u_e, u_k, u_j, Nat.zero_le, Nat.one_ne_zero, Nat.reduceEqDiff, Nat.reduceLT, Nat.reduceLeDiff, Nat.reduceAdd, Nat.reduceMul, Nat.reduceSub, and_self, and_true, true_and, ite_self, ld_197, st_197, ↓gcm_isText, ↓gcm_isSheet, ↓gcm_isTwo, ↓gcm_isYear, ↓gcm_isUnit, ↓gcm_isAnyVoter, ↓gcx_isText, ↓gcx_isYear, ↓gcx_isUnit, ↓gcx_isPerson, ↓gcx_isSheet, ↓gcx_isForm, ↓gcx_isTown, ↓gcx_isKind, ↓gc_w, ↓gi_0_1, ↓gi_0_2, ↓gi_0_3, ↓gi_0_5, ↓gi_0_7, ↓gi_0_9, ↓gi_0_255, ↓gi_0_999, ↓gi_1_9, ↓gi_1_99, ↓gi_0_4095, ↓gi_m2_3, mg_isText, mg_isSheet, mg_isTwo, mg_isYear, mg_isUnit, mg_isAnyVoter, xg_isText, xg_isYear, xg_isUnit, xg_isPerson, xg_isSheet, xg_isForm, xg_isTown, xg_isKind, within_n, i_0_1, i_0_2, i_0_3, i_0_5, i_0_7, i_0_9, i_0_255, i_0_999, i_1_9, i_1_99, i_0_4095, i_m2_3, hs, ht, z4, y2, nf1, n0m1, m1lt, Nat.not_lt_zero]
        · by_cases he : f = f'
          · subst he
            by_cases p : hasP a2 a5 m ∧ hasP a4 a5 m'
            · obtain ⟨p1, p2⟩ := p
              have x1 := (x_has a2 a5 hs z2 z5).1 p1
              have x2 := (x_has a4 a5 ht y2 y5).1 p2
              have w1 : ¬ nI 0 < lg_cmp (a2.toInt64 + a5.toInt64) (nI m).toInt64 := fun q => by have := (lgc_gt z2).mp q; have := p1.2.2; omega
              have w2 : lg_cmp (a4.toInt64 + a5.toInt64) (nI m').toInt64 ≤ nI 0 := (lgc_le y2).mpr p2.2.2
              obtain ⟨i, k, hik, rfl, rfl⟩ := hasP_n z2 p1
              obtain ⟨j, k', hjk, rfl, e5⟩ := hasP_n y2 p2
              have ek : k = k' := (nI_eq (by omega) (by omega)).mp e5
              subst ek
              obtain ⟨c1, c2, c3⟩ := x_cpy (M := M) (a := 192 + s) (b := 192 + t) (i := i) (j := j) (k := k) (sf_192 (by omega)) (sf_192 (by omega)) (show i + k ≤ 60 by omega) (show j + k ≤ 60 by omega)
              generalize hM1 : pv_cpy M (192 + s) (nI i) (192 + t) (nI j) (nI k) = M1 at c2 c3
              have hx : f_X8_copy (nI s) (nI i) (nI t) (nI j) (nI k) M = some (1, M1) := by
                unfold f_X8_copy f_X4_isLost
                simp (disch := omega) only [↓pv_nm_eq, ↓pv_jn_eq, ↓reduceIte, pv_nm_eq, pv_jn_eq, pv_cap_some, pv_cal_some, pv_ck_true, lit_eq, pk_mul, nI_add, sbn, eqn, len', ltn, if_true, if_false, ite_true, ite_false, eq_self, u_s, u_e, u_k, u_j, Nat.zero_le, Nat.one_ne_zero, Nat.reduceEqDiff, Nat.reduceLT, Nat.reduceLeDiff, Nat.reduceAdd, Nat.reduceMul, Nat.reduceSub, and_self, and_true, true_and, ite_self, ld_189, st_189, lr_191, ↓gcm_isText, ↓gcm_isSheet, ↓gcm_isTwo, ↓gcm_isYear, ↓gcm_isUnit, ↓gcm_isAnyVoter, ↓gcx_isText, ↓gcx_isYear, ↓gcx_isUnit, ↓gcx_isPerson, ↓gcx_isSheet, ↓gcx_isForm, ↓gcx_isTown, ↓gcx_isKind, ↓gc_w, ↓gi_0_1, ↓gi_0_2, ↓gi_0_3, ↓gi_0_5, ↓gi_0_7, ↓gi_0_9, ↓gi_0_255, ↓gi_0_999, ↓gi_1_9, ↓gi_1_99, ↓gi_0_4095, ↓gi_m2_3, mg_isText, mg_isSheet, mg_isTwo, mg_isYear, mg_isUnit, mg_isAnyVoter, xg_isText, xg_isYear, xg_isUnit, xg_isPerson, xg_isSheet, xg_isForm, xg_isTown, xg_isKind, within_n, i_0_1, i_0_2, i_0_3, i_0_5, i_0_7, i_0_9, i_0_255, i_0_999, i_1_9, i_1_99, i_0_4095, i_m2_3, hs, ht, z3, y3, nf1, n0m1, m1lt, x1, x2, c1, hM1]
              have hy : ∃ M2 : pv_M, f_X9_copy (nI s) (nI i) (nI t) (nI j) (nI k) M1 = some (1, M2) ∧ ∀ x y, M2.1 x y = if x = 199 ∧ 60 * t + j ≤ y ∧ y < 60 * t + j + k then M1.1 199 (60 * s + i + (y - (60 * t + j))) else if x = 200 ∧ y < k then M1.1 199 (60 * s + i + y) else M1.1 x y := by
                have v1 : M1.1 197 s = nI f := by rw [c3, if_neg (by omega)]; exact z4
                have v2 : M1.1 197 t = nI f := by rw [c3, if_neg (by omega)]; exact y4
                have v3 : M1.1 198 s = nI m := by rw [c3, if_neg (by omega)]; exact z6
                have v4 : M1.1 198 t = nI m' := by rw [c3, if_neg (by omega)]; exact y6
                unfold f_X9_copy
                simp (disch := omega) only [↓pv_nm_eq, ↓pv_jn_eq, ↓reduceIte, pv_nm_eq, pv_jn_eq, pv_cap_some, pv_cal_some, pv_ck_true, lit_eq, pk_mul, nI_add, sbn, eqn, len', ltn, if_true, if_false, ite_true, ite_false, eq_self, u_s, u_e, u_k, u_j, Nat.zero_le, Nat.one_ne_zero, Nat.reduceEqDiff, Nat.reduceLT, Nat.reduceLeDiff, Nat.reduceAdd, Nat.reduceMul, Nat.reduceSub, and_self, and_true, true_and, ite_self, ld_197, st_197, ld_198, st_198, ↓gcm_isText, ↓gcm_isSheet, ↓gcm_isTwo, ↓gcm_isYear, ↓gcm_isUnit, ↓gcm_isAnyVoter, ↓gcx_isText, ↓gcx_isYear, ↓gcx_isUnit, ↓gcx_isPerson, ↓gcx_isSheet, ↓gcx_isForm, ↓gcx_isTown, ↓gcx_isKind, ↓gc_w, ↓gi_0_1, ↓gi_0_2, ↓gi_0_3, ↓gi_0_5, ↓gi_0_7, ↓gi_0_9, ↓gi_0_255, ↓gi_0_999, ↓gi_1_9, ↓gi_1_99, ↓gi_0_4095, ↓gi_m2_3, mg_isText, mg_isSheet, mg_isTwo, mg_isYear, mg_isUnit, mg_isAnyVoter, xg_isText, xg_isYear, xg_isUnit, xg_isPerson, xg_isSheet, xg_isForm, xg_isTown, xg_isKind, within_n, i_0_1, i_0_2, i_0_3, i_0_5, i_0_7, i_0_9, i_0_255, i_0_999, i_1_9, i_1_99, i_0_4095, i_m2_3, hs, ht, v1, v2, v3, v4, nf1, n0m1, m1lt, w1, w2, Nat.not_lt_zero]
                refine for2 k (fun q (S : pv_M) => ∀ x y, S.1 x y = if x = 200 ∧ y < q then M1.1 199 (60 * s + i + y) else M1.1 x y) (fun q => ∃ M2 : pv_M, q = some (nI 1, M2) ∧ ∀ x y, M2.1 x y = if x = 199 ∧ 60 * t + j ≤ y ∧ y < 60 * t + j + k then M1.1 199 (60 * s + i + (y - (60 * t + j))) else if x = 200 ∧ y < k then M1.1 199 (60 * s + i + y) else M1.1 x y) ?_ ?_ pv_FU 0 _ (Nat.zero_le _) (by show k - 0 < 5000; omega) (fun x y => by rw [if_neg (by omega)])
                · intro rec S hS
                  unfold f_X9_copy_L120
                  rw [if_pos (nI_le (Nat.le_refl k) (by omega))]
                  refine for2 k (fun q (S' : pv_M) => ∀ x y, S'.1 x y = if x = 199 ∧ 60 * t + j ≤ y ∧ y < 60 * t + j + q then M1.1 199 (60 * s + i + (y - (60 * t + j))) else if x = 200 ∧ y < k then M1.1 199 (60 * s + i + y) else M1.1 x y) (fun q => ∃ M2 : pv_M, q = some (nI 1, M2) ∧ ∀ x y, M2.1 x y = if x = 199 ∧ 60 * t + j ≤ y ∧ y < 60 * t + j + k then M1.1 199 (60 * s + i + (y - (60 * t + j))) else if x = 200 ∧ y < k then M1.1 199 (60 * s + i + y) else M1.1 x y) ?_ ?_ pv_FU 0 _ (Nat.zero_le _) (by show k - 0 < 5000; omega) (fun x y => by rw [hS, if_neg (show ¬ (x = 199 ∧ 60 * t + j ≤ y ∧ y < 60 * t + j + 0) by omega)])
                  · intro rec S' hS'
                    unfold f_X9_copy_L157
                    rw [if_pos (nI_le (Nat.le_refl k) (by omega))]
                    exact ⟨S', rfl, hS'⟩
                  · intro rec q S' hq hS' hr
                    unfold f_X9_copy_L157
                    rw [if_neg (nI_ge hq (by omega))]
                    simp (disch := omega) only [↓pv_nm_eq, ↓pv_jn_eq, ↓reduceIte, pv_nm_eq, pv_jn_eq, pv_cap_some, pv_cal_some, pv_ck_true, lit_eq, pk_mul, nI_add, sbn, eqn, len', ltn, if_true, if_false, ite_true, ite_false, eq_self, u_s, u_e, u_k, u_j, Nat.zero_le, Nat.one_ne_zero, Nat.reduceEqDiff, Nat.reduceLT, Nat.reduceLeDiff, Nat.reduceAdd, Nat.reduceMul, Nat.reduceSub, and_self, and_true, true_and, ite_self, ld_200, st_200, ld_199, st_199]
                    refine hr _ (fun x y => ?_)
                    rw [fst_u, hS', hS', if_neg (show ¬ ((200 : Nat) = 199 ∧ _) by omega), if_pos (show (200 : Nat) = 200 ∧ q < k by omega)]
                    by_cases e : x = 199 ∧ y = 60 * t + j + q
                    · rw [if_pos e, if_pos (by omega), show y - (60 * t + j) = q by omega]
                    · rw [if_neg e]
                      ((repeat' split) <;> first | rfl | (exfalso; omega))
                · intro rec q S hq hS hr
                  unfold f_X9_copy_L120
                  rw [if_neg (nI_ge hq (by omega))]
                  simp (disch := omega) only [↓pv_nm_eq, ↓pv_jn_eq, ↓reduceIte, pv_nm_eq, pv_jn_eq, pv_cap_some, pv_cal_some, pv_ck_true, lit_eq, pk_mul, nI_add, sbn, eqn, len', ltn, if_true, if_false, ite_true, ite_false, eq_self, u_s, u_e, u_k, u_j, Nat.zero_le, Nat.one_ne_zero, Nat.reduceEqDiff, Nat.reduceLT, Nat.reduceLeDiff, Nat.reduceAdd, Nat.reduceMul, Nat.reduceSub, and_self, and_true, true_and, ite_self, ld_200, st_200, ld_199, st_199]
                  refine hr _ (fun x y => ?_)
                  rw [fst_u, hS, hS, if_neg (show ¬ ((199 : Nat) = 200 ∧ _) by omega)]
                  by_cases e : x = 200 ∧ y = q
                  · rw [if_pos e, if_pos (by omega), e.2]
                  · rw [if_neg e]
                    ((repeat' split) <;> first | rfl | (exfalso; omega))
              obtain ⟨M2, d1, d2⟩ := hy
              have hF : ∀ k j, ¬ ((192 ≤ k ∧ k ≤ 195) ∨ k = 199 ∨ k = 200) → M2.1 k j = M.1 k j := by
                intro x y q
                rw [d2, if_neg (by omega), if_neg (by omega), c3, if_neg (by omega)]
              refine ⟨1, M1, M2, hx, d1, n, b, cn, cf, kn, kf, bn, bf, l, d, pu, ra, rb, (h1.fr (fun k j q => hF k j (by first | omega | (unfold PM PX; omega) | (unfold PM; omega)))), (h2.fr (fun k j q => hF k j (by first | omega | (unfold PM PX; omega) | (unfold PM; omega)))), (h3.fr (fun k j q => hF k j (by first | omega | (unfold PM PX; omega) | (unfold PM; omega)))), (h4.fr (fun k j q => hF k j (by first | omega | (unfold PM PX; omega) | (unfold PM; omega)))), (h5.fr (fun k j q => hF k j (by first | omega | (unfold PM PX; omega) | (unfold PM; omega)))), (h6.fr (fun k j q => hF k j (by first | omega | (unfold PM PX; omega) | (unfold PM; omega)))), (h7.fr (fun k j q => hF k j (by first | omega | (unfold PM PX; omega) | (unfold PM; omega)))), ?_, (h9.fr (fun k j q => hF k j (by first | omega | (unfold PM PX; omega) | (unfold PM; omega)))).more⟩
              intro w hw
              by_cases e : w = t
              · subst e
                refine Or.inr ⟨f, m', y1, y2, by rw [hF _ _ (by omega)]; exact y3, by rw [hF _ _ (by omega)]; exact y4, by rw [hF _ _ (by omega)]; exact y5, by rw [hF _ _ (by omega)]; exact y6, fun x hx2 => ?_⟩
                rw [d2, if_neg (by omega), if_neg (by omega), c3, d2]
                by_cases e2 : j ≤ x ∧ x < j + k
                · rw [if_pos (by omega), if_pos (by omega), c3, if_neg (by omega), show 60 * w + x - (60 * w + j) = x - j by omega, show 60 * s + i + (x - j) = 60 * s + (i + (x - j)) by omega]
                  exact z7 _ (by omega)
                · rw [if_neg (by omega), if_neg (by omega), if_neg (by omega), c3, if_neg (by omega)]
                  exact y7 x hx2
              · have hG : ∀ k j, ((k = 189 ∧ j = w) ∨ (k = 190 ∧ j = w) ∨ k = 192 + w ∨ (k = 197 ∧ j = w) ∨ (k = 198 ∧ j = w) ∨ (k = 199 ∧ 60 * w ≤ j ∧ j < 60 * w + 60)) → M2.1 k j = M.1 k j := by
                  intro x y q
                  rw [d2, if_neg (by omega), if_neg (by omega), c3, if_neg (by omega)]
                rcases h8 w hw with ⟨z1, z2⟩ | ⟨f', m', z1, z2, z3, z4, z5, z6, z7⟩
                · exact Or.inl ⟨by rw [hG _ _ (by omega)]; exact z1, by rw [hG _ _ (by omega)]; exact z2⟩
                · refine Or.inr ⟨f', m', z1, z2, by rw [hG _ _ (by omega)]; exact z3, by rw [hG _ _ (by omega)]; exact z4, by rw [hG _ _ (by omega)]; exact z5, by rw [hG _ _ (by omega)]; exact z6, fun i hi => ?_⟩
                  rw [hG _ _ (by omega), hG _ _ (by omega)]
                  exact z7 i hi
            · refine ⟨-10 - 2, (pv_u M.1 0 18 2, M.2), (pv_u (pv_u M.1 0 18 2) 196 4 2, M.2), ?_, ?_, hI0.find 2⟩
              · unfold f_X8_copy f_X4_isLost f_X8_find
                by_cases p1 : hasP a2 a5 m
                · have x1 := (x_has a2 a5 hs z2 z5).1 p1
                  have x2 := (x_has a4 a5 ht y2 y5).2 (fun q => p ⟨p1, q⟩)
                  simp (disch := omega) only [↓pv_nm_eq, ↓pv_jn_eq, ↓reduceIte, pv_nm_eq, pv_jn_eq, pv_cap_some, pv_cal_some, pv_ck_true, lit_eq, pk_mul, nI_add, sbn, eqn, len', ltn, if_true, if_false, ite_true, ite_false, eq_self, u_s, u_e, u_k, u_j, Nat.zero_le, Nat.one_ne_zero, Nat.reduceEqDiff, Nat.reduceLT, Nat.reduceLeDiff, Nat.reduceAdd, Nat.reduceMul, Nat.reduceSub, and_self, and_true, true_and, ite_self, ld_189, st_189, lr_191, ↓gcm_isText, ↓gcm_isSheet, ↓gcm_isTwo, ↓gcm_isYear, ↓gcm_isUnit, ↓gcm_isAnyVoter, ↓gcx_isText, ↓gcx_isYear, ↓gcx_isUnit, ↓gcx_isPerson, ↓gcx_isSheet, ↓gcx_isForm, ↓gcx_isTown, ↓gcx_isKind, ↓gc_w, ↓gi_0_1, ↓gi_0_2, ↓gi_0_3, ↓gi_0_5, ↓gi_0_7, ↓gi_0_9, ↓gi_0_255, ↓gi_0_999, ↓gi_1_9, ↓gi_1_99, ↓gi_0_4095, ↓gi_m2_3, mg_isText, mg_isSheet, mg_isTwo, mg_isYear, mg_isUnit, mg_isAnyVoter, xg_isText, xg_isYear, xg_isUnit, xg_isPerson, xg_isSheet, xg_isForm, xg_isTown, xg_isKind, within_n, i_0_1, i_0_2, i_0_3, i_0_5, i_0_7, i_0_9, i_0_255, i_0_999, i_1_9, i_1_99, i_0_4095, i_m2_3, hs, ht, z3, y3, nf1, n0m1, m1lt, x1, x2]
                · have x1 := (x_has a2 a5 hs z2 z5).2 p1
                  simp (disch := omega) only [↓pv_nm_eq, ↓pv_jn_eq, ↓reduceIte, pv_nm_eq, pv_jn_eq, pv_cap_some, pv_cal_some, pv_ck_true, lit_eq, pk_mul, nI_add, sbn, eqn, len', ltn, if_true, if_false, ite_true, ite_false, eq_self, u_s, u_e, u_k, u_j, Nat.zero_le, Nat.one_ne_zero, Nat.reduceEqDiff, Nat.reduceLT, Nat.reduceLeDiff, Nat.reduceAdd, Nat.reduceMul, Nat.reduceSub, and_self, and_true, true_and, ite_self, ld_189, st_189, lr_191, ↓gcm_isText, ↓gcm_isSheet, ↓gcm_isTwo, ↓gcm_isYear, ↓gcm_isUnit, ↓gcm_isAnyVoter, ↓gcx_isText, ↓gcx_isYear, ↓gcx_isUnit, ↓gcx_isPerson, ↓gcx_isSheet, ↓gcx_isForm, ↓gcx_isTown, ↓gcx_isKind, ↓gc_w, ↓gi_0_1, ↓gi_0_2, ↓gi_0_3, ↓gi_0_5, ↓gi_0_7, ↓gi_0_9, ↓gi_0_255, ↓gi_0_999, ↓gi_1_9, ↓gi_1_99, ↓gi_0_4095, ↓gi_m2_3, mg_isText, mg_isSheet, mg_isTwo, mg_isYear, mg_isUnit, mg_isAnyVoter, xg_isText, xg_isYear, xg_isUnit, xg_isPerson, xg_isSheet, xg_isForm, xg_isTown, xg_isKind, within_n, i_0_1, i_0_2, i_0_3, i_0_5, i_0_7, i_0_9, i_0_255, i_0_999, i_1_9, i_1_99, i_0_4095, i_m2_3, hs, ht, z3, y3, nf1, n0m1, m1lt, x1]
              · unfold f_X9_copy f_X9_met
                by_cases q1 : a2 < nI 0
                · simp (disch := omega) only [↓pv_nm_eq, ↓pv_jn_eq, ↓reduceIte, pv_nm_eq, pv_jn_eq, pv_cap_some, pv_cal_some, pv_ck_true, lit_eq, pk_mul, nI_add, sbn, eqn, len', ltn, if_true, if_false, ite_true, ite_false, eq_self, u_s, u_e, u_k, u_j, Nat.zero_le, Nat.one_ne_zero, Nat.reduceEqDiff, Nat.reduceLT, Nat.reduceLeDiff, Nat.reduceAdd, Nat.reduceMul, Nat.reduceSub, and_self, and_true, true_and, ite_self, ld_197, st_197, ld_198, st_198, ↓gcm_isText, ↓gcm_isSheet, ↓gcm_isTwo, ↓gcm_isYear, ↓gcm_isUnit, ↓gcm_isAnyVoter, ↓gcx_isText, ↓gcx_isYear, ↓gcx_isUnit, ↓gcx_isPerson, ↓gcx_isSheet, ↓gcx_isForm, ↓gcx_isTown, ↓gcx_isKind, ↓gc_w, ↓gi_0_1, ↓gi_0_2, ↓gi_0_3, ↓gi_0_5, ↓gi_0_7, ↓gi_0_9, ↓gi_0_255, ↓gi_0_999, ↓gi_1_9, ↓gi_1_99, ↓gi_0_4095, ↓gi_m2_3, mg_isText, mg_isSheet, mg_isTwo, mg_isYear, mg_isUnit, mg_isAnyVoter, xg_isText, xg_isYear, xg_isUnit, xg_isPerson, xg_isSheet, xg_isForm, xg_isTown, xg_isKind, within_n, i_0_1, i_0_2, i_0_3, i_0_5, i_0_7, i_0_9, i_0_255, i_0_999, i_1_9, i_1_99, i_0_4095, i_m2_3, hs, ht, z4, y4, z6, y6, nf1, n0m1, m1lt, q1, Nat.not_lt_zero]
                · by_cases q2 : a4 < nI 0
                  · simp (disch := omega) only [↓pv_nm_eq, ↓pv_jn_eq, ↓reduceIte, pv_nm_eq, pv_jn_eq, pv_cap_some, pv_cal_some, pv_ck_true, lit_eq, pk_mul, nI_add, sbn, eqn, len', ltn, if_true, if_false, ite_true, ite_false, eq_self, u_s, u_e, u_k, u_j, Nat.zero_le, Nat.one_ne_zero, Nat.reduceEqDiff, Nat.reduceLT, Nat.reduceLeDiff, Nat.reduceAdd, Nat.reduceMul, Nat.reduceSub, and_self, and_true, true_and, ite_self, ld_197, st_197, ld_198, st_198, ↓gcm_isText, ↓gcm_isSheet, ↓gcm_isTwo, ↓gcm_isYear, ↓gcm_isUnit, ↓gcm_isAnyVoter, ↓gcx_isText, ↓gcx_isYear, ↓gcx_isUnit, ↓gcx_isPerson, ↓gcx_isSheet, ↓gcx_isForm, ↓gcx_isTown, ↓gcx_isKind, ↓gc_w, ↓gi_0_1, ↓gi_0_2, ↓gi_0_3, ↓gi_0_5, ↓gi_0_7, ↓gi_0_9, ↓gi_0_255, ↓gi_0_999, ↓gi_1_9, ↓gi_1_99, ↓gi_0_4095, ↓gi_m2_3, mg_isText, mg_isSheet, mg_isTwo, mg_isYear, mg_isUnit, mg_isAnyVoter, xg_isText, xg_isYear, xg_isUnit, xg_isPerson, xg_isSheet, xg_isForm, xg_isTown, xg_isKind, within_n, i_0_1, i_0_2, i_0_3, i_0_5, i_0_7, i_0_9, i_0_255, i_0_999, i_1_9, i_1_99, i_0_4095, i_m2_3, hs, ht, z4, y4, z6, y6, nf1, n0m1, m1lt, q1, q2, Nat.not_lt_zero]
                  · by_cases q3 : a5 < nI 0
                    · simp (disch := omega) only [↓pv_nm_eq, ↓pv_jn_eq, ↓reduceIte, pv_nm_eq, pv_jn_eq, pv_cap_some, pv_cal_some, pv_ck_true, lit_eq, pk_mul, nI_add, sbn, eqn, len', ltn, if_true, if_false, ite_true, ite_false, eq_self, u_s, u_e, u_k, u_j, Nat.zero_le, Nat.one_ne_zero, Nat.reduceEqDiff, Nat.reduceLT, Nat.reduceLeDiff, Nat.reduceAdd, Nat.reduceMul, Nat.reduceSub, and_self, and_true, true_and, ite_self, ld_197, st_197, ld_198, st_198, ↓gcm_isText, ↓gcm_isSheet, ↓gcm_isTwo, ↓gcm_isYear, ↓gcm_isUnit, ↓gcm_isAnyVoter, ↓gcx_isText, ↓gcx_isYear, ↓gcx_isUnit, ↓gcx_isPerson, ↓gcx_isSheet, ↓gcx_isForm, ↓gcx_isTown, ↓gcx_isKind, ↓gc_w, ↓gi_0_1, ↓gi_0_2, ↓gi_0_3, ↓gi_0_5, ↓gi_0_7, ↓gi_0_9, ↓gi_0_255, ↓gi_0_999, ↓gi_1_9, ↓gi_1_99, ↓gi_0_4095, ↓gi_m2_3, mg_isText, mg_isSheet, mg_isTwo, mg_isYear, mg_isUnit, mg_isAnyVoter, xg_isText, xg_isYear, xg_isUnit, xg_isPerson, xg_isSheet, xg_isForm, xg_isTown, xg_isKind, within_n, i_0_1, i_0_2, i_0_3, i_0_5, i_0_7, i_0_9, i_0_255, i_0_999, i_1_9, i_1_99, i_0_4095, i_m2_3, hs, ht, z4, y4, z6, y6, nf1, n0m1, m1lt, q1, q2, q3, Nat.not_lt_zero]
                    · by_cases q4 : nI 0 < lg_cmp (a2.toInt64 + a5.toInt64) (nI m).toInt64
                      · simp (disch := omega) only [↓pv_nm_eq, ↓pv_jn_eq, ↓reduceIte, pv_nm_eq, pv_jn_eq, pv_cap_some, pv_cal_some, pv_ck_true, lit_eq, pk_mul, nI_add, sbn, eqn, len', ltn, if_true, if_false, ite_true, ite_false, eq_self, u_s, u_e, u_k, u_j, Nat.zero_le, Nat.one_ne_zero, Nat.reduceEqDiff, Nat.reduceLT, Nat.reduceLeDiff, Nat.reduceAdd, Nat.reduceMul, Nat.reduceSub, and_self, and_true, true_and, ite_self, ld_197, st_197, ld_198, st_198, ↓gcm_isText, ↓gcm_isSheet, ↓gcm_isTwo, ↓gcm_isYear, ↓gcm_isUnit, ↓gcm_isAnyVoter, ↓gcx_isText, ↓gcx_isYear, ↓gcx_isUnit, ↓gcx_isPerson, ↓gcx_isSheet, ↓gcx_isForm, ↓gcx_isTown, ↓gcx_isKind, ↓gc_w, ↓gi_0_1, ↓gi_0_2, ↓gi_0_3, ↓gi_0_5, ↓gi_0_7, ↓gi_0_9, ↓gi_0_255, ↓gi_0_999, ↓gi_1_9, ↓gi_1_99, ↓gi_0_4095, ↓gi_m2_3, mg_isText, mg_isSheet, mg_isTwo, mg_isYear, mg_isUnit, mg_isAnyVoter, xg_isText, xg_isYear, xg_isUnit, xg_isPerson, xg_isSheet, xg_isForm, xg_isTown, xg_isKind, within_n, i_0_1, i_0_2, i_0_3, i_0_5, i_0_7, i_0_9, i_0_255, i_0_999, i_1_9, i_1_99, i_0_4095, i_m2_3, hs, ht, z4, y4, z6, y6, nf1, n0m1, m1lt, q1, q2, q3, q4, Nat.not_lt_zero]
                      · by_cases q5 : lg_cmp (a4.toInt64 + a5.toInt64) (nI m').toInt64 ≤ nI 0
                        · exfalso
                          rw [lgc_gt z2] at q4
                          rw [lgc_le y2] at q5
                          rw [lt0] at q1 q2 q3
                          exact p ⟨⟨by omega, by omega, by omega⟩, by omega, by omega, q5⟩
                        · simp (disch := omega) only [↓pv_nm_eq, ↓pv_jn_eq, ↓reduceIte, pv_nm_eq, pv_jn_eq, pv_cap_some, pv_cal_some, pv_ck_true, lit_eq, pk_mul, nI_add, sbn, eqn, len', ltn, if_true, if_false, ite_true, ite_false, eq_self, u_s, u_e, u_k, u_j, Nat.zero_le, Nat.one_ne_zero, Nat.reduceEqDiff, Nat.reduceLT, Nat.reduceLeDiff, Nat.reduceAdd, Nat.reduceMul, Nat.reduceSub, and_self, and_true, true_and, ite_self, ld_197, st_197, ld_198, st_198, ↓gcm_isText, ↓gcm_isSheet, ↓gcm_isTwo, ↓gcm_isYear, ↓gcm_isUnit, ↓gcm_isAnyVoter, ↓gcx_isText, ↓gcx_isYear, ↓gcx_isUnit, ↓gcx_isPerson, ↓gcx_isSheet, ↓gcx_isForm, ↓gcx_isTown, ↓gcx_isKind, ↓gc_w, ↓gi_0_1, ↓gi_0_2, ↓gi_0_3, ↓gi_0_5, ↓gi_0_7, ↓gi_0_9, ↓gi_0_255, ↓gi_0_999, ↓gi_1_9, ↓gi_1_99, ↓gi_0_4095, ↓gi_m2_3, mg_isText, mg_isSheet, mg_isTwo, mg_isYear, mg_isUnit, mg_isAnyVoter, xg_isText, xg_isYear, xg_isUnit, xg_isPerson, xg_isSheet, xg_isForm, xg_isTown, xg_isKind, within_n, i_0_1, i_0_2, i_0_3, i_0_5, i_0_7, i_0_9, i_0_255, i_0_999, i_1_9, i_1_99, i_0_4095, i_m2_3, hs, ht, z4, y4, z6, y6, nf1, n0m1, m1lt, q1, q2, q3, q4, q5, Nat.not_lt_zero]
          · refine ⟨-10 - 4, (pv_u M.1 0 18 4, M.2), (pv_u (pv_u M.1 0 18 4) 196 4 4, M.2), ?_, ?_, hI0.find 4⟩
            · unfold f_X8_copy f_X4_isLost f_X8_find
              simp (disch := omega) only [↓pv_nm_eq, ↓pv_jn_eq, ↓reduceIte, pv_nm_eq, pv_jn_eq, pv_cap_some, pv_cal_some, pv_ck_true, lit_eq, pk_mul, nI_add, sbn, eqn, len', ltn, if_true, if_false, ite_true, ite_false, eq_self, u_s, u_e, u_k, u_j, Nat.zero_le, Nat.one_ne_zero, Nat.reduceEqDiff, Nat.reduceLT, Nat.reduceLeDiff, Nat.reduceAdd, Nat.reduceMul, Nat.reduceSub, and_self, and_true, true_and, ite_self, ld_189, st_189, ↓gcm_isText, ↓gcm_isSheet, ↓gcm_isTwo, ↓gcm_isYear, ↓gcm_isUnit, ↓gcm_isAnyVoter, ↓gcx_isText, ↓gcx_isYear, ↓gcx_isUnit, ↓gcx_isPerson, ↓gcx_isSheet, ↓gcx_isForm, ↓gcx_isTown, ↓gcx_isKind, ↓gc_w, ↓gi_0_1, ↓gi_0_2, ↓gi_0_3, ↓gi_0_5, ↓gi_0_7, ↓gi_0_9, ↓gi_0_255, ↓gi_0_999, ↓gi_1_9, ↓gi_1_99, ↓gi_0_4095, ↓gi_m2_3, mg_isText, mg_isSheet, mg_isTwo, mg_isYear, mg_isUnit, mg_isAnyVoter, xg_isText, xg_isYear, xg_isUnit, xg_isPerson, xg_isSheet, xg_isForm, xg_isTown, xg_isKind, within_n, i_0_1, i_0_2, i_0_3, i_0_5, i_0_7, i_0_9, i_0_255, i_0_999, i_1_9, i_1_99, i_0_4095, i_m2_3, hs, ht, z3, y3, nf1, n0m1, m1lt, he]
            · unfold f_X9_copy f_X9_met
              simp (disch := omega) only [↓pv_nm_eq, ↓pv_jn_eq, ↓reduceIte, pv_nm_eq, pv_jn_eq, pv_cap_some, pv_cal_some, pv_ck_true, lit_eq, pk_mul, nI_add, sbn, eqn, len', ltn, if_true, if_false, ite_true, ite_false, eq_self, u_s, u_e, u_k, u_j, Nat.zero_le, Nat.one_ne_zero, Nat.reduceEqDiff, Nat.reduceLT, Nat.reduceLeDiff, Nat.reduceAdd, Nat.reduceMul, Nat.reduceSub, and_self, and_true, true_and, ite_self, ld_197, st_197, ↓gcm_isText, ↓gcm_isSheet, ↓gcm_isTwo, ↓gcm_isYear, ↓gcm_isUnit, ↓gcm_isAnyVoter, ↓gcx_isText, ↓gcx_isYear, ↓gcx_isUnit, ↓gcx_isPerson, ↓gcx_isSheet, ↓gcx_isForm, ↓gcx_isTown, ↓gcx_isKind, ↓gc_w, ↓gi_0_1, ↓gi_0_2, ↓gi_0_3, ↓gi_0_5, ↓gi_0_7, ↓gi_0_9, ↓gi_0_255, ↓gi_0_999, ↓gi_1_9, ↓gi_1_99, ↓gi_0_4095, ↓gi_m2_3, mg_isText, mg_isSheet, mg_isTwo, mg_isYear, mg_isUnit, mg_isAnyVoter, xg_isText, xg_isYear, xg_isUnit, xg_isPerson, xg_isSheet, xg_isForm, xg_isTown, xg_isKind, within_n, i_0_1, i_0_2, i_0_3, i_0_5, i_0_7, i_0_9, i_0_255, i_0_999, i_1_9, i_1_99, i_0_4095, i_m2_3, hs, ht, z4, y4, nf1, n0m1, m1lt, he, Nat.not_lt_zero]
    · refine ⟨-2, M, M, ?_, ?_, hI.more⟩
      · unfold f_X8_copy
        simp (disch := omega) only [↓pv_nm_eq, ↓pv_jn_eq, ↓reduceIte, pv_nm_eq, pv_jn_eq, pv_cap_some, pv_cal_some, pv_ck_true, lit_eq, pk_mul, nI_add, sbn, eqn, len', ltn, if_true, if_false, ite_true, ite_false, eq_self, u_s, u_e, u_k, u_j, Nat.zero_le, Nat.one_ne_zero, Nat.reduceEqDiff, Nat.reduceLT, Nat.reduceLeDiff, Nat.reduceAdd, Nat.reduceMul, Nat.reduceSub, and_self, and_true, true_and, ite_self, ↓gcm_isText, ↓gcm_isSheet, ↓gcm_isTwo, ↓gcm_isYear, ↓gcm_isUnit, ↓gcm_isAnyVoter, ↓gcx_isText, ↓gcx_isYear, ↓gcx_isUnit, ↓gcx_isPerson, ↓gcx_isSheet, ↓gcx_isForm, ↓gcx_isTown, ↓gcx_isKind, ↓gc_w, ↓gi_0_1, ↓gi_0_2, ↓gi_0_3, ↓gi_0_5, ↓gi_0_7, ↓gi_0_9, ↓gi_0_255, ↓gi_0_999, ↓gi_1_9, ↓gi_1_99, ↓gi_0_4095, ↓gi_m2_3, mg_isText, mg_isSheet, mg_isTwo, mg_isYear, mg_isUnit, mg_isAnyVoter, xg_isText, xg_isYear, xg_isUnit, xg_isPerson, xg_isSheet, xg_isForm, xg_isTown, xg_isKind, within_n, i_0_1, i_0_2, i_0_3, i_0_5, i_0_7, i_0_9, i_0_255, i_0_999, i_1_9, i_1_99, i_0_4095, i_m2_3, g0, g1]
      · unfold f_X9_copy
        simp (disch := omega) only [↓pv_nm_eq, ↓pv_jn_eq, ↓reduceIte, pv_nm_eq, pv_jn_eq, pv_cap_some, pv_cal_some, pv_ck_true, lit_eq, pk_mul, nI_add, sbn, eqn, len', ltn, if_true, if_false, ite_true, ite_false, eq_self, u_s, u_e, u_k, u_j, Nat.zero_le, Nat.one_ne_zero, Nat.reduceEqDiff, Nat.reduceLT, Nat.reduceLeDiff, Nat.reduceAdd, Nat.reduceMul, Nat.reduceSub, and_self, and_true, true_and, ite_self, ↓gcm_isText, ↓gcm_isSheet, ↓gcm_isTwo, ↓gcm_isYear, ↓gcm_isUnit, ↓gcm_isAnyVoter, ↓gcx_isText, ↓gcx_isYear, ↓gcx_isUnit, ↓gcx_isPerson, ↓gcx_isSheet, ↓gcx_isForm, ↓gcx_isTown, ↓gcx_isKind, ↓gc_w, ↓gi_0_1, ↓gi_0_2, ↓gi_0_3, ↓gi_0_5, ↓gi_0_7, ↓gi_0_9, ↓gi_0_255, ↓gi_0_999, ↓gi_1_9, ↓gi_1_99, ↓gi_0_4095, ↓gi_m2_3, mg_isText, mg_isSheet, mg_isTwo, mg_isYear, mg_isUnit, mg_isAnyVoter, xg_isText, xg_isYear, xg_isUnit, xg_isPerson, xg_isSheet, xg_isForm, xg_isTown, xg_isKind, within_n, i_0_1, i_0_2, i_0_3, i_0_5, i_0_7, i_0_9, i_0_255, i_0_999, i_1_9, i_1_99, i_0_4095, i_m2_3, g0, g1]
  · refine ⟨-2, M, M, ?_, ?_, hI.more⟩
    · unfold f_X8_copy
      simp (disch := omega) only [↓pv_nm_eq, ↓pv_jn_eq, ↓reduceIte, pv_nm_eq, pv_jn_eq, pv_cap_some, pv_cal_some, pv_ck_true, lit_eq, pk_mul, nI_add, sbn, eqn, len', ltn, if_true, if_false, ite_true, ite_false, eq_self, u_s, u_e, u_k, u_j, Nat.zero_le, Nat.one_ne_zero, Nat.reduceEqDiff, Nat.reduceLT, Nat.reduceLeDiff, Nat.reduceAdd, Nat.reduceMul, Nat.reduceSub, and_self, and_true, true_and, ite_self, ↓gcm_isText, ↓gcm_isSheet, ↓gcm_isTwo, ↓gcm_isYear, ↓gcm_isUnit, ↓gcm_isAnyVoter, ↓gcx_isText, ↓gcx_isYear, ↓gcx_isUnit, ↓gcx_isPerson, ↓gcx_isSheet, ↓gcx_isForm, ↓gcx_isTown, ↓gcx_isKind, ↓gc_w, ↓gi_0_1, ↓gi_0_2, ↓gi_0_3, ↓gi_0_5, ↓gi_0_7, ↓gi_0_9, ↓gi_0_255, ↓gi_0_999, ↓gi_1_9, ↓gi_1_99, ↓gi_0_4095, ↓gi_m2_3, mg_isText, mg_isSheet, mg_isTwo, mg_isYear, mg_isUnit, mg_isAnyVoter, xg_isText, xg_isYear, xg_isUnit, xg_isPerson, xg_isSheet, xg_isForm, xg_isTown, xg_isKind, within_n, i_0_1, i_0_2, i_0_3, i_0_5, i_0_7, i_0_9, i_0_255, i_0_999, i_1_9, i_1_99, i_0_4095, i_m2_3, g0]
    · unfold f_X9_copy
      simp (disch := omega) only [↓pv_nm_eq, ↓pv_jn_eq, ↓reduceIte, pv_nm_eq, pv_jn_eq, pv_cap_some, pv_cal_some, pv_ck_true, lit_eq, pk_mul, nI_add, sbn, eqn, len', ltn, if_true, if_false, ite_true, ite_false, eq_self, u_s, u_e, u_k, u_j, Nat.zero_le, Nat.one_ne_zero, Nat.reduceEqDiff, Nat.reduceLT, Nat.reduceLeDiff, Nat.reduceAdd, Nat.reduceMul, Nat.reduceSub, and_self, and_true, true_and, ite_self, ↓gcm_isText, ↓gcm_isSheet, ↓gcm_isTwo, ↓gcm_isYear, ↓gcm_isUnit, ↓gcm_isAnyVoter, ↓gcx_isText, ↓gcx_isYear, ↓gcx_isUnit, ↓gcx_isPerson, ↓gcx_isSheet, ↓gcx_isForm, ↓gcx_isTown, ↓gcx_isKind, ↓gc_w, ↓gi_0_1, ↓gi_0_2, ↓gi_0_3, ↓gi_0_5, ↓gi_0_7, ↓gi_0_9, ↓gi_0_255, ↓gi_0_999, ↓gi_1_9, ↓gi_1_99, ↓gi_0_4095, ↓gi_m2_3, mg_isText, mg_isSheet, mg_isTwo, mg_isYear, mg_isUnit, mg_isAnyVoter, xg_isText, xg_isYear, xg_isUnit, xg_isPerson, xg_isSheet, xg_isForm, xg_isTown, xg_isKind, within_n, i_0_1, i_0_2, i_0_3, i_0_5, i_0_7, i_0_9, i_0_255, i_0_999, i_1_9, i_1_99, i_0_4095, i_m2_3, g0]

/-! read -/
def Rd (it : Nat → Int32) (mn r : Nat) : Prop := r ≤ mn ∧ (∀ i, i < r → ∃ q, q ≤ 999 ∧ it i = nI q) ∧ (r = mn ∨ ¬ (nI 0 ≤ it r ∧ it r ≤ nI 999))
theorem Rd.one {it : Nat → Int32} {mn r r' : Nat} (h : Rd it mn r) (h' : Rd it mn r') : r = r' := by
  obtain ⟨a1, a2, a3⟩ := h
  obtain ⟨b1, b2, b3⟩ := h'
  have ok : ∀ q, q ≤ 999 → nI 0 ≤ nI q ∧ nI q ≤ nI 999 := fun q hq => ⟨nI_le (by omega) (by omega), nI_le hq (by decide)⟩
  rcases Nat.lt_trichotomy r r' with q | q | q
  · obtain ⟨z, hz, e⟩ := b2 r q
    rcases a3 with w | w
    · omega
    · rw [e] at w
      exact absurd (ok z hz) w
  · exact q
  · obtain ⟨z, hz, e⟩ := a2 r' q
    rcases b3 with w | w
    · omega
    · rw [e] at w
      exact absurd (ok z hz) w
theorem op_read (RI : pv_RI) (CA : pv_CA) (a1 : Int32) : OP RI CA (f_X8_read a1) (f_X9_read a1) := by
  intro c M hc hI
  by_cases g0 : nI 0 ≤ a1 ∧ a1 ≤ nI 3
  · obtain ⟨s, hs, rfl⟩ := rng (by decide) g0
    have hI0 := hI
    obtain ⟨n, b, cn, cf, kn, kf, bn, bf, l, d, pu, ra, rb, h1, h2, h3, h4, h5, h6, h7, h8, h9⟩ := hI
    rcases h8 s (by omega) with ⟨z1, z2⟩ | ⟨f, m, z1, z2, z3, z4, z5, z6, z7⟩
    · refine ⟨-10 - 1, (pv_u M.1 0 18 1, M.2), (pv_u (pv_u M.1 0 18 1) 196 4 1, M.2), ?_, ?_, hI0.find 1⟩
      · unfold f_X8_read f_X4_isLost f_X8_find
        simp (disch := omega) only [↓pv_nm_eq, ↓pv_jn_eq, ↓reduceIte, pv_nm_eq, pv_jn_eq, pv_cap_some, pv_cal_some, pv_ck_true, lit_eq, pk_mul, nI_add, sbn, eqn, len', ltn, if_true, if_false, ite_true, ite_false, eq_self, u_s, u_e, u_k, u_j, Nat.zero_le, Nat.one_ne_zero, Nat.reduceEqDiff, Nat.reduceLT, Nat.reduceLeDiff, Nat.reduceAdd, Nat.reduceMul, Nat.reduceSub, and_self, and_true, true_and, ite_self, ld_189, st_189, ↓gcm_isText, ↓gcm_isSheet, ↓gcm_isTwo, ↓gcm_isYear, ↓gcm_isUnit, ↓gcm_isAnyVoter, ↓gcx_isText, ↓gcx_isYear, ↓gcx_isUnit, ↓gcx_isPerson, ↓gcx_isSheet, ↓gcx_isForm, ↓gcx_isTown, ↓gcx_isKind, ↓gc_w, ↓gi_0_1, ↓gi_0_2, ↓gi_0_3, ↓gi_0_5, ↓gi_0_7, ↓gi_0_9, ↓gi_0_255, ↓gi_0_999, ↓gi_1_9, ↓gi_1_99, ↓gi_0_4095, ↓gi_m2_3, mg_isText, mg_isSheet, mg_isTwo, mg_isYear, mg_isUnit, mg_isAnyVoter, xg_isText, xg_isYear, xg_isUnit, xg_isPerson, xg_isSheet, xg_isForm, xg_isTown, xg_isKind, within_n, i_0_1, i_0_2, i_0_3, i_0_5, i_0_7, i_0_9, i_0_255, i_0_999, i_1_9, i_1_99, i_0_4095, i_m2_3, hs, z1]
      · unfold f_X9_read f_X9_met
        simp (disch := omega) only [↓pv_nm_eq, ↓pv_jn_eq, ↓reduceIte, pv_nm_eq, pv_jn_eq, pv_cap_some, pv_cal_some, pv_ck_true, lit_eq, pk_mul, nI_add, sbn, eqn, len', ltn, if_true, if_false, ite_true, ite_false, eq_self, u_s, u_e, u_k, u_j, Nat.zero_le, Nat.one_ne_zero, Nat.reduceEqDiff, Nat.reduceLT, Nat.reduceLeDiff, Nat.reduceAdd, Nat.reduceMul, Nat.reduceSub, and_self, and_true, true_and, ite_self, ld_197, st_197, ↓gcm_isText, ↓gcm_isSheet, ↓gcm_isTwo, ↓gcm_isYear, ↓gcm_isUnit, ↓gcm_isAnyVoter, ↓gcx_isText, ↓gcx_isYear, ↓gcx_isUnit, ↓gcx_isPerson, ↓gcx_isSheet, ↓gcx_isForm, ↓gcx_isTown, ↓gcx_isKind, ↓gc_w, ↓gi_0_1, ↓gi_0_2, ↓gi_0_3, ↓gi_0_5, ↓gi_0_7, ↓gi_0_9, ↓gi_0_255, ↓gi_0_999, ↓gi_1_9, ↓gi_1_99, ↓gi_0_4095, ↓gi_m2_3, mg_isText, mg_isSheet, mg_isTwo, mg_isYear, mg_isUnit, mg_isAnyVoter, xg_isText, xg_isYear, xg_isUnit, xg_isPerson, xg_isSheet, xg_isForm, xg_isTown, xg_isKind, within_n, i_0_1, i_0_2, i_0_3, i_0_5, i_0_7, i_0_9, i_0_255, i_0_999, i_1_9, i_1_99, i_0_4095, i_m2_3, hs, z2, nf1, n0m1, m1lt]
    · obtain ⟨mn, hmn⟩ : ∃ mn, mn = if 8 < m then 8 else m := ⟨_, rfl⟩
      have hmn1 : mn ≤ m ∧ mn ≤ 8 ∧ (mn = 8 ∨ mn = m) := by rw [hmn]; split <;> omega
      obtain ⟨it, hit⟩ : ∃ it : Nat → Int32, it = M.1 (192 + s) := ⟨_, rfl⟩
      have hx : ∃ r M1, f_X8_read (nI s) M = some (nI r, M1) ∧ Rd it mn r ∧ ∀ x y, M1.1 x y = if x = 37 ∧ y < r then it y else M.1 x y := by
        unfold f_X8_read f_X4_isLost
        simp (disch := omega) only [↓pv_nm_eq, ↓pv_jn_eq, ↓reduceIte, pv_nm_eq, pv_jn_eq, pv_cap_some, pv_cal_some, pv_ck_true, lit_eq, pk_mul, nI_add, sbn, eqn, len', ltn, if_true, if_false, ite_true, ite_false, eq_self, u_s, u_e, u_k, u_j, Nat.zero_le, Nat.one_ne_zero, Nat.reduceEqDiff, Nat.reduceLT, Nat.reduceLeDiff, Nat.reduceAdd, Nat.reduceMul, Nat.reduceSub, and_self, and_true, true_and, ite_self, ld_189, st_189, ld_190, st_190, ↓gcm_isText, ↓gcm_isSheet, ↓gcm_isTwo, ↓gcm_isYear, ↓gcm_isUnit, ↓gcm_isAnyVoter, ↓gcx_isText, ↓gcx_isYear, ↓gcx_isUnit, ↓gcx_isPerson, ↓gcx_isSheet, ↓gcx_isForm, ↓gcx_isTown, ↓gcx_isKind, ↓gc_w, ↓gi_0_1, ↓gi_0_2, ↓gi_0_3, ↓gi_0_5, ↓gi_0_7, ↓gi_0_9, ↓gi_0_255, ↓gi_0_999, ↓gi_1_9, ↓gi_1_99, ↓gi_0_4095, ↓gi_m2_3, mg_isText, mg_isSheet, mg_isTwo, mg_isYear, mg_isUnit, mg_isAnyVoter, xg_isText, xg_isYear, xg_isUnit, xg_isPerson, xg_isSheet, xg_isForm, xg_isTown, xg_isKind, within_n, i_0_1, i_0_2, i_0_3, i_0_5, i_0_7, i_0_9, i_0_255, i_0_999, i_1_9, i_1_99, i_0_4095, i_m2_3, hs, z3, z5, nf1, n0m1, m1lt]
        rw [show (if 8 < m then nI 8 else nI m) = nI mn by rw [hmn]; split <;> rfl]
        refine for2 mn (fun i (S : pv_M) => (∀ z, z < i → ∃ q, q ≤ 999 ∧ it z = nI q) ∧ ∀ x y, S.1 x y = if x = 37 ∧ y < i then it y else M.1 x y) (fun q => ∃ (r : Nat) (M1 : pv_M), q = some (nI r, M1) ∧ Rd it mn r ∧ ∀ x y, M1.1 x y = if x = 37 ∧ y < r then it y else M.1 x y) ?_ ?_ pv_FU 0 _ (Nat.zero_le _) (by show mn - 0 < 5000; omega) ⟨fun z hz => absurd hz (Nat.not_lt_zero _), fun x y => by rw [if_neg (by omega)]⟩
        · intro rec S hS
          unfold f_X8_read_L44
          rw [if_pos (nI_le (Nat.le_refl mn) (by omega))]
          exact ⟨mn, S, rfl, ⟨Nat.le_refl _, hS.1, Or.inl rfl⟩, hS.2⟩
        · intro rec i S hi hS hr
          have e : S.1 (192 + s) i = it i := by rw [hS.2, if_neg (by omega), hit]
          unfold f_X8_read_L44
          rw [if_neg (nI_ge hi (by omega)), lr_191 (by omega), lf_192 (by omega) (by omega), e]
          by_cases g : nI 0 ≤ it i ∧ it i ≤ nI 999
          · obtain ⟨q, hq, eq⟩ := rng (by decide) g
            rw [eq]
            simp (disch := omega) only [↓pv_nm_eq, ↓pv_jn_eq, ↓reduceIte, pv_nm_eq, pv_jn_eq, pv_cap_some, pv_cal_some, pv_ck_true, lit_eq, pk_mul, nI_add, sbn, eqn, len', ltn, if_true, if_false, ite_true, ite_false, eq_self, u_s, u_e, u_k, u_j, Nat.zero_le, Nat.one_ne_zero, Nat.reduceEqDiff, Nat.reduceLT, Nat.reduceLeDiff, Nat.reduceAdd, Nat.reduceMul, Nat.reduceSub, and_self, and_true, true_and, ite_self, ld_37, st_37, ↓gcm_isText, ↓gcm_isSheet, ↓gcm_isTwo, ↓gcm_isYear, ↓gcm_isUnit, ↓gcm_isAnyVoter, ↓gcx_isText, ↓gcx_isYear, ↓gcx_isUnit, ↓gcx_isPerson, ↓gcx_isSheet, ↓gcx_isForm, ↓gcx_isTown, ↓gcx_isKind, ↓gc_w, ↓gi_0_1, ↓gi_0_2, ↓gi_0_3, ↓gi_0_5, ↓gi_0_7, ↓gi_0_9, ↓gi_0_255, ↓gi_0_999, ↓gi_1_9, ↓gi_1_99, ↓gi_0_4095, ↓gi_m2_3, mg_isText, mg_isSheet, mg_isTwo, mg_isYear, mg_isUnit, mg_isAnyVoter, xg_isText, xg_isYear, xg_isUnit, xg_isPerson, xg_isSheet, xg_isForm, xg_isTown, xg_isKind, within_n, i_0_1, i_0_2, i_0_3, i_0_5, i_0_7, i_0_9, i_0_255, i_0_999, i_1_9, i_1_99, i_0_4095, i_m2_3, hq]
            refine hr _ ⟨fun z hz => ?_, fun x y => ?_⟩
            · by_cases ez : z = i
              · exact ⟨q, hq, by rw [ez, eq]⟩
              · exact hS.1 z (by omega)
            · rw [fst_u, hS.2]
              by_cases ex : x = 37 ∧ y = i
              · rw [if_pos ex, if_pos (by omega), ex.2, eq]
              · rw [if_neg ex]
                ((repeat' split) <;> first | rfl | (exfalso; omega))
          · simp (disch := omega) only [↓pv_nm_eq, ↓pv_jn_eq, ↓reduceIte, pv_nm_eq, pv_jn_eq, pv_cap_some, pv_cal_some, pv_ck_true, lit_eq, pk_mul, nI_add, sbn, eqn, len', ltn, if_true, if_false, ite_true, ite_false, eq_self, u_s, u_e, u_k, u_j, Nat.zero_le, Nat.one_ne_zero, Nat.reduceEqDiff, Nat.reduceLT, Nat.reduceLeDiff, Nat.reduceAdd, Nat.reduceMul, Nat.reduceSub, and_self, and_true, true_and, ite_self, ld_37, st_37, ↓gcm_isText, ↓gcm_isSheet, ↓gcm_isTwo, ↓gcm_isYear, ↓gcm_isUnit, ↓gcm_isAnyVoter, ↓gcx_isText, ↓gcx_isYear, ↓gcx_isUnit, ↓gcx_isPerson, ↓gcx_isSheet, ↓gcx_isForm, ↓gcx_isTown, ↓gcx_isKind, ↓gc_w, ↓gi_0_1, ↓gi_0_2, ↓gi_0_3, ↓gi_0_5, ↓gi_0_7, ↓gi_0_9, ↓gi_0_255, ↓gi_0_999, ↓gi_1_9, ↓gi_1_99, ↓gi_0_4095, ↓gi_m2_3, mg_isText, mg_isSheet, mg_isTwo, mg_isYear, mg_isUnit, mg_isAnyVoter, xg_isText, xg_isYear, xg_isUnit, xg_isPerson, xg_isSheet, xg_isForm, xg_isTown, xg_isKind, within_n, i_0_1, i_0_2, i_0_3, i_0_5, i_0_7, i_0_9, i_0_255, i_0_999, i_1_9, i_1_99, i_0_4095, i_m2_3, g]
            exact ⟨i, S, rfl, ⟨by omega, hS.1, Or.inr g⟩, hS.2⟩
      obtain ⟨r, M1, d1, d2, d3⟩ := hx
      have hy : ∃ r' M2, f_X9_read (nI s) M1 = some (nI r', M2) ∧ Rd it mn r' ∧ ∀ x y, M2.1 x y = if x = 206 ∧ y < r' then it y else M1.1 x y := by
        have v1 : M1.1 197 s = nI f := by rw [d3, if_neg (by omega)]; exact z4
        unfold f_X9_read
        simp (disch := omega) only [↓pv_nm_eq, ↓pv_jn_eq, ↓reduceIte, pv_nm_eq, pv_jn_eq, pv_cap_some, pv_cal_some, pv_ck_true, lit_eq, pk_mul, nI_add, sbn, eqn, len', ltn, if_true, if_false, ite_true, ite_false, eq_self, u_s, u_e, u_k, u_j, Nat.zero_le, Nat.one_ne_zero, Nat.reduceEqDiff, Nat.reduceLT, Nat.reduceLeDiff, Nat.reduceAdd, Nat.reduceMul, Nat.reduceSub, and_self, and_true, true_and, ite_self, ld_197, st_197, ↓gcm_isText, ↓gcm_isSheet, ↓gcm_isTwo, ↓gcm_isYear, ↓gcm_isUnit, ↓gcm_isAnyVoter, ↓gcx_isText, ↓gcx_isYear, ↓gcx_isUnit, ↓gcx_isPerson, ↓gcx_isSheet, ↓gcx_isForm, ↓gcx_isTown, ↓gcx_isKind, ↓gc_w, ↓gi_0_1, ↓gi_0_2, ↓gi_0_3, ↓gi_0_5, ↓gi_0_7, ↓gi_0_9, ↓gi_0_255, ↓gi_0_999, ↓gi_1_9, ↓gi_1_99, ↓gi_0_4095, ↓gi_m2_3, mg_isText, mg_isSheet, mg_isTwo, mg_isYear, mg_isUnit, mg_isAnyVoter, xg_isText, xg_isYear, xg_isUnit, xg_isPerson, xg_isSheet, xg_isForm, xg_isTown, xg_isKind, within_n, i_0_1, i_0_2, i_0_3, i_0_5, i_0_7, i_0_9, i_0_255, i_0_999, i_1_9, i_1_99, i_0_4095, i_m2_3, hs, v1]
        refine for2 mn (fun i (S : pv_M) => (∀ z, z < i → ∃ q, q ≤ 999 ∧ it z = nI q) ∧ ∀ x y, S.1 x y = if x = 206 ∧ y < i then it y else M1.1 x y) (fun q => ∃ (r' : Nat) (M2 : pv_M), q = some (nI r', M2) ∧ Rd it mn r' ∧ ∀ x y, M2.1 x y = if x = 206 ∧ y < r' then it y else M1.1 x y) ?_ ?_ pv_FU 0 _ (Nat.zero_le _) (by show mn - 0 < 5000; omega) ⟨fun z hz => absurd hz (Nat.not_lt_zero _), fun x y => by rw [if_neg (by omega)]⟩
        · intro rec S hS
          have w1 : S.1 198 s = nI m := by rw [hS.2, if_neg (by omega), d3, if_neg (by omega)]; exact z6
          unfold f_X9_read_L27
          rw [ld_198 (by omega), w1]
          by_cases e8 : m ≤ mn
          · rw [if_pos (nI_le e8 (by omega))]
            exact ⟨mn, S, rfl, ⟨Nat.le_refl _, hS.1, Or.inl rfl⟩, hS.2⟩
          · rw [if_neg (nI_ge (by omega) (by omega))]
            unfold f_X9_purse
            have e9 : mn = 8 := by omega
            subst e9
            simp (disch := omega) only [↓pv_nm_eq, ↓pv_jn_eq, ↓reduceIte, pv_nm_eq, pv_jn_eq, pv_cap_some, pv_cal_some, pv_ck_true, lit_eq, pk_mul, nI_add, sbn, eqn, len', ltn, if_true, if_false, ite_true, ite_false, eq_self, u_s, u_e, u_k, u_j, Nat.zero_le, Nat.one_ne_zero, Nat.reduceEqDiff, Nat.reduceLT, Nat.reduceLeDiff, Nat.reduceAdd, Nat.reduceMul, Nat.reduceSub, and_self, and_true, true_and, ite_self, ld_199, st_199, ↓gcm_isText, ↓gcm_isSheet, ↓gcm_isTwo, ↓gcm_isYear, ↓gcm_isUnit, ↓gcm_isAnyVoter, ↓gcx_isText, ↓gcx_isYear, ↓gcx_isUnit, ↓gcx_isPerson, ↓gcx_isSheet, ↓gcx_isForm, ↓gcx_isTown, ↓gcx_isKind, ↓gc_w, ↓gi_0_1, ↓gi_0_2, ↓gi_0_3, ↓gi_0_5, ↓gi_0_7, ↓gi_0_9, ↓gi_0_255, ↓gi_0_999, ↓gi_1_9, ↓gi_1_99, ↓gi_0_4095, ↓gi_m2_3, mg_isText, mg_isSheet, mg_isTwo, mg_isYear, mg_isUnit, mg_isAnyVoter, xg_isText, xg_isYear, xg_isUnit, xg_isPerson, xg_isSheet, xg_isForm, xg_isTown, xg_isKind, within_n, i_0_1, i_0_2, i_0_3, i_0_5, i_0_7, i_0_9, i_0_255, i_0_999, i_1_9, i_1_99, i_0_4095, i_m2_3, show ¬ (8 ≤ 7) by decide, show (-nI 2 < nI 0) by decide]
            exact ⟨8, S, rfl, ⟨Nat.le_refl _, hS.1, Or.inl rfl⟩, hS.2⟩
        · intro rec i S hi hS hr
          have w1 : S.1 198 s = nI m := by rw [hS.2, if_neg (by omega), d3, if_neg (by omega)]; exact z6
          have w2 : S.1 199 (60 * s + i) = it i := by rw [hS.2, if_neg (by omega), d3, if_neg (by omega), hit]; exact (z7 i (by omega)).symm
          have w3 : S.1 206 i = nI (pu i) := by rw [hS.2, if_neg (by omega), d3, if_neg (by omega)]; exact (h6 i (by omega)).2.2
          have w4 := (h6 i (by omega)).1
          unfold f_X9_read_L27 f_X9_purse
          rw [ld_198 (by omega), w1, if_neg (nI_ge (by omega) (by omega)), show (60 : Int32) = nI 60 from rfl, pk_mul, nI_add, ld_199 (by omega), w2]
          by_cases g : nI 0 ≤ it i ∧ it i ≤ nI 999
          · obtain ⟨q, hq, eq⟩ := rng (by decide) g
            rw [eq]
            simp (disch := omega) only [↓pv_nm_eq, ↓pv_jn_eq, ↓reduceIte, pv_nm_eq, pv_jn_eq, pv_cap_some, pv_cal_some, pv_ck_true, lit_eq, pk_mul, nI_add, sbn, eqn, len', ltn, if_true, if_false, ite_true, ite_false, eq_self, u_s, u_e, u_k, u_j, Nat.zero_le, Nat.one_ne_zero, Nat.reduceEqDiff, Nat.reduceLT, Nat.reduceLeDiff, Nat.reduceAdd, Nat.reduceMul, Nat.reduceSub, and_self, and_true, true_and, ite_self, ld_206, st_206, ↓gcm_isText, ↓gcm_isSheet, ↓gcm_isTwo, ↓gcm_isYear, ↓gcm_isUnit, ↓gcm_isAnyVoter, ↓gcx_isText, ↓gcx_isYear, ↓gcx_isUnit, ↓gcx_isPerson, ↓gcx_isSheet, ↓gcx_isForm, ↓gcx_isTown, ↓gcx_isKind, ↓gc_w, ↓gi_0_1, ↓gi_0_2, ↓gi_0_3, ↓gi_0_5, ↓gi_0_7, ↓gi_0_9, ↓gi_0_255, ↓gi_0_999, ↓gi_1_9, ↓gi_1_99, ↓gi_0_4095, ↓gi_m2_3, mg_isText, mg_isSheet, mg_isTwo, mg_isYear, mg_isUnit, mg_isAnyVoter, xg_isText, xg_isYear, xg_isUnit, xg_isPerson, xg_isSheet, xg_isForm, xg_isTown, xg_isKind, within_n, i_0_1, i_0_2, i_0_3, i_0_5, i_0_7, i_0_9, i_0_255, i_0_999, i_1_9, i_1_99, i_0_4095, i_m2_3, hq, show i ≤ 7 by omega, w3, Nat.not_lt_zero]
            refine hr _ ⟨fun z hz => ?_, fun x y => ?_⟩
            · by_cases ez : z = i
              · exact ⟨q, hq, by rw [ez, eq]⟩
              · exact hS.1 z (by omega)
            · rw [fst_u, hS.2]
              by_cases ex : x = 206 ∧ y = i
              · rw [if_pos ex, if_pos (by omega), ex.2, eq]
              · rw [if_neg ex]
                ((repeat' split) <;> first | rfl | (exfalso; omega))
          · simp (disch := omega) only [↓pv_nm_eq, ↓pv_jn_eq, ↓reduceIte, pv_nm_eq, pv_jn_eq, pv_cap_some, pv_cal_some, pv_ck_true, lit_eq, pk_mul, nI_add, sbn, eqn, len', ltn, if_true, if_false, ite_true, ite_false, eq_self, u_s, u_e, u_k, u_j, Nat.zero_le, Nat.one_ne_zero, Nat.reduceEqDiff, Nat.reduceLT, Nat.reduceLeDiff, Nat.reduceAdd, Nat.reduceMul, Nat.reduceSub, and_self, and_true, true_and, ite_self, ld_206, st_206, ↓gcm_isText, ↓gcm_isSheet, ↓gcm_isTwo, ↓gcm_isYear, ↓gcm_isUnit, ↓gcm_isAnyVoter, ↓gcx_isText, ↓gcx_isYear, ↓gcx_isUnit, ↓gcx_isPerson, ↓gcx_isSheet, ↓gcx_isForm, ↓gcx_isTown, ↓gcx_isKind, ↓gc_w, ↓gi_0_1, ↓gi_0_2, ↓gi_0_3, ↓gi_0_5, ↓gi_0_7, ↓gi_0_9, ↓gi_0_255, ↓gi_0_999, ↓gi_1_9, ↓gi_1_99, ↓gi_0_4095, ↓gi_m2_3, mg_isText, mg_isSheet, mg_isTwo, mg_isYear, mg_isUnit, mg_isAnyVoter, xg_isText, xg_isYear, xg_isUnit, xg_isPerson, xg_isSheet, xg_isForm, xg_isTown, xg_isKind, within_n, i_0_1, i_0_2, i_0_3, i_0_5, i_0_7, i_0_9, i_0_255, i_0_999, i_1_9, i_1_99, i_0_4095, i_m2_3, g, show i ≤ 7 by omega, show (-nI 2 < nI 0) by decide]
            exact ⟨i, S, rfl, ⟨by omega, hS.1, Or.inr g⟩, hS.2⟩
      obtain ⟨r', M2, y1, y2, y3⟩ := hy
      have er : r' = r := y2.one d2
      subst er
      have hF : ∀ k j, ¬ (k = 37 ∨ k = 206) → M2.1 k j = M.1 k j := by
        intro x y q
        rw [y3, if_neg (by omega), d3, if_neg (by omega)]
      refine ⟨_, M1, M2, d1, y1, n, b, cn, cf, kn, kf, bn, bf, l, d, fun v => if v < r' then (it v).toNatClampNeg else pu v, ra, rb, (h1.fr (fun k j q => hF k j (by first | omega | (unfold PM PX; omega) | (unfold PM; omega)))), (h2.fr (fun k j q => hF k j (by first | omega | (unfold PM PX; omega) | (unfold PM; omega)))), (h3.fr (fun k j q => hF k j (by first | omega | (unfold PM PX; omega) | (unfold PM; omega)))), (h4.fr (fun k j q => hF k j (by first | omega | (unfold PM PX; omega) | (unfold PM; omega)))), (h5.fr (fun k j q => hF k j (by first | omega | (unfold PM PX; omega) | (unfold PM; omega)))), ?_, (h7.fr (fun k j q => hF k j (by first | omega | (unfold PM PX; omega) | (unfold PM; omega)))), (h8.fr (fun k j q => hF k j (by first | omega | (unfold PM PX; omega) | (unfold PM; omega)))), (h9.fr (fun k j q => hF k j (by first | omega | (unfold PM PX; omega) | (unfold PM; omega)))).more⟩
      intro v hv
      dsimp only
      by_cases e : v < r'
      · obtain ⟨q, hq, eq⟩ := d2.2.1 v e
        rw [if_pos e, eq, clampn (by omega)]
        exact ⟨hq, by rw [y3, if_neg (by omega), d3, if_pos (by omega), eq], by rw [y3, if_pos (by omega), eq]⟩
      · rw [if_neg e]
        obtain ⟨q1, q2, q3⟩ := h6 v hv
        exact ⟨q1, by rw [y3, if_neg (by omega), d3, if_neg (by omega)]; exact q2, by rw [y3, if_neg (by omega), d3, if_neg (by omega)]; exact q3⟩
  · refine ⟨-2, M, M, ?_, ?_, hI.more⟩
    · unfold f_X8_read
      simp (disch := omega) only [↓pv_nm_eq, ↓pv_jn_eq, ↓reduceIte, pv_nm_eq, pv_jn_eq, pv_cap_some, pv_cal_some, pv_ck_true, lit_eq, pk_mul, nI_add, sbn, eqn, len', ltn, if_true, if_false, ite_true, ite_false, eq_self, u_s, u_e, u_k, u_j, Nat.zero_le, Nat.one_ne_zero, Nat.reduceEqDiff, Nat.reduceLT, Nat.reduceLeDiff, Nat.reduceAdd, Nat.reduceMul, Nat.reduceSub, and_self, and_true, true_and, ite_self, ↓gcm_isText, ↓gcm_isSheet, ↓gcm_isTwo, ↓gcm_isYear, ↓gcm_isUnit, ↓gcm_isAnyVoter, ↓gcx_isText, ↓gcx_isYear, ↓gcx_isUnit, ↓gcx_isPerson, ↓gcx_isSheet, ↓gcx_isForm, ↓gcx_isTown, ↓gcx_isKind, ↓gc_w, ↓gi_0_1, ↓gi_0_2, ↓gi_0_3, ↓gi_0_5, ↓gi_0_7, ↓gi_0_9, ↓gi_0_255, ↓gi_0_999, ↓gi_1_9, ↓gi_1_99, ↓gi_0_4095, ↓gi_m2_3, mg_isText, mg_isSheet, mg_isTwo, mg_isYear, mg_isUnit, mg_isAnyVoter, xg_isText, xg_isYear, xg_isUnit, xg_isPerson, xg_isSheet, xg_isForm, xg_isTown, xg_isKind, within_n, i_0_1, i_0_2, i_0_3, i_0_5, i_0_7, i_0_9, i_0_255, i_0_999, i_1_9, i_1_99, i_0_4095, i_m2_3, g0]
    · unfold f_X9_read
      simp (disch := omega) only [↓pv_nm_eq, ↓pv_jn_eq, ↓reduceIte, pv_nm_eq, pv_jn_eq, pv_cap_some, pv_cal_some, pv_ck_true, lit_eq, pk_mul, nI_add, sbn, eqn, len', ltn, if_true, if_false, ite_true, ite_false, eq_self, u_s, u_e, u_k, u_j, Nat.zero_le, Nat.one_ne_zero, Nat.reduceEqDiff, Nat.reduceLT, Nat.reduceLeDiff, Nat.reduceAdd, Nat.reduceMul, Nat.reduceSub, and_self, and_true, true_and, ite_self, ↓gcm_isText, ↓gcm_isSheet, ↓gcm_isTwo, ↓gcm_isYear, ↓gcm_isUnit, ↓gcm_isAnyVoter, ↓gcx_isText, ↓gcx_isYear, ↓gcx_isUnit, ↓gcx_isPerson, ↓gcx_isSheet, ↓gcx_isForm, ↓gcx_isTown, ↓gcx_isKind, ↓gc_w, ↓gi_0_1, ↓gi_0_2, ↓gi_0_3, ↓gi_0_5, ↓gi_0_7, ↓gi_0_9, ↓gi_0_255, ↓gi_0_999, ↓gi_1_9, ↓gi_1_99, ↓gi_0_4095, ↓gi_m2_3, mg_isText, mg_isSheet, mg_isTwo, mg_isYear, mg_isUnit, mg_isAnyVoter, xg_isText, xg_isYear, xg_isUnit, xg_isPerson, xg_isSheet, xg_isForm, xg_isTown, xg_isKind, within_n, i_0_1, i_0_2, i_0_3, i_0_5, i_0_7, i_0_9, i_0_255, i_0_999, i_1_9, i_1_99, i_0_4095, i_m2_3, g0]
/-! the model reads all texts -/
def Told (M : pv_M) (n : Nat → Nat) (b : Nat → Nat → Nat) : Prop := ∀ t, t < 3 → M.1 203 t = nI (itm t (n t) (b t)) ∧ ∀ i, i < itm t (n t) (b t) → ∀ k, k < 3 → M.1 204 (24 * t + 3 * i + k) = nI (val t k (b t (4 * i + k)))
theorem itm_le {t n : Nat} {b : Nat → Nat} (h : n ≤ tcap t) : itm t n b ≤ 8 ∧ (t = 0 → itm t n b ≤ 4) ∧ 4 * itm t n b ≤ n + 1 := by
  have hc := tcap_le t
  by_cases h1 : okT t n b
  · rw [itm_ok h1]
    refine ⟨by omega, fun e => ?_, by omega⟩
    subst e
    have : tcap 0 = 15 := rfl
    omega
  · rw [itm_no h1]
    omega
theorem m_reads {M : pv_M} {n : Nat → Nat} {b : Nat → Nat → Nat} (h1 : I1 M n b) : ∃ M', f_X9_reads M = some ((), M') ∧ FrM M M' ∧ Told M' n b := by
  unfold f_X9_reads
  refine for2 3 (fun t (S : pv_M) => FrM M S ∧ ∀ u, u < t → S.1 203 u = nI (itm u (n u) (b u)) ∧ ∀ i, i < itm u (n u) (b u) → ∀ k, k < 3 → S.1 204 (24 * u + 3 * i + k) = nI (val u k (b u (4 * i + k)))) (fun q => ∃ M' : pv_M, q = some ((), M') ∧ FrM M M' ∧ Told M' n b) ?_ ?_ pv_FU 0 M (Nat.zero_le _) (by decide) ⟨FrM.rf, fun u hu => absurd hu (Nat.not_lt_zero _)⟩
  · intro rec S hS
    unfold f_X9_reads_L2
    rw [if_pos (by decide)]
    exact ⟨S, rfl, hS.1, hS.2⟩
  · intro rec t S ht hS hr
    unfold f_X9_reads_L2
    rw [show (3 : Int32) = nI 3 from rfl, if_neg (nI_ge ht (by decide))]
    have hM : txM S t (n t) (b t) := by
      obtain ⟨a1, a2, a3⟩ := (h1 t ht).1
      exact ⟨a1, by rw [hS.1 202 t (by unfold PM; omega)]; exact a2, fun i hi => ⟨(a3 i hi).1, by rw [hS.1 201 _ (by unfold PM; omega)]; exact (a3 i hi).2⟩⟩
    obtain ⟨r, M', e1, e2, e3, e4, e5⟩ := m_text ht hM
    rw [e1, pv_cal_some, nI_1]
    refine hr _ ⟨hS.1.tr e3.M, fun u hu => ?_⟩
    by_cases e : u = t
    · subst e
      exact ⟨e4, e5⟩
    · have hle := itm_le (b := b u) ((h1 u (by omega)).1.1)
      refine ⟨by rw [e3 203 u (by omega)]; exact (hS.2 u (by omega)).1, fun i hi k hk => ?_⟩
      rw [e3 204 _ (by omega)]
      exact (hS.2 u (by omega)).2 i hi k hk
theorem Inv.mFr {RI : pv_RI} {CA : pv_CA} {c : Nat} {M M' : pv_M} (h : Inv RI CA c M) (hF : FrM M M') : Inv RI CA c M' := h.frM (fun k j q => hF k j (fun z => q (Or.inl z)))
theorem op_fault (RI : pv_RI) (CA : pv_CA) (a : Int32) : OPP RI CA (f_X8_fault a) (f_X9_fault a) := by
  intro c M hc hI
  by_cases g0 : nI 0 ≤ a ∧ a ≤ nI 2
  · obtain ⟨t, ht, rfl⟩ := rng (by decide) g0
    have hI0 := hI
    obtain ⟨n, b, cn, cf, kn, kf, bn, bf, l, d, pu, ra, rb, h1, h2, h3, h4, h5, h6, h7, h8, h9⟩ := hI
    have ht3 : t < 3 := by omega
    obtain ⟨r, e1, e2⟩ := x_fault ht3 (h1 t ht3).2 (h1 t ht3).1.1 (fun i hi => ((h1 t ht3).1.2.2 i hi).1)
    obtain ⟨r', M', f1, f2, f3, f4⟩ := m_text ht3 (h1 t ht3).1
    have := f2.one e2
    subst this
    refine ⟨r', M', ?_, ?_, (hI0.mFr f3.M).more⟩
    · unfold f_X8_fault
      simp (disch := omega) only [↓pv_nm_eq, ↓pv_jn_eq, ↓reduceIte, pv_nm_eq, pv_jn_eq, pv_cap_some, pv_cal_some, pv_ck_true, lit_eq, pk_mul, nI_add, sbn, eqn, len', ltn, if_true, if_false, ite_true, ite_false, eq_self, u_s, u_e, u_k, u_j, Nat.zero_le, Nat.one_ne_zero, Nat.reduceEqDiff, Nat.reduceLT, Nat.reduceLeDiff, Nat.reduceAdd, Nat.reduceMul, Nat.reduceSub, and_self, and_true, true_and, ite_self, ↓gcm_isText, ↓gcm_isSheet, ↓gcm_isTwo, ↓gcm_isYear, ↓gcm_isUnit, ↓gcm_isAnyVoter, ↓gcx_isText, ↓gcx_isYear, ↓gcx_isUnit, ↓gcx_isPerson, ↓gcx_isSheet, ↓gcx_isForm, ↓gcx_isTown, ↓gcx_isKind, ↓gc_w, ↓gi_0_1, ↓gi_0_2, ↓gi_0_3, ↓gi_0_5, ↓gi_0_7, ↓gi_0_9, ↓gi_0_255, ↓gi_0_999, ↓gi_1_9, ↓gi_1_99, ↓gi_0_4095, ↓gi_m2_3, mg_isText, mg_isSheet, mg_isTwo, mg_isYear, mg_isUnit, mg_isAnyVoter, xg_isText, xg_isYear, xg_isUnit, xg_isPerson, xg_isSheet, xg_isForm, xg_isTown, xg_isKind, within_n, i_0_1, i_0_2, i_0_3, i_0_5, i_0_7, i_0_9, i_0_255, i_0_999, i_1_9, i_1_99, i_0_4095, i_m2_3, ht, x_textOf ht3, isT_tx ht3, e1]
    · unfold f_X9_fault
      simp (disch := omega) only [↓pv_nm_eq, ↓pv_jn_eq, ↓reduceIte, pv_nm_eq, pv_jn_eq, pv_cap_some, pv_cal_some, pv_ck_true, lit_eq, pk_mul, nI_add, sbn, eqn, len', ltn, if_true, if_false, ite_true, ite_false, eq_self, u_s, u_e, u_k, u_j, Nat.zero_le, Nat.one_ne_zero, Nat.reduceEqDiff, Nat.reduceLT, Nat.reduceLeDiff, Nat.reduceAdd, Nat.reduceMul, Nat.reduceSub, and_self, and_true, true_and, ite_self, ↓gcm_isText, ↓gcm_isSheet, ↓gcm_isTwo, ↓gcm_isYear, ↓gcm_isUnit, ↓gcm_isAnyVoter, ↓gcx_isText, ↓gcx_isYear, ↓gcx_isUnit, ↓gcx_isPerson, ↓gcx_isSheet, ↓gcx_isForm, ↓gcx_isTown, ↓gcx_isKind, ↓gc_w, ↓gi_0_1, ↓gi_0_2, ↓gi_0_3, ↓gi_0_5, ↓gi_0_7, ↓gi_0_9, ↓gi_0_255, ↓gi_0_999, ↓gi_1_9, ↓gi_1_99, ↓gi_0_4095, ↓gi_m2_3, mg_isText, mg_isSheet, mg_isTwo, mg_isYear, mg_isUnit, mg_isAnyVoter, xg_isText, xg_isYear, xg_isUnit, xg_isPerson, xg_isSheet, xg_isForm, xg_isTown, xg_isKind, within_n, i_0_1, i_0_2, i_0_3, i_0_5, i_0_7, i_0_9, i_0_255, i_0_999, i_1_9, i_1_99, i_0_4095, i_m2_3, ht, f1]
  · refine ⟨-2, M, ?_, ?_, hI.more⟩
    · unfold f_X8_fault
      simp (disch := omega) only [↓pv_nm_eq, ↓pv_jn_eq, ↓reduceIte, pv_nm_eq, pv_jn_eq, pv_cap_some, pv_cal_some, pv_ck_true, lit_eq, pk_mul, nI_add, sbn, eqn, len', ltn, if_true, if_false, ite_true, ite_false, eq_self, u_s, u_e, u_k, u_j, Nat.zero_le, Nat.one_ne_zero, Nat.reduceEqDiff, Nat.reduceLT, Nat.reduceLeDiff, Nat.reduceAdd, Nat.reduceMul, Nat.reduceSub, and_self, and_true, true_and, ite_self, ↓gcm_isText, ↓gcm_isSheet, ↓gcm_isTwo, ↓gcm_isYear, ↓gcm_isUnit, ↓gcm_isAnyVoter, ↓gcx_isText, ↓gcx_isYear, ↓gcx_isUnit, ↓gcx_isPerson, ↓gcx_isSheet, ↓gcx_isForm, ↓gcx_isTown, ↓gcx_isKind, ↓gc_w, ↓gi_0_1, ↓gi_0_2, ↓gi_0_3, ↓gi_0_5, ↓gi_0_7, ↓gi_0_9, ↓gi_0_255, ↓gi_0_999, ↓gi_1_9, ↓gi_1_99, ↓gi_0_4095, ↓gi_m2_3, mg_isText, mg_isSheet, mg_isTwo, mg_isYear, mg_isUnit, mg_isAnyVoter, xg_isText, xg_isYear, xg_isUnit, xg_isPerson, xg_isSheet, xg_isForm, xg_isTown, xg_isKind, within_n, i_0_1, i_0_2, i_0_3, i_0_5, i_0_7, i_0_9, i_0_255, i_0_999, i_1_9, i_1_99, i_0_4095, i_m2_3, g0]
    · unfold f_X9_fault
      simp (disch := omega) only [↓pv_nm_eq, ↓pv_jn_eq, ↓reduceIte, pv_nm_eq, pv_jn_eq, pv_cap_some, pv_cal_some, pv_ck_true, lit_eq, pk_mul, nI_add, sbn, eqn, len', ltn, if_true, if_false, ite_true, ite_false, eq_self, u_s, u_e, u_k, u_j, Nat.zero_le, Nat.one_ne_zero, Nat.reduceEqDiff, Nat.reduceLT, Nat.reduceLeDiff, Nat.reduceAdd, Nat.reduceMul, Nat.reduceSub, and_self, and_true, true_and, ite_self, ↓gcm_isText, ↓gcm_isSheet, ↓gcm_isTwo, ↓gcm_isYear, ↓gcm_isUnit, ↓gcm_isAnyVoter, ↓gcx_isText, ↓gcx_isYear, ↓gcx_isUnit, ↓gcx_isPerson, ↓gcx_isSheet, ↓gcx_isForm, ↓gcx_isTown, ↓gcx_isKind, ↓gc_w, ↓gi_0_1, ↓gi_0_2, ↓gi_0_3, ↓gi_0_5, ↓gi_0_7, ↓gi_0_9, ↓gi_0_255, ↓gi_0_999, ↓gi_1_9, ↓gi_1_99, ↓gi_0_4095, ↓gi_m2_3, mg_isText, mg_isSheet, mg_isTwo, mg_isYear, mg_isUnit, mg_isAnyVoter, xg_isText, xg_isYear, xg_isUnit, xg_isPerson, xg_isSheet, xg_isForm, xg_isTown, xg_isKind, within_n, i_0_1, i_0_2, i_0_3, i_0_5, i_0_7, i_0_9, i_0_255, i_0_999, i_1_9, i_1_99, i_0_4095, i_m2_3, g0]
theorem sw_n {ρ : Type} {n i : Nat} (h : i < n) (hn : n < 100) (z : Nat → Option ρ) : pv_sw n (nI i) z = z i := by
  unfold pv_sw
  rw [nI_toInt (by omega), if_pos (by omega)]
  rfl
theorem sw_no {ρ : Type} {n : Nat} {a : Int32} (hn : n < 100) (h : ¬ ∃ i, i < n ∧ a = nI i) (z : Nat → Option ρ) : pv_sw n a z = z n := by
  unfold pv_sw
  rw [if_neg]
  rintro ⟨q1, q2⟩
  obtain ⟨i, hi, rfl⟩ := nI_of (x := a) (fun q => by rw [fa_lt, show ((0 : Int32)).toInt = 0 by decide] at q; omega)
  rw [nI_toInt hi] at q2
  exact h ⟨i, by omega, rfl⟩
/-- what count tells -/
noncomputable def cntS (n : Nat → Nat) (b : Nat → Nat → Nat) (cn kn bn l d : Nat) (fi : Int32) (w : Nat) : Int32 := if w < 3 then nI (itm w (n w) (b w)) else if w = 3 then nI cn else if w = 4 then nI kn else if w = 5 then nI bn else if w = 6 then nI l else if w = 7 then nI d else if w = 8 then fi else -2
theorem x_it {M : pv_M} {n : Nat → Nat} {b : Nat → Nat → Nat} (h1 : I1 M n b) {t : Nat} (ht : t < 3) : f_X5_items (2 * t + 1) M = some (nI (itm t (n t) (b t))) := x_items ht (h1 t ht).2 (h1 t ht).1.1 (fun i hi => ((h1 t ht).1.2.2 i hi).1)
theorem x_count {M : pv_M} {n : Nat → Nat} {b : Nat → Nat → Nat} {cn kn bn l d : Nat} {cf kf bf : Nat → Nat → Nat} (h1 : I1 M n b) (h2 : I2 M cn cf) (h3 : I3 M kn kf) (h4 : I4 M bn bf) (h5 : I5 M l d) {w : Nat} (hw : w < 9) : f_X8_count (nI w) M = some (cntS n b cn kn bn l d (M.1 0 18) w) := by
  unfold f_X8_count cntS
  rw [sw_n hw (by decide)]
  have i0 := x_it h1 (t := 0) (by decide)
  have i1 := x_it h1 (t := 1) (by decide)
  have i2 := x_it h1 (t := 2) (by decide)
  rcases (show w = 0 ∨ w = 1 ∨ w = 2 ∨ w = 3 ∨ w = 4 ∨ w = 5 ∨ w = 6 ∨ w = 7 ∨ w = 8 by omega) with rfl | rfl | rfl | rfl | rfl | rfl | rfl | rfl | rfl
  · rw [if_pos rfl, show (1 : Nat) = 2 * 0 + 1 from rfl, i0]; rfl
  · rw [if_neg (by decide), if_pos rfl, show (3 : Nat) = 2 * 1 + 1 from rfl, i1]; rfl
  · rw [if_neg (by decide), if_neg (by decide), if_pos rfl, show (5 : Nat) = 2 * 2 + 1 from rfl, i2]; rfl
  · show some (M.1 7 1) = some (nI cn); rw [h2.2.1]
  · show some (M.1 19 1) = some (nI kn); rw [h3.2.1]
  · show some (M.1 29 1) = some (nI bn); rw [h4.2.1]
  · show some (M.1 0 16) = some (nI l); rw [h5.2.2.1]
  · show some (M.1 0 17) = some (nI d); rw [h5.2.2.2.2.1]
  · rfl
theorem m_count {M : pv_M} {n : Nat → Nat} {b : Nat → Nat → Nat} {cn kn bn l d : Nat} {cf kf bf : Nat → Nat → Nat} (h1 : I1 M n b) (h2 : I2 M cn cf) (h3 : I3 M kn kf) (h4 : I4 M bn bf) (h5 : I5 M l d) {w : Nat} (hw : w < 9) : ∃ M', f_X9_count (nI w) M = some (cntS n b cn kn bn l d (M.1 0 18) w, M') ∧ FrM M M' ∧ Told M' n b := by
  obtain ⟨M', e1, e2, e3⟩ := m_reads h1
  refine ⟨M', ?_, e2, e3⟩
  unfold f_X9_count cntS
  rw [e1, pv_cal_some, sw_n hw (by decide)]
  have i0 := (e3 0 (by decide)).1
  have i1 := (e3 1 (by decide)).1
  have i2 := (e3 2 (by decide)).1
  rcases (show w = 0 ∨ w = 1 ∨ w = 2 ∨ w = 3 ∨ w = 4 ∨ w = 5 ∨ w = 6 ∨ w = 7 ∨ w = 8 by omega) with rfl | rfl | rfl | rfl | rfl | rfl | rfl | rfl | rfl
  · rw [if_pos rfl, ld_203 (by decide), i0]; rfl
  · rw [if_neg (by decide), if_pos rfl, ld_203 (by decide), i1]; rfl
  · rw [if_neg (by decide), if_neg (by decide), if_pos rfl, ld_203 (by decide), i2]; rfl
  · show some (M'.1 196 12, M') = some (nI cn, M'); rw [e2 196 12 (by unfold PM; omega), h2.2.2.1]
  · show some (M'.1 196 17, M') = some (nI kn, M'); rw [e2 196 17 (by unfold PM; omega), h3.2.2.1]
  · show some (M'.1 196 32, M') = some (nI bn, M'); rw [e2 196 32 (by unfold PM; omega), h4.2.2.1]
  · show pv_ldI pv_T 205 (nI 6 - 6) M' (fun x7 => some (x7, M')) = some (nI l, M'); rw [show nI 6 - 6 = nI 0 by decide, ld_205 (by decide), e2 205 0 (by unfold PM; omega), h5.2.2.2.1]
  · show pv_ldI pv_T 205 (nI 7 - 6) M' (fun x7 => some (x7, M')) = some (nI d, M'); rw [show nI 7 - 6 = nI 1 by decide, ld_205 (by decide), e2 205 1 (by unfold PM; omega), h5.2.2.2.2.2.1]
  · show some (M'.1 196 4, M') = some (M.1 0 18, M'); rw [e2 196 4 (by unfold PM; omega), h5.2.2.2.2.2.2]
theorem op_count (RI : pv_RI) (CA : pv_CA) (a : Int32) : OPP RI CA (f_X8_count a) (f_X9_count a) := by
  intro c M hc hI
  have hI0 := hI
  obtain ⟨n, b, cn, cf, kn, kf, bn, bf, l, d, pu, ra, rb, h1, h2, h3, h4, h5, h6, h7, h8, h9⟩ := hI
  by_cases h : ∃ i, i < 9 ∧ a = nI i
  · obtain ⟨w, hw, rfl⟩ := h
    obtain ⟨M', e1, e2, e3⟩ := m_count h1 h2 h3 h4 h5 hw
    exact ⟨_, M', x_count h1 h2 h3 h4 h5 hw, e1, (hI0.mFr e2).more⟩
  · obtain ⟨M', e1, e2, e3⟩ := m_reads h1
    refine ⟨-2, M', ?_, ?_, (hI0.mFr e2).more⟩
    · unfold f_X8_count
      rw [sw_no (by decide) h]
      rfl
    · unfold f_X9_count
      rw [e1, pv_cal_some, sw_no (by decide) h]
      rfl
