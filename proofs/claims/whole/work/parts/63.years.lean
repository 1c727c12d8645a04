section Y
variable (bf : Nat → Nat → Nat) (G : Nat → Nat → Nat)
def bok (i y : Nat) : Bool := decide (bf i 0 * G y (bf i 1) = bf i 2)
def bll (y : Nat) : Nat → Bool
  | 0 => true
  | i + 1 => bll y i && bok bf G i y
def yrs (bn : Nat) : Nat → Nat
  | 0 => 0
  | y + 1 => yrs bn y ||| (if bll bf G y bn = true then 2 ^ y else 0)
end Y
theorem yrs_bit (bf : Nat → Nat → Nat) (G : Nat → Nat → Nat) (bn : Nat) : ∀ y j, (yrs bf G bn y).testBit j = (decide (j < y) && bll bf G j bn)
  | 0, j => by
    show (0 : Nat).testBit j = _
    rw [Nat.zero_testBit, decide_eq_false (by omega), Bool.false_and]
  | y + 1, j => by
    unfold yrs
    rw [Nat.testBit_or, yrs_bit bf G bn y j]
    by_cases e : j = y
    · subst e
      rw [decide_eq_false (by omega), decide_eq_true (by omega), Bool.false_and, Bool.false_or, Bool.true_and]
      by_cases h : bll bf G j bn = true
      · rw [if_pos h, Nat.testBit_two_pow, h]
        simp
      · rw [if_neg h, Nat.zero_testBit]
        simpa using h
    · have h2 : (if bll bf G y bn = true then 2 ^ y else 0).testBit j = false := by
        by_cases h : bll bf G y bn = true
        · rw [if_pos h, Nat.testBit_two_pow, decide_eq_false (by omega)]
        · rw [if_neg h, Nat.zero_testBit]
      rw [h2, Bool.or_false]
      by_cases e2 : j < y
      · rw [decide_eq_true e2, decide_eq_true (show j < y + 1 by omega)]
      · rw [decide_eq_false e2, decide_eq_false (show ¬ j < y + 1 by omega)]
theorem m1n : (-1 : Int32) = nI 4294967295 := by decide
section Y2
variable {BA : pv_BA} {c v : Nat} {M : pv_M} {n : Nat → Nat} {b : Nat → Nat → Nat} {cn : Nat} {cf : Nat → Nat → Nat} {kn : Nat} {kf : Nat → Nat → Nat} {bn : Nat} {bf : Nat → Nat → Nat} {l d : Nat} {pu ra rb : Nat → Nat} {P V : Nat} {T : Nat → Nat → Nat → Nat} {U : Nat → Nat} {H : Nat → Int}
theorem xs_years (K : KS BA c v M n b cn cf kn kf bn bf l d pu ra rb P V T U H) (hc : c < 900) : f_X8_years M = some (nI (yrs bf (grt P V T U H l) bn 10), M) := by
  have g := K.gx hc
  have hl := g.1.1
  have h4 := K.2.2.2.1
  obtain ⟨hbn, b1, b2, b3⟩ := h4
  have hw := K.wf
  obtain ⟨G, hG⟩ : ∃ G, G = grt P V T U H l := ⟨_, rfl⟩
  unfold f_X8_years
  rw [K.settle hc, pv_cal_some, pv_nm_eq, g.1.2.2.1, x_pollBy hl, pv_cap_some, isP_o (isO_l hl), pv_ck_true, ← hG]
  refine for2b bn (fun i (x : Int32) => ∃ A : Nat, x = nI A ∧ ∀ j, A.testBit j = (decide (j < 10) && bll bf G j i)) (fun q => q = some (nI (yrs bf G bn 10), M)) ?_ ?_ pv_FU 0 _ (Nat.zero_le _) (by show bn - 0 < 5000; omega) ⟨1023, rfl, fun j => ?_⟩
  · rintro rec x ⟨A, rfl, hA⟩
    unfold f_X8_years_L19
    rw [pv_nm_eq, b1, if_pos (nI_le (Nat.le_refl _) (by omega))]
    have : A = yrs bf G bn 10 := Nat.eq_of_testBit_eq (fun j => by rw [hA, yrs_bit])
    rw [this]
  · rintro rec i x hi ⟨A, rfl, hA⟩ hrec
    obtain ⟨⟨z1, z2, z3, z4, z5⟩, z⟩ := b3 i hi
    unfold f_X8_years_L19
    rw [pv_nm_eq, b1, if_neg (nI_ge hi (by omega)), lr_30 (by omega)]
    refine for2b 10 (fun y (x : Int32) => ∃ A : Nat, x = nI A ∧ ∀ j, A.testBit j = (decide (j < 10) && (bll bf G j i && (!decide (j < y) || bok bf G i j)))) (fun q => q = some (nI (yrs bf G bn 10), M)) ?_ ?_ pv_FU 0 _ (Nat.zero_le _) (by decide) ⟨A, rfl, fun j => by rw [hA, decide_eq_false (show ¬ j < 0 by omega)]; simp⟩
    · rintro rec2 x ⟨A, rfl, hA⟩
      unfold f_X8_years_L44
      rw [if_pos (by decide), nI_1]
      refine hrec _ ⟨A, rfl, fun j => ?_⟩
      rw [hA]
      conv => rhs; unfold bll
      by_cases e : j < 10
      · rw [decide_eq_true e]
        simp
      · rw [decide_eq_false e]
        simp
    · rintro rec2 y x hy ⟨A, rfl, hA⟩ hrec2
      have hg := grt_rg hw (k := l) hy z3
      have hm : bf i 0 * G y (bf i 1) ≤ 81 := by rw [hG]; exact Nat.le_trans (Nat.mul_le_mul z2 hg.2) (by decide)
      unfold f_X8_years_L44
      rw [show (10 : Int32) = nI 10 from rfl, if_neg (nI_ge hy (by decide)), show (0 : Int32) = nI 0 from rfl, show (2 : Int32) = nI 2 from rfl, lf_31 (by omega) (by decide), (z 0 (by decide)).1, show (1 : Int32) = nI 1 from rfl, lf_31 (by omega) (by decide), (z 1 (by decide)).1, Pv_great (isO_l hl) hy z3 (g.2.2.2 y _ hy z3), pv_cap_some, ← hG, pk_mul, pv_nm_eq, lf_31 (by omega) (by decide), (z 2 (by decide)).1, ite_eq (by omega) (by omega), nI_add]
      by_cases e : bf i 0 * G y (bf i 1) = bf i 2
      · rw [if_pos e]
        refine hrec2 _ ⟨A, rfl, fun j => ?_⟩
        rw [hA]
        have hb : bok bf G i y = true := decide_eq_true e
        by_cases e2 : j = y
        · subst e2
          rw [hb]
          simp
        · rw [show decide (j < y + 1) = decide (j < y) by
            by_cases q : j < y
            · rw [decide_eq_true q, decide_eq_true (by omega)]
            · rw [decide_eq_false q, decide_eq_false (by omega)]]
      · have hb : bok bf G i y = false := decide_eq_false e
        rw [if_neg e, show nI 1 = (1 : Int32) from rfl, shl1 (by omega), m1n, fb_xorI, fa_and, pv_nm_eq]
        refine hrec2 _ ⟨_, rfl, fun j => ?_⟩
        rw [Nat.testBit_and, Nat.testBit_xor, Nat.testBit_two_pow, show (4294967295 : Nat) = 2 ^ 32 - 1 by decide, Nat.testBit_two_pow_sub_one, hA]
        by_cases q10 : j < 10
        · rw [decide_eq_true (show j < 32 by omega)]
          by_cases e2 : j = y
          · subst e2
            rw [hb]
            simp
          · rw [decide_eq_false (show ¬ y = j by omega), show decide (j < y + 1) = decide (j < y) by
              by_cases q : j < y
              · rw [decide_eq_true q, decide_eq_true (by omega)]
              · rw [decide_eq_false q, decide_eq_false (by omega)]]
            simp
        · rw [decide_eq_false q10]
          simp
  · show (1023 : Nat).testBit j = (decide (j < 10) && true)
    rw [show (1023 : Nat) = 2 ^ 10 - 1 by decide, Nat.testBit_two_pow_sub_one, Bool.and_true]
theorem m_years (g : GY M kn kf l d P V T U H) (h4 : I4 M bn bf) : f_X9_yearsNow M = some (nI (yrs bf (grt P V T U H l) bn 10)) := by
  obtain ⟨hbn, b1, b2, b3⟩ := h4
  obtain ⟨g5, g3, gw, gR, gL⟩ := g
  obtain ⟨G, hG⟩ : ∃ G, G = grt P V T U H l := ⟨_, rfl⟩
  unfold f_X9_yearsNow
  rw [← hG]
  refine for2b 10 (fun y (x : Int32) => x = nI (yrs bf G bn y)) (fun q => q = some (nI (yrs bf G bn 10))) ?_ ?_ pv_FU 0 _ (Nat.zero_le _) (by decide) rfl
  · rintro rec x rfl
    unfold f_X9_yearsNow_L4
    rw [if_pos (by decide)]
  · rintro rec y x hy rfl hrec
    unfold f_X9_yearsNow_L4
    rw [show (10 : Int32) = nI 10 from rfl, if_neg (nI_ge hy (by decide)), pv_jn_eq]
    refine for2b bn (fun i (x : Int32) => x = if bll bf G y i = true then 1 else 0) (fun q => q = some (nI (yrs bf G bn 10))) ?_ ?_ pv_FU 0 _ (Nat.zero_le _) (by show bn - 0 < 5000; omega) rfl
    · rintro rec2 x rfl
      unfold f_X9_yearsNow_L15
      rw [pv_nm_eq, b2, if_pos (nI_le (Nat.le_refl _) (by omega))]
      dsimp only
      rw [pv_jn_eq, shl1 (by omega), nI_1]
      by_cases e : bll bf G y bn = true
      · rw [bt1 e]
        dsimp only
        rw [pv_nm_eq, fa_or]
        exact hrec _ (by conv => rhs; unfold yrs
                         rw [if_pos e])
      · rw [bt0 e]
        dsimp only
        rw [pv_nm_eq, show (0 : Int32) = nI 0 from rfl, fa_or]
        exact hrec _ (by conv => rhs; unfold yrs
                         rw [if_neg e])
    · rintro rec2 i x hi rfl hrec2
      obtain ⟨⟨z1, z2, z3, z4, z5⟩, z⟩ := b3 i hi
      have hg := grt_rg gw (k := l) hy z3
      have hm : bf i 0 * G y (bf i 1) ≤ 81 := by rw [hG]; exact Nat.le_trans (Nat.mul_le_mul z2 hg.2) (by decide)
      have q0 := (z 0 (by decide)).2
      rw [Nat.add_zero] at q0
      unfold f_X9_yearsNow_L15
      rw [pv_nm_eq, b2, if_neg (nI_ge hi (by omega))]
      by_cases e : bll bf G y i = true
      · rw [bt1 e, show (3 : Int32) = nI 3 from rfl, show (1 : Int32) = nI 1 from rfl, show (2 : Int32) = nI 2 from rfl, show (0 : Int32) = nI 0 from rfl, pk_mul, nI_add, nI_add, nI_add, ld_221 (by omega), q0, ld_221 (by omega), (z 1 (by decide)).2, Lv_great gL gR gw hy z3, pv_cap_some, ← hG, ld_221 (by omega), (z 2 (by decide)).2, pk_mul, ite_eq (by omega) (by omega)]
        by_cases e2 : bf i 0 * G y (bf i 1) = bf i 2
        · rw [if_pos e2]
          exact hrec2 _ (by unfold bll; rw [e, show bok bf G i y = true from decide_eq_true e2]; rfl)
        · rw [if_neg e2]
          exact hrec2 _ (by unfold bll; rw [e, show bok bf G i y = false from decide_eq_false e2]; rfl)
      · rw [bt0 e, nI_1]
        exact hrec2 _ (by unfold bll; rw [show bll bf G y i = false by simpa using e]; rfl)
theorem op_years (hB : BAok BA) : OP RIo (CAo BA) f_X8_years f_X9_years := by
  refine OP_of hB (fun M M1 e1 e2 _ => by unfold f_X8_years; rw [e1, e2]) ?_
  intro c v M n b cn cf kn kf bn bf l d pu ra rb P V T U H K hc
  obtain ⟨M2, y1, y2, y3, y4, y5⟩ := K.nowT
  have K2 := K.frM hB y2.M
  refine ⟨_, M, M2, xs_years K (by omega), ?_, K2.inv hB⟩
  unfold f_X9_years
  rw [y1, pv_cal_some, m_years (K.gyT y2 y4 y5) K2.2.2.2.1, pv_cap_some]
/-! write -/
def ctv (f : Nat) (z : Int32) : Int32 := if f = 0 then z.toInt8.toInt32 else if f = 1 then z.toInt16.toInt32 else z
theorem op_write (hB : BAok BA) (a1 a2 : Int32) : OP RIo (CAo BA) (f_X8_write a1 a2) (f_X9_write a1 a2) := by
  by_cases g1 : nI 0 ≤ a1 ∧ a1 ≤ nI 9
  · by_cases g2 : nI 0 ≤ a2 ∧ a2 ≤ nI 3
    · intro c M hc hI
      obtain ⟨y, hy, rfl⟩ := rng (by decide) g1
      obtain ⟨s, hs, rfl⟩ := rng (by decide) g2
      have hI0 := hI
      obtain ⟨n, b, cn, cf, kn, kf, bn, bf, l, d, pu, ra, rb, h1, h2, h3, h4, h5, h6, h7, h8, h9⟩ := id hI
      rcases h8 s (by omega) with ⟨z1, z2⟩ | ⟨f, m, z1, z2, z3, z4, z5, z6, z7⟩
      · refine ⟨-10 - 1, (pv_u M.1 0 18 1, M.2), (pv_u (pv_u M.1 0 18 1) 196 4 1, M.2), ?_, ?_, hI0.find 1⟩
        · unfold f_X8_write f_X4_isLost f_X8_find
          simp (disch := omega) only [↓pv_nm_eq, ↓pv_jn_eq, ↓reduceIte, pv_nm_eq, pv_jn_eq, pv_cap_some, pv_cal_some, pv_ck_true, lit_eq, pk_mul, nI_add, sbn, eqn, len', ltn, if_true, if_false, ite_true, ite_false, eq_self, u_s, u_e, u_k, u_j, Nat.zero_le, Nat.one_ne_zero, Nat.reduceEqDiff, Nat.reduceLT, Nat.reduceLeDiff, Nat.reduceAdd, Nat.reduceMul, Nat.reduceSub, and_self, and_true, true_and, ite_self, ld_189, st_189, ↓gcm_isText, ↓gcm_isSheet, ↓gcm_isTwo, ↓gcm_isYear, ↓gcm_isUnit, ↓gcm_isAnyVoter, ↓gcx_isText, ↓gcx_isYear, ↓gcx_isUnit, ↓gcx_isPerson, ↓gcx_isSheet, ↓gcx_isForm, ↓gcx_isTown, ↓gcx_isKind, ↓gc_w, ↓gi_0_1, ↓gi_0_2, ↓gi_0_3, ↓gi_0_5, ↓gi_0_7, ↓gi_0_9, ↓gi_0_255, ↓gi_0_999, ↓gi_1_9, ↓gi_1_99, ↓gi_0_4095, ↓gi_m2_3, mg_isText, mg_isSheet, mg_isTwo, mg_isYear, mg_isUnit, mg_isAnyVoter, xg_isText, xg_isYear, xg_isUnit, xg_isPerson, xg_isSheet, xg_isForm, xg_isTown, xg_isKind, within_n, i_0_1, i_0_2, i_0_3, i_0_5, i_0_7, i_0_9, i_0_255, i_0_999, i_1_9, i_1_99, i_0_4095, i_m2_3, hs, hy, z1]
        · unfold f_X9_write f_X9_met
          simp (disch := omega) only [↓pv_nm_eq, ↓pv_jn_eq, ↓reduceIte, pv_nm_eq, pv_jn_eq, pv_cap_some, pv_cal_some, pv_ck_true, lit_eq, pk_mul, nI_add, sbn, eqn, len', ltn, if_true, if_false, ite_true, ite_false, eq_self, u_s, u_e, u_k, u_j, Nat.zero_le, Nat.one_ne_zero, Nat.reduceEqDiff, Nat.reduceLT, Nat.reduceLeDiff, Nat.reduceAdd, Nat.reduceMul, Nat.reduceSub, and_self, and_true, true_and, ite_self, ld_197, st_197, ↓gcm_isText, ↓gcm_isSheet, ↓gcm_isTwo, ↓gcm_isYear, ↓gcm_isUnit, ↓gcm_isAnyVoter, ↓gcx_isText, ↓gcx_isYear, ↓gcx_isUnit, ↓gcx_isPerson, ↓gcx_isSheet, ↓gcx_isForm, ↓gcx_isTown, ↓gcx_isKind, ↓gc_w, ↓gi_0_1, ↓gi_0_2, ↓gi_0_3, ↓gi_0_5, ↓gi_0_7, ↓gi_0_9, ↓gi_0_255, ↓gi_0_999, ↓gi_1_9, ↓gi_1_99, ↓gi_0_4095, ↓gi_m2_3, mg_isText, mg_isSheet, mg_isTwo, mg_isYear, mg_isUnit, mg_isAnyVoter, xg_isText, xg_isYear, xg_isUnit, xg_isPerson, xg_isSheet, xg_isForm, xg_isTown, xg_isKind, within_n, i_0_1, i_0_2, i_0_3, i_0_5, i_0_7, i_0_9, i_0_255, i_0_999, i_1_9, i_1_99, i_0_4095, i_m2_3, hs, hy, z2, nf1, n0m1, m1lt]
      · clear h1 h2 h3 h4 h5 h6 h7 h8 h9
        obtain ⟨M1, v, n, b, cn, cf, kn, kf, bn, bf, l, d, pu, ra, rb, P, V, T, U, H, e1, K, hF⟩ := start hB (by omega) hI
        have hk := K.gx (by omega)
        have h6 := K.2.2.2.2.2.1
        obtain ⟨mm, hmm⟩ : ∃ mm, mm = if 8 < m then 8 else m := ⟨_, rfl⟩
        have hm8 : mm ≤ 8 ∧ mm ≤ m := by rw [hmm]; split <;> omega
        obtain ⟨W, hW⟩ : ∃ W : Nat → Int32, W = fun i => ctv f (iI (mny pu kf (grt P V T U H l) d i y kn)) := ⟨_, rfl⟩
        have x3 : M1.1 189 s = nI f := by rw [hF _ _ (by omega)]; exact z3
        have x4 : M1.1 197 s = nI f := by rw [hF _ _ (by omega)]; exact z4
        have x5 : M1.1 190 s = nI m := by rw [hF _ _ (by omega)]; exact z5
        have x6 : M1.1 198 s = nI m := by rw [hF _ _ (by omega)]; exact z6
        have hx : ∃ N1, f_X8_write (nI y) (nI s) M = some (nI mm, N1) ∧ ∀ a c, N1.1 a c = if a = 192 + s ∧ c < mm then W c else M1.1 a c := by
          unfold f_X8_write f_X4_isLost
          simp (disch := omega) only [↓pv_nm_eq, ↓pv_jn_eq, ↓reduceIte, pv_nm_eq, pv_jn_eq, pv_cap_some, pv_cal_some, pv_ck_true, lit_eq, pk_mul, nI_add, sbn, eqn, len', ltn, if_true, if_false, ite_true, ite_false, eq_self, u_s, u_e, u_k, u_j, Nat.zero_le, Nat.one_ne_zero, Nat.reduceEqDiff, Nat.reduceLT, Nat.reduceLeDiff, Nat.reduceAdd, Nat.reduceMul, Nat.reduceSub, and_self, and_true, true_and, ite_self, ld_189, st_189, ↓gcm_isText, ↓gcm_isSheet, ↓gcm_isTwo, ↓gcm_isYear, ↓gcm_isUnit, ↓gcm_isAnyVoter, ↓gcx_isText, ↓gcx_isYear, ↓gcx_isUnit, ↓gcx_isPerson, ↓gcx_isSheet, ↓gcx_isForm, ↓gcx_isTown, ↓gcx_isKind, ↓gc_w, ↓gi_0_1, ↓gi_0_2, ↓gi_0_3, ↓gi_0_5, ↓gi_0_7, ↓gi_0_9, ↓gi_0_255, ↓gi_0_999, ↓gi_1_9, ↓gi_1_99, ↓gi_0_4095, ↓gi_m2_3, mg_isText, mg_isSheet, mg_isTwo, mg_isYear, mg_isUnit, mg_isAnyVoter, xg_isText, xg_isYear, xg_isUnit, xg_isPerson, xg_isSheet, xg_isForm, xg_isTown, xg_isKind, within_n, i_0_1, i_0_2, i_0_3, i_0_5, i_0_7, i_0_9, i_0_255, i_0_999, i_1_9, i_1_99, i_0_4095, i_m2_3, hs, hy, z3, nf1, n0m1, m1lt]
          rw [e1, pv_cal_some, ld_190 (by omega), x5, ite_lt (by decide) (by omega)]
          rw [show (if 8 < m then nI 8 else nI m) = nI mm by rw [hmm]; split <;> rfl]
          refine for2 mm (fun i (S : pv_M) => ∀ a c, S.1 a c = if a = 192 + s ∧ c < i then W c else M1.1 a c) (fun q => ∃ N1 : pv_M, q = some (nI mm, N1) ∧ ∀ a c, N1.1 a c = if a = 192 + s ∧ c < mm then W c else M1.1 a c) ?_ ?_ pv_FU 0 M1 (Nat.zero_le _) (by show mm - 0 < 5000; omega) (fun a c => by rw [if_neg (by omega)])
          · intro rec S hS
            unfold f_X8_write_L56
            rw [if_pos (nI_le (Nat.le_refl _) (by omega))]
            exact ⟨S, rfl, hS⟩
          · intro rec i S hi hS hrec
            have gS : GX S kn kf l d P V T U H := hk.fr (fun a c q => by rw [hS, if_neg (by omega)])
            have h6S : I6 S pu := h6.fr (fun a c q => by rw [hS, if_neg (by omega)])
            have hS3 : S.1 189 s = nI f := by rw [hS, if_neg (by omega), x3]
            unfold f_X8_write_L56 f_X4_store
            rw [if_neg (nI_ge hi (by omega)), x_money gS h6S (by omega) (by omega), pv_cap_some, lr_191 (by omega), ld_189 (by omega), hS3, ite_eq0 (by omega), ld_189 (by omega), hS3, show (1 : Int32) = nI 1 from rfl, ite_eq (by omega) (by decide), tf_192 (by omega) (by omega), tf_192 (by omega) (by omega), tf_192 (by omega) (by omega), nI_add]
            have hgo : ∀ z, z = W i → ∃ N1 : pv_M, rec (nI (i + 1)) (pv_u S.1 (192 + s) i z, S.2) = some (nI mm, N1) ∧ ∀ a c, N1.1 a c = if a = 192 + s ∧ c < mm then W c else M1.1 a c := fun z hz => by
              refine hrec _ (fun a c => ?_)
              rw [fst_u, hS]
              by_cases e : a = 192 + s ∧ c = i
              · rw [if_pos e, if_pos (by omega), e.2, hz]
              · rw [if_neg e]
                ((repeat' split) <;> first | rfl | (exfalso; omega))
            by_cases f0 : f = 0
            · rw [if_pos f0, pv_cal_some]
              exact hgo _ (by rw [hW]; exact (if_pos f0).symm)
            · by_cases f1 : f = 1
              · rw [if_neg f0, if_pos f1, pv_cal_some]
                exact hgo _ (by rw [hW]; dsimp only; unfold ctv; rw [if_neg f0, if_pos f1])
              · rw [if_neg f0, if_neg f1, pv_cal_some]
                exact hgo _ (by rw [hW]; dsimp only; unfold ctv; rw [if_neg f0, if_neg f1])
        obtain ⟨N1, n1, n2⟩ := hx
        have hfr : ∀ a c, ¬ a = 192 + s → N1.1 a c = M1.1 a c := fun a c q => by rw [n2, if_neg (fun z => q z.1)]
        -- the model: sheets aside it sees the same
        have K1 : ∃ h8' : True, I1 N1 n b ∧ I2 N1 cn cf ∧ I3 N1 kn kf ∧ I5 N1 l d ∧ I6 N1 pu := by
          obtain ⟨h1, h2, h3, h4, h5, h6, h7, h8, h9⟩ := K
          exact ⟨trivial, h1.fr (fun a c q => hfr a c (by omega)), h2.fr (fun a c q => hfr a c (by omega)), h3.fr (fun a c q => hfr a c (by omega)), h5.fr (fun a c q => hfr a c (by omega)), h6.fr (fun a c q => hfr a c (by omega))⟩
        obtain ⟨-, j1, j2, j3, j5, j6⟩ := K1
        obtain ⟨R, r1, r2, r3⟩ := m_reads j1
        obtain ⟨R', t1, t2⟩ := m_readsT j1
        have eR : R = R' := by
          have := r1.symm.trans t1
          cases this
          rfl
        subst eR
        have hw := K.wf
        obtain ⟨s1, s2, s3, s4, s5, s6, s7, s8, s9, s10⟩ := id K.2.2.2.2.2.2.2.2
        have hMR : MR R P V T U H := (mr_of (j1.fr (fun k j q => t2 k j (by omega))) (j2.fr (fun k j q => t2 k j (by omega))) r3).as (wf_of j1 j2) s7 s5 s6
        obtain ⟨L, l1, l2, l3⟩ := m_livesL hw hMR j5.1
        have hnow : f_X9_livesNow N1 = some ((), L) := by
          unfold f_X9_livesNow f_X9_lives
          rw [show pv_ldI pv_T 205 0 N1 = fun f => pv_ldI pv_T 205 (nI 0) N1 f from rfl]
          dsimp only
          rw [ld_205 (by decide), j5.2.2.2.1, r1, pv_cal_some, l1, pv_cal_some]
        have hLf : FrL N1 L := fun a c q => by rw [l2 a c (by omega)]; exact t2 a c (by omega)
        have gy : GY L kn kf l d P V T U H := ⟨j5.fr (fun a c q => hLf a c (by omega)), j3.fr (fun a c q => hLf a c (by omega)), hw, hMR.fr (fun a c q => l2 a c (by omega)), l3⟩
        have gy6 : I6 L pu := j6.fr (fun a c q => hLf a c (by omega))
        have w4 : L.1 197 s = nI f := by rw [hLf _ _ (by omega), hfr _ _ (by omega)]; exact x4
        have w6 : L.1 198 s = nI m := by rw [hLf _ _ (by omega), hfr _ _ (by omega)]; exact x6
        have hy2 : ∃ N2, f_X9_write (nI y) (nI s) N1 = some (nI mm, N2) ∧ ∀ a c, N2.1 a c = if a = 199 ∧ 60 * s ≤ c ∧ c < 60 * s + mm then W (c - 60 * s) else L.1 a c := by
          have key : ∃ N2, pv_lp2 (f_X9_write_L62 (nI mm) (nI s) (nI y)) pv_FU 0 L = some (nI mm, N2) ∧ ∀ a c, N2.1 a c = if a = 199 ∧ 60 * s ≤ c ∧ c < 60 * s + mm then W (c - 60 * s) else L.1 a c := by
            refine for2 mm (fun i (S : pv_M) => ∀ a c, S.1 a c = if a = 199 ∧ 60 * s ≤ c ∧ c < 60 * s + i then W (c - 60 * s) else L.1 a c) (fun q => ∃ N2 : pv_M, q = some (nI mm, N2) ∧ ∀ a c, N2.1 a c = if a = 199 ∧ 60 * s ≤ c ∧ c < 60 * s + mm then W (c - 60 * s) else L.1 a c) ?_ ?_ pv_FU 0 L (Nat.zero_le _) (by show mm - 0 < 5000; omega) (fun a c => by rw [if_neg (by omega)])
            · intro rec S hS
              unfold f_X9_write_L62
              rw [if_pos (nI_le (Nat.le_refl _) (by omega))]
              exact ⟨S, rfl, hS⟩
            · intro rec i S hi hS hrec
              have gS : GY S kn kf l d P V T U H := gy.fr (fun a c q => by rw [hS, if_neg (by omega)])
              have h6S : I6 S pu := gy6.fr (fun a c q => by rw [hS, if_neg (by omega)])
              have hct : ∀ z : Int32, f_X9_cut (nI f) z S = some (ctv f z) := fun z => by
                unfold f_X9_cut ctv
                rcases (show f = 0 ∨ f = 1 ∨ f = 2 by omega) with rfl | rfl | rfl <;> rfl
              unfold f_X9_write_L62
              rw [if_neg (nI_ge hi (by omega)), ld_197 (by omega), hS, if_neg (by omega), w4, m_money gS h6S (by omega) (by omega), pv_cap_some, hct, pv_cap_some, show (60 : Int32) = nI 60 from rfl, pk_mul, nI_add, st_199 (by omega), nI_1]
              refine hrec _ (fun a c => ?_)
              rw [fst_u, hS]
              by_cases e : a = 199 ∧ c = 60 * s + i
              · rw [if_pos e, if_pos (by omega), e.2, show 60 * s + i - 60 * s = i by omega, hW]
              · rw [if_neg e]
                ((repeat' split) <;> first | rfl | (exfalso; omega))
          have w7 : N1.1 197 s = nI f := by rw [hfr _ _ (by omega)]; exact x4
          unfold f_X9_write
          simp (disch := omega) only [↓pv_nm_eq, ↓pv_jn_eq, ↓reduceIte, pv_nm_eq, pv_jn_eq, pv_cap_some, pv_cal_some, pv_ck_true, lit_eq, pk_mul, nI_add, sbn, eqn, len', ltn, if_true, if_false, ite_true, ite_false, eq_self, u_s, u_e, u_k, u_j, Nat.zero_le, Nat.one_ne_zero, Nat.reduceEqDiff, Nat.reduceLT, Nat.reduceLeDiff, Nat.reduceAdd, Nat.reduceMul, Nat.reduceSub, and_self, and_true, true_and, ite_self, ld_197, st_197, ↓gcm_isText, ↓gcm_isSheet, ↓gcm_isTwo, ↓gcm_isYear, ↓gcm_isUnit, ↓gcm_isAnyVoter, ↓gcx_isText, ↓gcx_isYear, ↓gcx_isUnit, ↓gcx_isPerson, ↓gcx_isSheet, ↓gcx_isForm, ↓gcx_isTown, ↓gcx_isKind, ↓gc_w, ↓gi_0_1, ↓gi_0_2, ↓gi_0_3, ↓gi_0_5, ↓gi_0_7, ↓gi_0_9, ↓gi_0_255, ↓gi_0_999, ↓gi_1_9, ↓gi_1_99, ↓gi_0_4095, ↓gi_m2_3, mg_isText, mg_isSheet, mg_isTwo, mg_isYear, mg_isUnit, mg_isAnyVoter, xg_isText, xg_isYear, xg_isUnit, xg_isPerson, xg_isSheet, xg_isForm, xg_isTown, xg_isKind, within_n, i_0_1, i_0_2, i_0_3, i_0_5, i_0_7, i_0_9, i_0_255, i_0_999, i_1_9, i_1_99, i_0_4095, i_m2_3, hs, hy, w7, hnow]
          rw [ld_198 (by omega), w6, ite_le (by decide) (by omega)]
          by_cases e8 : 8 < m
          · rw [if_pos (by omega)]
            rw [hmm, if_pos e8] at key ⊢
            exact key
          · rw [hmm, if_neg e8] at key ⊢
            by_cases e9 : 8 ≤ m
            · have : m = 8 := by omega
              subst this
              rw [if_pos (by omega)]
              exact key
            · rw [if_neg e9, ld_198 (by omega), w6]
              exact key
        obtain ⟨N2, n3, n4⟩ := hy2
        refine ⟨nI mm, N1, N2, n1, n3, ?_⟩
        have hFF : ∀ a c, ¬ (PM a c ∨ a = 192 + s ∨ a = 199) → N2.1 a c = M1.1 a c := fun a c q => by
          have q2 : ¬ ((a = 196 ∧ c = 7) ∨ a = 203 ∨ a = 204 ∨ a = 208 ∨ a = 209) := fun z => q (Or.inl (by unfold PM; omega))
          rw [n4, if_neg (by omega), hLf a c q2, hfr a c (by omega)]
        obtain ⟨h1, h2, h3, h4, h5, h6, h7, h8, h9⟩ := K
        refine ⟨n, b, cn, cf, kn, kf, bn, bf, l, d, pu, ra, rb, h1.fr (fun a c q => hFF a c (by unfold PM; omega)), h2.fr (fun a c q => hFF a c (by unfold PM; omega)), h3.fr (fun a c q => hFF a c (by unfold PM; omega)), h4.fr (fun a c q => hFF a c (by unfold PM; omega)), h5.fr (fun a c q => hFF a c (by unfold PM; omega)), h6.fr (fun a c q => hFF a c (by unfold PM; omega)), h7.fr (fun a c q => hFF a c (by unfold PM; omega)), ?_, (h9.i9 hB).fr (fun a c q => hFF a c (by unfold PM; omega))⟩
        intro w hw
        have hcell : ∀ a c, (189 ≤ a ∧ a ≤ 190) ∨ (197 ≤ a ∧ a ≤ 198) → N2.1 a c = M1.1 a c := fun a c q => hFF a c (by unfold PM; omega)
        by_cases e : w = s
        · subst e
          refine Or.inr ⟨f, m, z1, z2, by rw [hcell _ _ (by omega)]; exact x3, by rw [hcell _ _ (by omega)]; exact x4, by rw [hcell _ _ (by omega)]; exact x5, by rw [hcell _ _ (by omega)]; exact x6, fun i hi => ?_⟩
          rw [n4, if_neg (by omega), hLf _ _ (by omega), n2]
          by_cases ei : i < mm
          · rw [if_pos ⟨rfl, ei⟩, n4, if_pos (by omega), show 60 * w + i - 60 * w = i by omega]
          · rw [if_neg (by omega), n4, if_neg (by omega), hLf _ _ (by omega), hfr _ _ (by omega), hF _ _ (by omega), hF _ _ (by omega)]
            exact z7 i hi
        · rcases h8 w hw with ⟨v1, v2⟩ | ⟨f', m', v1, v2, v3, v4, v5, v6, v7⟩
          · exact Or.inl ⟨by rw [hcell _ _ (by omega)]; exact v1, by rw [hcell _ _ (by omega)]; exact v2⟩
          · refine Or.inr ⟨f', m', v1, v2, by rw [hcell _ _ (by omega)]; exact v3, by rw [hcell _ _ (by omega)]; exact v4, by rw [hcell _ _ (by omega)]; exact v5, by rw [hcell _ _ (by omega)]; exact v6, fun i hi => ?_⟩
            rw [n4, if_neg (by omega), hLf _ _ (by omega), hfr _ _ (by omega), n4, if_neg (by omega), hLf _ _ (by omega), hfr _ _ (by omega)]
            exact v7 i hi
    · intro c M hc hI
      refine ⟨-2, M, M, ?_, ?_, hI.more⟩
      · unfold f_X8_write
        simp (disch := omega) only [↓pv_nm_eq, ↓pv_jn_eq, ↓reduceIte, pv_nm_eq, pv_jn_eq, pv_cap_some, pv_cal_some, pv_ck_true, lit_eq, pk_mul, nI_add, sbn, eqn, len', ltn, if_true, if_false, ite_true, ite_false, eq_self, u_s, u_e, u_k, u_j, Nat.zero_le, Nat.one_ne_zero, Nat.reduceEqDiff, Nat.reduceLT, Nat.reduceLeDiff, Nat.reduceAdd, Nat.reduceMul, Nat.reduceSub, and_self, and_true, true_and, ite_self, ↓gcm_isText, ↓gcm_isSheet, ↓gcm_isTwo, ↓gcm_isYear, ↓gcm_isUnit, ↓gcm_isAnyVoter, ↓gcx_isText, ↓gcx_isYear, ↓gcx_isUnit, ↓gcx_isPerson, ↓gcx_isSheet, ↓gcx_isForm, ↓gcx_isTown, ↓gcx_isKind, ↓gc_w, ↓gi_0_1, ↓gi_0_2, ↓gi_0_3, ↓gi_0_5, ↓gi_0_7, ↓gi_0_9, ↓gi_0_255, ↓gi_0_999, ↓gi_1_9, ↓gi_1_99, ↓gi_0_4095, ↓gi_m2_3, mg_isText, mg_isSheet, mg_isTwo, mg_isYear, mg_isUnit, mg_isAnyVoter, xg_isText, xg_isYear, xg_isUnit, xg_isPerson, xg_isSheet, xg_isForm, xg_isTown, xg_isKind, within_n, i_0_1, i_0_2, i_0_3, i_0_5, i_0_7, i_0_9, i_0_255, i_0_999, i_1_9, i_1_99, i_0_4095, i_m2_3, g1, g2]
      · unfold f_X9_write
        simp (disch := omega) only [↓pv_nm_eq, ↓pv_jn_eq, ↓reduceIte, pv_nm_eq, pv_jn_eq, pv_cap_some, pv_cal_some, pv_ck_true, lit_eq, pk_mul, nI_add, sbn, eqn, len', ltn, if_true, if_false, ite_true, ite_false, eq_self, u_s, u_e, u_k, u_j, Nat.zero_le, Nat.one_ne_zero, Nat.reduceEqDiff, Nat.reduceLT, Nat.reduceLeDiff, Nat.reduceAdd, Nat.reduceMul, Nat.reduceSub, and_self, and_true, true_and, ite_self, ↓gcm_isText, ↓gcm_isSheet, ↓gcm_isTwo, ↓gcm_isYear, ↓gcm_isUnit, ↓gcm_isAnyVoter, ↓gcx_isText, ↓gcx_isYear, ↓gcx_isUnit, ↓gcx_isPerson, ↓gcx_isSheet, ↓gcx_isForm, ↓gcx_isTown, ↓gcx_isKind, ↓gc_w, ↓gi_0_1, ↓gi_0_2, ↓gi_0_3, ↓gi_0_5, ↓gi_0_7, ↓gi_0_9, ↓gi_0_255, ↓gi_0_999, ↓gi_1_9, ↓gi_1_99, ↓gi_0_4095, ↓gi_m2_3, mg_isText, mg_isSheet, mg_isTwo, mg_isYear, mg_isUnit, mg_isAnyVoter, xg_isText, xg_isYear, xg_isUnit, xg_isPerson, xg_isSheet, xg_isForm, xg_isTown, xg_isKind, within_n, i_0_1, i_0_2, i_0_3, i_0_5, i_0_7, i_0_9, i_0_255, i_0_999, i_1_9, i_1_99, i_0_4095, i_m2_3, g1, g2]
  · intro c M hc hI
    refine ⟨-2, M, M, ?_, ?_, hI.more⟩
    · unfold f_X8_write
      simp (disch := omega) only [↓pv_nm_eq, ↓pv_jn_eq, ↓reduceIte, pv_nm_eq, pv_jn_eq, pv_cap_some, pv_cal_some, pv_ck_true, lit_eq, pk_mul, nI_add, sbn, eqn, len', ltn, if_true, if_false, ite_true, ite_false, eq_self, u_s, u_e, u_k, u_j, Nat.zero_le, Nat.one_ne_zero, Nat.reduceEqDiff, Nat.reduceLT, Nat.reduceLeDiff, Nat.reduceAdd, Nat.reduceMul, Nat.reduceSub, and_self, and_true, true_and, ite_self, ↓gcm_isText, ↓gcm_isSheet, ↓gcm_isTwo, ↓gcm_isYear, ↓gcm_isUnit, ↓gcm_isAnyVoter, ↓gcx_isText, ↓gcx_isYear, ↓gcx_isUnit, ↓gcx_isPerson, ↓gcx_isSheet, ↓gcx_isForm, ↓gcx_isTown, ↓gcx_isKind, ↓gc_w, ↓gi_0_1, ↓gi_0_2, ↓gi_0_3, ↓gi_0_5, ↓gi_0_7, ↓gi_0_9, ↓gi_0_255, ↓gi_0_999, ↓gi_1_9, ↓gi_1_99, ↓gi_0_4095, ↓gi_m2_3, mg_isText, mg_isSheet, mg_isTwo, mg_isYear, mg_isUnit, mg_isAnyVoter, xg_isText, xg_isYear, xg_isUnit, xg_isPerson, xg_isSheet, xg_isForm, xg_isTown, xg_isKind, within_n, i_0_1, i_0_2, i_0_3, i_0_5, i_0_7, i_0_9, i_0_255, i_0_999, i_1_9, i_1_99, i_0_4095, i_m2_3, g1]
    · unfold f_X9_write
      simp (disch := omega) only [↓pv_nm_eq, ↓pv_jn_eq, ↓reduceIte, pv_nm_eq, pv_jn_eq, pv_cap_some, pv_cal_some, pv_ck_true, lit_eq, pk_mul, nI_add, sbn, eqn, len', ltn, if_true, if_false, ite_true, ite_false, eq_self, u_s, u_e, u_k, u_j, Nat.zero_le, Nat.one_ne_zero, Nat.reduceEqDiff, Nat.reduceLT, Nat.reduceLeDiff, Nat.reduceAdd, Nat.reduceMul, Nat.reduceSub, and_self, and_true, true_and, ite_self, ↓gcm_isText, ↓gcm_isSheet, ↓gcm_isTwo, ↓gcm_isYear, ↓gcm_isUnit, ↓gcm_isAnyVoter, ↓gcx_isText, ↓gcx_isYear, ↓gcx_isUnit, ↓gcx_isPerson, ↓gcx_isSheet, ↓gcx_isForm, ↓gcx_isTown, ↓gcx_isKind, ↓gc_w, ↓gi_0_1, ↓gi_0_2, ↓gi_0_3, ↓gi_0_5, ↓gi_0_7, ↓gi_0_9, ↓gi_0_255, ↓gi_0_999, ↓gi_1_9, ↓gi_1_99, ↓gi_0_4095, ↓gi_m2_3, mg_isText, mg_isSheet, mg_isTwo, mg_isYear, mg_isUnit, mg_isAnyVoter, xg_isText, xg_isYear, xg_isUnit, xg_isPerson, xg_isSheet, xg_isForm, xg_isTown, xg_isKind, within_n, i_0_1, i_0_2, i_0_3, i_0_5, i_0_7, i_0_9, i_0_255, i_0_999, i_1_9, i_1_99, i_0_4095, i_m2_3, g1]
end Y2
