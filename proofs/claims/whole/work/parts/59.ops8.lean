def GX (M : pv_M) (kn : Nat) (kf : Nat → Nat → Nat) (l d P V : Nat) (T : Nat → Nat → Nat → Nat) (U : Nat → Nat) (H : Nat → Int) : Prop := I5 M l d ∧ I3 M kn kf ∧ WF P V T U H ∧ ∀ y u, y < 10 → u < 3 → Pv1 M.1 (53 + 35 * l) P V T U H l y u
def GY (M : pv_M) (kn : Nat) (kf : Nat → Nat → Nat) (l d P V : Nat) (T : Nat → Nat → Nat → Nat) (U : Nat → Nat) (H : Nat → Int) : Prop := I5 M l d ∧ I3 M kn kf ∧ WF P V T U H ∧ MR M P V T U H ∧ Lv M P V T U H l
section G
variable {BA : pv_BA} {c v : Nat} {M : pv_M} {n : Nat → Nat} {b : Nat → Nat → Nat} {cn : Nat} {cf : Nat → Nat → Nat} {kn : Nat} {kf : Nat → Nat → Nat} {bn : Nat} {bf : Nat → Nat → Nat} {l d : Nat} {pu ra rb : Nat → Nat} {P V : Nat} {T : Nat → Nat → Nat → Nat} {U : Nat → Nat} {H : Nat → Int}
theorem GX.fr {M' : pv_M} (h : GX M kn kf l d P V T U H) (hF : ∀ a c, (a = 0 ∨ (19 ≤ a ∧ a ≤ 28) ∨ (53 ≤ a ∧ a ≤ 157) ∨ a = 205 ∨ a = 211 ∨ (a = 196 ∧ (c = 4 ∨ c = 17))) → M'.1 a c = M.1 a c) : GX M' kn kf l d P V T U H := by
  have hl := h.1.1
  exact ⟨h.1.fr (fun k j q => hF k j (by omega)), h.2.1.fr (fun k j q => hF k j (by omega)), h.2.2.1, fun y u hy hu => (h.2.2.2 y u hy hu).fr h.2.2.1.1 (fun a c q => hF a c (by omega))⟩
theorem GY.fr {M' : pv_M} (h : GY M kn kf l d P V T U H) (hF : ∀ a c, (a = 0 ∨ (19 ≤ a ∧ a ≤ 28) ∨ (203 ≤ a ∧ a ≤ 205) ∨ (207 ≤ a ∧ a ≤ 209) ∨ a = 211 ∨ (a = 196 ∧ (c = 4 ∨ c = 12 ∨ c = 17))) → M'.1 a c = M.1 a c) : GY M' kn kf l d P V T U H := by
  have hP := h.2.2.1.1
  exact ⟨h.1.fr (fun k j q => hF k j (by omega)), h.2.1.fr (fun k j q => hF k j (by omega)), h.2.2.1, h.2.2.2.1.fr (fun k j q => hF k j (by omega)), fun y u hy hu => (h.2.2.2.2 y u hy hu).fr hP (hF _ _ (by omega)) (fun c _ _ => hF _ _ (by omega))⟩
theorem KS.gx (K : KS BA c v M n b cn cf kn kf bn bf l d pu ra rb P V T U H) (hc : c < 900) : GX M kn kf l d P V T U H := by
  obtain ⟨h1, h2, h3, h4, h5, h6, h7, h8, s1, s2, s3, s4, s5, s6, s7, s8, s9, s10⟩ := K
  refine ⟨h5, h3, s5, ?_⟩
  obtain ⟨p1, a, p2, p3, p4⟩ := s8 l h5.1
  rw [s9] at p3
  have e : v = a := (nI_eq (by omega) (by omega)).mp p3
  exact p4 e.symm s2
theorem KS.gy (K : KS BA c v M n b cn cf kn kf bn bf l d pu ra rb P V T U H) {M' : pv_M} (hF : FrM M M') (hR : MR M' P V T U H) (hL : Lv M' P V T U H l) : GY M' kn kf l d P V T U H := by
  obtain ⟨h1, h2, h3, h4, h5, h6, h7, h8, s1, s2, s3, s4, s5, s6, s7, s8, s9, s10⟩ := K
  exact ⟨(h5.fr (fun k j q => hF k j (by first | omega | (unfold PM PX; omega) | (unfold PM; omega)))), (h3.fr (fun k j q => hF k j (by first | omega | (unfold PM PX; omega) | (unfold PM; omega)))), s5, hR, hL⟩
theorem grt_rg (w : WF P V T U H) {k y u : Nat} (hy : y < 10) (hu : u < 3) : 1 ≤ grt P V T U H k y u ∧ grt P V T U H k y u ≤ 9 := by
  unfold grt
  by_cases h : P = 0
  · rw [if_pos h]; omega
  · rw [if_neg h]
    exact w.2.2.1 y _ u hy (win_lt (by omega) y) hu
theorem Pv_great {o k : Nat} (hO : isO o) {y u : Nat} (hy : y < 10) (hu : u < 3) (h : Pv1 M.1 o P V T U H k y u) : f_X1_greatness o (nI y) (nI u) M = some (nI (grt P V T U H k y u)) := by
  unfold f_X1_greatness grt
  rw [isP_o hO, pv_ck_true, rp_13 hO hy, lp_13 hO hy hu]
  by_cases e : P = 0
  · rw [if_pos e, (h.1 e).2]
  · rw [if_neg e, (h.2 (by omega)).2.1]
theorem Lv_great {k : Nat} (h : Lv M P V T U H k) (hR : MR M P V T U H) (w : WF P V T U H) {y u : Nat} (hy : y < 10) (hu : u < 3) : f_X9_greatOf (nI y) (nI u) M = some (nI (grt P V T U H k y u)) := by
  unfold f_X9_greatOf grt
  have hP := w.1
  rw [show (3 : Int32) = nI 3 from rfl, pk_mul, nI_add, ld_208 (by omega)]
  by_cases e : P = 0
  · rw [if_pos e, ((h y u hy hu).1 e), if_pos rfl]
    rfl
  · have hw := win_lt (V := V) (T := T) (U := U) (H := H) (l := k) (u := u) (show 0 < P by omega) y
    rw [if_neg e, ((h y u hy hu).2 (by omega)).1, if_neg (m1_ne (by omega)), (hR M SM.rf).2.2.1 y _ u hy hw hu, pv_cap_some]
theorem Pv_win {o k : Nat} (hO : isO o) {y u : Nat} (hy : y < 10) (hu : u < 3) (h : Pv1 M.1 o P V T U H k y u) : f_X1_winner o (nI y) (nI u) M = some (elv P V T U H k y u) := by
  unfold f_X1_winner elv
  rw [isP_o hO, pv_ck_true, rp_2 hO hy, lp_2 hO hy hu]
  by_cases e : P = 0
  · rw [if_pos e, (h.1 e).1]
  · rw [if_neg e, (h.2 (by omega)).1]
theorem Lv_win {k : Nat} (h : Lv M P V T U H k) {y u : Nat} (hy : y < 10) (hu : u < 3) : M.1 208 (3 * y + u) = elv P V T U H k y u := by
  unfold elv
  by_cases e : P = 0
  · rw [if_pos e, ((h y u hy hu).1 e)]
  · rw [if_neg e, ((h y u hy hu).2 (by omega)).1]
theorem xs_elected (K : KS BA c v M n b cn cf kn kf bn bf l d pu ra rb P V T U H) (hc : c < 900) {y u : Nat} (hy : y < 10) (hu : u < 3) : f_X8_elected (nI y) (nI u) M = some (elv P V T U H l y u, M) := by
  have g := K.gx hc
  have hl := g.1.1
  unfold f_X8_elected
  simp (disch := omega) only [↓pv_nm_eq, ↓pv_jn_eq, ↓reduceIte, pv_nm_eq, pv_jn_eq, pv_cap_some, pv_cal_some, pv_ck_true, lit_eq, pk_mul, nI_add, sbn, eqn, len', ltn, if_true, if_false, ite_true, ite_false, eq_self, u_s, u_e, u_k, u_j, Nat.zero_le, Nat.one_ne_zero, Nat.reduceEqDiff, Nat.reduceLT, Nat.reduceLeDiff, Nat.reduceAdd, Nat.reduceMul, Nat.reduceSub, and_self, and_true, true_and, ite_self, ↓gcm_isText, ↓gcm_isSheet, ↓gcm_isTwo, ↓gcm_isYear, ↓gcm_isUnit, ↓gcm_isAnyVoter, ↓gcx_isText, ↓gcx_isYear, ↓gcx_isUnit, ↓gcx_isPerson, ↓gcx_isSheet, ↓gcx_isForm, ↓gcx_isTown, ↓gcx_isKind, ↓gc_w, ↓gi_0_1, ↓gi_0_2, ↓gi_0_3, ↓gi_0_5, ↓gi_0_7, ↓gi_0_9, ↓gi_0_255, ↓gi_0_999, ↓gi_1_9, ↓gi_1_99, ↓gi_0_4095, ↓gi_m2_3, mg_isText, mg_isSheet, mg_isTwo, mg_isYear, mg_isUnit, mg_isAnyVoter, xg_isText, xg_isYear, xg_isUnit, xg_isPerson, xg_isSheet, xg_isForm, xg_isTown, xg_isKind, within_n, i_0_1, i_0_2, i_0_3, i_0_5, i_0_7, i_0_9, i_0_255, i_0_999, i_1_9, i_1_99, i_0_4095, i_m2_3, show y ≤ 9 by omega, show u ≤ 2 by omega]
  rw [K.settle hc, pv_cal_some, g.1.2.2.1, x_pollBy hl, pv_cap_some, isP_o (isO_l hl), pv_ck_true, Pv_win (isO_l hl) hy hu (g.2.2.2 y u hy hu), pv_cap_some]
theorem xs_great (K : KS BA c v M n b cn cf kn kf bn bf l d pu ra rb P V T U H) (hc : c < 900) {y u : Nat} (hy : y < 10) (hu : u < 3) : f_X8_great (nI y) (nI u) M = some (nI (grt P V T U H l y u), M) := by
  have g := K.gx hc
  have hl := g.1.1
  unfold f_X8_great
  simp (disch := omega) only [↓pv_nm_eq, ↓pv_jn_eq, ↓reduceIte, pv_nm_eq, pv_jn_eq, pv_cap_some, pv_cal_some, pv_ck_true, lit_eq, pk_mul, nI_add, sbn, eqn, len', ltn, if_true, if_false, ite_true, ite_false, eq_self, u_s, u_e, u_k, u_j, Nat.zero_le, Nat.one_ne_zero, Nat.reduceEqDiff, Nat.reduceLT, Nat.reduceLeDiff, Nat.reduceAdd, Nat.reduceMul, Nat.reduceSub, and_self, and_true, true_and, ite_self, ↓gcm_isText, ↓gcm_isSheet, ↓gcm_isTwo, ↓gcm_isYear, ↓gcm_isUnit, ↓gcm_isAnyVoter, ↓gcx_isText, ↓gcx_isYear, ↓gcx_isUnit, ↓gcx_isPerson, ↓gcx_isSheet, ↓gcx_isForm, ↓gcx_isTown, ↓gcx_isKind, ↓gc_w, ↓gi_0_1, ↓gi_0_2, ↓gi_0_3, ↓gi_0_5, ↓gi_0_7, ↓gi_0_9, ↓gi_0_255, ↓gi_0_999, ↓gi_1_9, ↓gi_1_99, ↓gi_0_4095, ↓gi_m2_3, mg_isText, mg_isSheet, mg_isTwo, mg_isYear, mg_isUnit, mg_isAnyVoter, xg_isText, xg_isYear, xg_isUnit, xg_isPerson, xg_isSheet, xg_isForm, xg_isTown, xg_isKind, within_n, i_0_1, i_0_2, i_0_3, i_0_5, i_0_7, i_0_9, i_0_255, i_0_999, i_1_9, i_1_99, i_0_4095, i_m2_3, show y ≤ 9 by omega, show u ≤ 2 by omega]
  rw [K.settle hc, pv_cal_some, g.1.2.2.1, x_pollBy hl, pv_cap_some, isP_o (isO_l hl), pv_ck_true, Pv_great (isO_l hl) hy hu (g.2.2.2 y u hy hu), pv_cap_some]
theorem xs_votes (K : KS BA c v M n b cn cf kn kf bn bf l d pu ra rb P V T U H) (hc : c < 900) {y u p : Nat} (hy : y < 10) (hu : u < 3) (hp : p < P) : f_X8_votes (nI y) (nI u) (nI p) M = some (nI (tly P V T U H l y u (olds P V T U H l u y) p), M) := by
  have g := K.gx hc
  have hl := g.1.1
  have hP := K.wf.1
  unfold f_X8_votes f_X1_tally
  rw [K.settle hc, pv_cal_some]
  simp (disch := omega) only [↓pv_nm_eq, ↓pv_jn_eq, ↓reduceIte, pv_nm_eq, pv_jn_eq, pv_cap_some, pv_cal_some, pv_ck_true, lit_eq, pk_mul, nI_add, sbn, eqn, len', ltn, if_true, if_false, ite_true, ite_false, eq_self, u_s, u_e, u_k, u_j, Nat.zero_le, Nat.one_ne_zero, Nat.reduceEqDiff, Nat.reduceLT, Nat.reduceLeDiff, Nat.reduceAdd, Nat.reduceMul, Nat.reduceSub, and_self, and_true, true_and, ite_self, ↓gcm_isText, ↓gcm_isSheet, ↓gcm_isTwo, ↓gcm_isYear, ↓gcm_isUnit, ↓gcm_isAnyVoter, ↓gcx_isText, ↓gcx_isYear, ↓gcx_isUnit, ↓gcx_isPerson, ↓gcx_isSheet, ↓gcx_isForm, ↓gcx_isTown, ↓gcx_isKind, ↓gc_w, ↓gi_0_1, ↓gi_0_2, ↓gi_0_3, ↓gi_0_5, ↓gi_0_7, ↓gi_0_9, ↓gi_0_255, ↓gi_0_999, ↓gi_1_9, ↓gi_1_99, ↓gi_0_4095, ↓gi_m2_3, mg_isText, mg_isSheet, mg_isTwo, mg_isYear, mg_isUnit, mg_isAnyVoter, xg_isText, xg_isYear, xg_isUnit, xg_isPerson, xg_isSheet, xg_isForm, xg_isTown, xg_isKind, within_n, i_0_1, i_0_2, i_0_3, i_0_5, i_0_7, i_0_9, i_0_255, i_0_999, i_1_9, i_1_99, i_0_4095, i_m2_3, x_isParty K.xr, show y ≤ 9 by omega, show u ≤ 2 by omega, show p ≤ P - 1 by omega]
  rw [g.1.2.2.1, x_pollBy hl, pv_cap_some, isP_o (isO_l hl), pv_ck_true, pv_ck_true, rp_24 (isO_l hl) hy]
  rw [lp_24 (isO_l hl) hy (by omega), ((g.2.2.2 y u hy hu).2 (by omega)).2.2 p hp, pv_cap_some]
theorem now_bad (hI : Inv RIo (CAo BA) c M) : ∃ M2, f_X9_livesNow M = some ((), M2) ∧ Inv RIo (CAo BA) (c + 1) M2 := by
  obtain ⟨n, b, cn, cf, kn, kf, bn, bf, l, d, pu, ra, rb, h1, h2, h3, h4, h5, h6, h7, h8, h9⟩ := id hI
  obtain ⟨N1, f1, f2, f3⟩ := m_reads h1
  have hMR := mr_of (h1.fr (fun k j q => f2 k j (by unfold PM; omega))) (h2.fr (fun k j q => f2 k j (by unfold PM; omega))) f3
  obtain ⟨N2, k1, k2, k3⟩ := m_livesL (wf_of h1 h2) hMR h5.1
  refine ⟨N2, ?_, (hI.mFr (fun k j q => ?_)).more⟩
  · unfold f_X9_livesNow f_X9_lives
    rw [show pv_ldI pv_T 205 0 M = fun f => pv_ldI pv_T 205 (nI 0) M f from rfl]
    dsimp only
    rw [ld_205 (by decide), h5.2.2.2.1, f1, pv_cal_some, k1, pv_cal_some]
  · rw [k2 k j (fun z => q (by unfold PM; omega))]
    exact f2 k j q
theorem reads_bad (hI : Inv RIo (CAo BA) c M) : ∃ M2, f_X9_reads M = some ((), M2) ∧ Inv RIo (CAo BA) (c + 1) M2 := by
  obtain ⟨n, b, cn, cf, kn, kf, bn, bf, l, d, pu, ra, rb, h1, h2, h3, h4, h5, h6, h7, h8, h9⟩ := id hI
  obtain ⟨N1, f1, f2, f3⟩ := m_reads h1
  exact ⟨N1, f1, (hI.mFr f2).more⟩
/-- a call that settles first: it is enough to look at settled states -/
theorem OP_of (hB : BAok BA) {X Y : pv_M → Option (Int32 × pv_M)} (hX : ∀ M M1, f_X8_settle M = some ((), M1) → f_X8_settle M1 = some ((), M1) → (∀ x c, ¬ ((x = 0 ∧ c = 19) ∨ (39 ≤ x ∧ x ≤ 157)) → M1.1 x c = M.1 x c) → X M = X M1)
    (h : ∀ (c v : Nat) (M : pv_M) (n : Nat → Nat) (b : Nat → Nat → Nat) (cn : Nat) (cf : Nat → Nat → Nat) (kn : Nat) (kf : Nat → Nat → Nat) (bn : Nat) (bf : Nat → Nat → Nat) (l d : Nat) (pu ra rb : Nat → Nat) (P V : Nat) (T : Nat → Nat → Nat → Nat) (U : Nat → Nat) (H : Nat → Int), KS BA c v M n b cn cf kn kf bn bf l d pu ra rb P V T U H → c < 600 → ∃ r M1 M2, X M = some (r, M1) ∧ Y M1 = some (r, M2) ∧ Inv RIo (CAo BA) c M2) : OP RIo (CAo BA) X Y := by
  intro c M hc hI
  obtain ⟨M1, v, n, b, cn, cf, kn, kf, bn, bf, l, d, pu, ra, rb, P, V, T, U, H, e1, K, hF⟩ := start hB (by omega) hI
  obtain ⟨r, N1, N2, q1, q2, q3⟩ := h _ _ _ _ _ _ _ _ _ _ _ _ _ _ _ _ _ _ _ _ _ K (by omega)
  exact ⟨r, N1, N2, by rw [hX M M1 e1 (K.settle (by omega)) hF]; exact q1, q2, q3⟩
theorem op_elected (hB : BAok BA) (a1 a2 : Int32) : OP RIo (CAo BA) (f_X8_elected a1 a2) (f_X9_elected a1 a2) := by
  by_cases g1 : nI 0 ≤ a1 ∧ a1 ≤ nI 9
  · by_cases g2 : nI 0 ≤ a2 ∧ a2 ≤ nI 2
    · refine OP_of hB (fun M M1 e1 e2 _ => by unfold f_X8_elected; rw [gcx_isYear, bt1 g1, gcx_isUnit, bt1 g2, e1, gcx_isYear, bt1 g1, gcx_isUnit, bt1 g2, e2]) ?_
      intro c v M n b cn cf kn kf bn bf l d pu ra rb P V T U H K hc
      obtain ⟨y, hy, rfl⟩ := rng (by decide) g1
      obtain ⟨u, hu, rfl⟩ := rng (by decide) g2
      obtain ⟨M2, y1, y2, y3, y4, y5⟩ := K.now
      refine ⟨_, M, M2, xs_elected K (by omega) (show y < 10 by omega) (show u < 3 by omega), ?_, (K.frM hB y2).inv hB⟩
      unfold f_X9_elected
      rw [y1, pv_cal_some]
      simp (disch := omega) only [↓pv_nm_eq, ↓pv_jn_eq, ↓reduceIte, pv_nm_eq, pv_jn_eq, pv_cap_some, pv_cal_some, pv_ck_true, lit_eq, pk_mul, nI_add, sbn, eqn, len', ltn, if_true, if_false, ite_true, ite_false, eq_self, u_s, u_e, u_k, u_j, Nat.zero_le, Nat.one_ne_zero, Nat.reduceEqDiff, Nat.reduceLT, Nat.reduceLeDiff, Nat.reduceAdd, Nat.reduceMul, Nat.reduceSub, and_self, and_true, true_and, ite_self, ld_208, st_208, ↓gcm_isText, ↓gcm_isSheet, ↓gcm_isTwo, ↓gcm_isYear, ↓gcm_isUnit, ↓gcm_isAnyVoter, ↓gcx_isText, ↓gcx_isYear, ↓gcx_isUnit, ↓gcx_isPerson, ↓gcx_isSheet, ↓gcx_isForm, ↓gcx_isTown, ↓gcx_isKind, ↓gc_w, ↓gi_0_1, ↓gi_0_2, ↓gi_0_3, ↓gi_0_5, ↓gi_0_7, ↓gi_0_9, ↓gi_0_255, ↓gi_0_999, ↓gi_1_9, ↓gi_1_99, ↓gi_0_4095, ↓gi_m2_3, mg_isText, mg_isSheet, mg_isTwo, mg_isYear, mg_isUnit, mg_isAnyVoter, xg_isText, xg_isYear, xg_isUnit, xg_isPerson, xg_isSheet, xg_isForm, xg_isTown, xg_isKind, within_n, i_0_1, i_0_2, i_0_3, i_0_5, i_0_7, i_0_9, i_0_255, i_0_999, i_1_9, i_1_99, i_0_4095, i_m2_3, hy, hu, Lv_win y5 (show y < 10 by omega) (show u < 3 by omega)]
    · intro c M hc hI
      obtain ⟨M2, e2, e3⟩ := now_bad hI
      refine ⟨-2, M, M2, ?_, ?_, e3⟩
      · unfold f_X8_elected
        simp (disch := omega) only [↓pv_nm_eq, ↓pv_jn_eq, ↓reduceIte, pv_nm_eq, pv_jn_eq, pv_cap_some, pv_cal_some, pv_ck_true, lit_eq, pk_mul, nI_add, sbn, eqn, len', ltn, if_true, if_false, ite_true, ite_false, eq_self, u_s, u_e, u_k, u_j, Nat.zero_le, Nat.one_ne_zero, Nat.reduceEqDiff, Nat.reduceLT, Nat.reduceLeDiff, Nat.reduceAdd, Nat.reduceMul, Nat.reduceSub, and_self, and_true, true_and, ite_self, ↓gcm_isText, ↓gcm_isSheet, ↓gcm_isTwo, ↓gcm_isYear, ↓gcm_isUnit, ↓gcm_isAnyVoter, ↓gcx_isText, ↓gcx_isYear, ↓gcx_isUnit, ↓gcx_isPerson, ↓gcx_isSheet, ↓gcx_isForm, ↓gcx_isTown, ↓gcx_isKind, ↓gc_w, ↓gi_0_1, ↓gi_0_2, ↓gi_0_3, ↓gi_0_5, ↓gi_0_7, ↓gi_0_9, ↓gi_0_255, ↓gi_0_999, ↓gi_1_9, ↓gi_1_99, ↓gi_0_4095, ↓gi_m2_3, mg_isText, mg_isSheet, mg_isTwo, mg_isYear, mg_isUnit, mg_isAnyVoter, xg_isText, xg_isYear, xg_isUnit, xg_isPerson, xg_isSheet, xg_isForm, xg_isTown, xg_isKind, within_n, i_0_1, i_0_2, i_0_3, i_0_5, i_0_7, i_0_9, i_0_255, i_0_999, i_1_9, i_1_99, i_0_4095, i_m2_3, g1, g2]
      · unfold f_X9_elected
        rw [e2, pv_cal_some]
        simp (disch := omega) only [↓pv_nm_eq, ↓pv_jn_eq, ↓reduceIte, pv_nm_eq, pv_jn_eq, pv_cap_some, pv_cal_some, pv_ck_true, lit_eq, pk_mul, nI_add, sbn, eqn, len', ltn, if_true, if_false, ite_true, ite_false, eq_self, u_s, u_e, u_k, u_j, Nat.zero_le, Nat.one_ne_zero, Nat.reduceEqDiff, Nat.reduceLT, Nat.reduceLeDiff, Nat.reduceAdd, Nat.reduceMul, Nat.reduceSub, and_self, and_true, true_and, ite_self, ↓gcm_isText, ↓gcm_isSheet, ↓gcm_isTwo, ↓gcm_isYear, ↓gcm_isUnit, ↓gcm_isAnyVoter, ↓gcx_isText, ↓gcx_isYear, ↓gcx_isUnit, ↓gcx_isPerson, ↓gcx_isSheet, ↓gcx_isForm, ↓gcx_isTown, ↓gcx_isKind, ↓gc_w, ↓gi_0_1, ↓gi_0_2, ↓gi_0_3, ↓gi_0_5, ↓gi_0_7, ↓gi_0_9, ↓gi_0_255, ↓gi_0_999, ↓gi_1_9, ↓gi_1_99, ↓gi_0_4095, ↓gi_m2_3, mg_isText, mg_isSheet, mg_isTwo, mg_isYear, mg_isUnit, mg_isAnyVoter, xg_isText, xg_isYear, xg_isUnit, xg_isPerson, xg_isSheet, xg_isForm, xg_isTown, xg_isKind, within_n, i_0_1, i_0_2, i_0_3, i_0_5, i_0_7, i_0_9, i_0_255, i_0_999, i_1_9, i_1_99, i_0_4095, i_m2_3, g1, g2]
  · intro c M hc hI
    obtain ⟨M2, e2, e3⟩ := now_bad hI
    refine ⟨-2, M, M2, ?_, ?_, e3⟩
    · unfold f_X8_elected
      simp (disch := omega) only [↓pv_nm_eq, ↓pv_jn_eq, ↓reduceIte, pv_nm_eq, pv_jn_eq, pv_cap_some, pv_cal_some, pv_ck_true, lit_eq, pk_mul, nI_add, sbn, eqn, len', ltn, if_true, if_false, ite_true, ite_false, eq_self, u_s, u_e, u_k, u_j, Nat.zero_le, Nat.one_ne_zero, Nat.reduceEqDiff, Nat.reduceLT, Nat.reduceLeDiff, Nat.reduceAdd, Nat.reduceMul, Nat.reduceSub, and_self, and_true, true_and, ite_self, ↓gcm_isText, ↓gcm_isSheet, ↓gcm_isTwo, ↓gcm_isYear, ↓gcm_isUnit, ↓gcm_isAnyVoter, ↓gcx_isText, ↓gcx_isYear, ↓gcx_isUnit, ↓gcx_isPerson, ↓gcx_isSheet, ↓gcx_isForm, ↓gcx_isTown, ↓gcx_isKind, ↓gc_w, ↓gi_0_1, ↓gi_0_2, ↓gi_0_3, ↓gi_0_5, ↓gi_0_7, ↓gi_0_9, ↓gi_0_255, ↓gi_0_999, ↓gi_1_9, ↓gi_1_99, ↓gi_0_4095, ↓gi_m2_3, mg_isText, mg_isSheet, mg_isTwo, mg_isYear, mg_isUnit, mg_isAnyVoter, xg_isText, xg_isYear, xg_isUnit, xg_isPerson, xg_isSheet, xg_isForm, xg_isTown, xg_isKind, within_n, i_0_1, i_0_2, i_0_3, i_0_5, i_0_7, i_0_9, i_0_255, i_0_999, i_1_9, i_1_99, i_0_4095, i_m2_3, g1]
    · unfold f_X9_elected
      rw [e2, pv_cal_some]
      simp (disch := omega) only [↓pv_nm_eq, ↓pv_jn_eq, ↓reduceIte, pv_nm_eq, pv_jn_eq, pv_cap_some, pv_cal_some, pv_ck_true, lit_eq, pk_mul, nI_add, sbn, eqn, len', ltn, if_true, if_false, ite_true, ite_false, eq_self, u_s, u_e, u_k, u_j, Nat.zero_le, Nat.one_ne_zero, Nat.reduceEqDiff, Nat.reduceLT, Nat.reduceLeDiff, Nat.reduceAdd, Nat.reduceMul, Nat.reduceSub, and_self, and_true, true_and, ite_self, ↓gcm_isText, ↓gcm_isSheet, ↓gcm_isTwo, ↓gcm_isYear, ↓gcm_isUnit, ↓gcm_isAnyVoter, ↓gcx_isText, ↓gcx_isYear, ↓gcx_isUnit, ↓gcx_isPerson, ↓gcx_isSheet, ↓gcx_isForm, ↓gcx_isTown, ↓gcx_isKind, ↓gc_w, ↓gi_0_1, ↓gi_0_2, ↓gi_0_3, ↓gi_0_5, ↓gi_0_7, ↓gi_0_9, ↓gi_0_255, ↓gi_0_999, ↓gi_1_9, ↓gi_1_99, ↓gi_0_4095, ↓gi_m2_3, mg_isText, mg_isSheet, mg_isTwo, mg_isYear, mg_isUnit, mg_isAnyVoter, xg_isText, xg_isYear, xg_isUnit, xg_isPerson, xg_isSheet, xg_isForm, xg_isTown, xg_isKind, within_n, i_0_1, i_0_2, i_0_3, i_0_5, i_0_7, i_0_9, i_0_255, i_0_999, i_1_9, i_1_99, i_0_4095, i_m2_3, g1]
theorem op_great (hB : BAok BA) (a1 a2 : Int32) : OP RIo (CAo BA) (f_X8_great a1 a2) (f_X9_great a1 a2) := by
  by_cases g1 : nI 0 ≤ a1 ∧ a1 ≤ nI 9
  · by_cases g2 : nI 0 ≤ a2 ∧ a2 ≤ nI 2
    · refine OP_of hB (fun M M1 e1 e2 _ => by unfold f_X8_great; rw [gcx_isYear, bt1 g1, gcx_isUnit, bt1 g2, e1, gcx_isYear, bt1 g1, gcx_isUnit, bt1 g2, e2]) ?_
      intro c v M n b cn cf kn kf bn bf l d pu ra rb P V T U H K hc
      obtain ⟨y, hy, rfl⟩ := rng (by decide) g1
      obtain ⟨u, hu, rfl⟩ := rng (by decide) g2
      obtain ⟨M2, y1, y2, y3, y4, y5⟩ := K.now
      refine ⟨_, M, M2, xs_great K (by omega) (show y < 10 by omega) (show u < 3 by omega), ?_, (K.frM hB y2).inv hB⟩
      unfold f_X9_great
      rw [y1, pv_cal_some]
      simp (disch := omega) only [↓pv_nm_eq, ↓pv_jn_eq, ↓reduceIte, pv_nm_eq, pv_jn_eq, pv_cap_some, pv_cal_some, pv_ck_true, lit_eq, pk_mul, nI_add, sbn, eqn, len', ltn, if_true, if_false, ite_true, ite_false, eq_self, u_s, u_e, u_k, u_j, Nat.zero_le, Nat.one_ne_zero, Nat.reduceEqDiff, Nat.reduceLT, Nat.reduceLeDiff, Nat.reduceAdd, Nat.reduceMul, Nat.reduceSub, and_self, and_true, true_and, ite_self, ↓gcm_isText, ↓gcm_isSheet, ↓gcm_isTwo, ↓gcm_isYear, ↓gcm_isUnit, ↓gcm_isAnyVoter, ↓gcx_isText, ↓gcx_isYear, ↓gcx_isUnit, ↓gcx_isPerson, ↓gcx_isSheet, ↓gcx_isForm, ↓gcx_isTown, ↓gcx_isKind, ↓gc_w, ↓gi_0_1, ↓gi_0_2, ↓gi_0_3, ↓gi_0_5, ↓gi_0_7, ↓gi_0_9, ↓gi_0_255, ↓gi_0_999, ↓gi_1_9, ↓gi_1_99, ↓gi_0_4095, ↓gi_m2_3, mg_isText, mg_isSheet, mg_isTwo, mg_isYear, mg_isUnit, mg_isAnyVoter, xg_isText, xg_isYear, xg_isUnit, xg_isPerson, xg_isSheet, xg_isForm, xg_isTown, xg_isKind, within_n, i_0_1, i_0_2, i_0_3, i_0_5, i_0_7, i_0_9, i_0_255, i_0_999, i_1_9, i_1_99, i_0_4095, i_m2_3, hy, hu, Lv_great y5 y4 K.wf (show y < 10 by omega) (show u < 3 by omega)]
    · intro c M hc hI
      obtain ⟨M2, e2, e3⟩ := now_bad hI
      refine ⟨-2, M, M2, ?_, ?_, e3⟩
      · unfold f_X8_great
        simp (disch := omega) only [↓pv_nm_eq, ↓pv_jn_eq, ↓reduceIte, pv_nm_eq, pv_jn_eq, pv_cap_some, pv_cal_some, pv_ck_true, lit_eq, pk_mul, nI_add, sbn, eqn, len', ltn, if_true, if_false, ite_true, ite_false, eq_self, u_s, u_e, u_k, u_j, Nat.zero_le, Nat.one_ne_zero, Nat.reduceEqDiff, Nat.reduceLT, Nat.reduceLeDiff, Nat.reduceAdd, Nat.reduceMul, Nat.reduceSub, and_self, and_true, true_and, ite_self, ↓gcm_isText, ↓gcm_isSheet, ↓gcm_isTwo, ↓gcm_isYear, ↓gcm_isUnit, ↓gcm_isAnyVoter, ↓gcx_isText, ↓gcx_isYear, ↓gcx_isUnit, ↓gcx_isPerson, ↓gcx_isSheet, ↓gcx_isForm, ↓gcx_isTown, ↓gcx_isKind, ↓gc_w, ↓gi_0_1, ↓gi_0_2, ↓gi_0_3, ↓gi_0_5, ↓gi_0_7, ↓gi_0_9, ↓gi_0_255, ↓gi_0_999, ↓gi_1_9, ↓gi_1_99, ↓gi_0_4095, ↓gi_m2_3, mg_isText, mg_isSheet, mg_isTwo, mg_isYear, mg_isUnit, mg_isAnyVoter, xg_isText, xg_isYear, xg_isUnit, xg_isPerson, xg_isSheet, xg_isForm, xg_isTown, xg_isKind, within_n, i_0_1, i_0_2, i_0_3, i_0_5, i_0_7, i_0_9, i_0_255, i_0_999, i_1_9, i_1_99, i_0_4095, i_m2_3, g1, g2]
      · unfold f_X9_great
        rw [e2, pv_cal_some]
        simp (disch := omega) only [↓pv_nm_eq, ↓pv_jn_eq, ↓reduceIte, pv_nm_eq, pv_jn_eq, pv_cap_some, pv_cal_some, pv_ck_true, lit_eq, pk_mul, nI_add, sbn, eqn, len', ltn, if_true, if_false, ite_true, ite_false, eq_self, u_s, u_e, u_k, u_j, Nat.zero_le, Nat.one_ne_zero, Nat.reduceEqDiff, Nat.reduceLT, Nat.reduceLeDiff, Nat.reduceAdd, Nat.reduceMul, Nat.reduceSub, and_self, and_true, true_and, ite_self, ↓gcm_isText, ↓gcm_isSheet, ↓gcm_isTwo, ↓gcm_isYear, ↓gcm_isUnit, ↓gcm_isAnyVoter, ↓gcx_isText, ↓gcx_isYear, ↓gcx_isUnit, ↓gcx_isPerson, ↓gcx_isSheet, ↓gcx_isForm, ↓gcx_isTown, ↓gcx_isKind, ↓gc_w, ↓gi_0_1, ↓gi_0_2, ↓gi_0_3, ↓gi_0_5, ↓gi_0_7, ↓gi_0_9, ↓gi_0_255, ↓gi_0_999, ↓gi_1_9, ↓gi_1_99, ↓gi_0_4095, ↓gi_m2_3, mg_isText, mg_isSheet, mg_isTwo, mg_isYear, mg_isUnit, mg_isAnyVoter, xg_isText, xg_isYear, xg_isUnit, xg_isPerson, xg_isSheet, xg_isForm, xg_isTown, xg_isKind, within_n, i_0_1, i_0_2, i_0_3, i_0_5, i_0_7, i_0_9, i_0_255, i_0_999, i_1_9, i_1_99, i_0_4095, i_m2_3, g1, g2]
  · intro c M hc hI
    obtain ⟨M2, e2, e3⟩ := now_bad hI
    refine ⟨-2, M, M2, ?_, ?_, e3⟩
    · unfold f_X8_great
      simp (disch := omega) only [↓pv_nm_eq, ↓pv_jn_eq, ↓reduceIte, pv_nm_eq, pv_jn_eq, pv_cap_some, pv_cal_some, pv_ck_true, lit_eq, pk_mul, nI_add, sbn, eqn, len', ltn, if_true, if_false, ite_true, ite_false, eq_self, u_s, u_e, u_k, u_j, Nat.zero_le, Nat.one_ne_zero, Nat.reduceEqDiff, Nat.reduceLT, Nat.reduceLeDiff, Nat.reduceAdd, Nat.reduceMul, Nat.reduceSub, and_self, and_true, true_and, ite_self, ↓gcm_isText, ↓gcm_isSheet, ↓gcm_isTwo, ↓gcm_isYear, ↓gcm_isUnit, ↓gcm_isAnyVoter, ↓gcx_isText, ↓gcx_isYear, ↓gcx_isUnit, ↓gcx_isPerson, ↓gcx_isSheet, ↓gcx_isForm, ↓gcx_isTown, ↓gcx_isKind, ↓gc_w, ↓gi_0_1, ↓gi_0_2, ↓gi_0_3, ↓gi_0_5, ↓gi_0_7, ↓gi_0_9, ↓gi_0_255, ↓gi_0_999, ↓gi_1_9, ↓gi_1_99, ↓gi_0_4095, ↓gi_m2_3, mg_isText, mg_isSheet, mg_isTwo, mg_isYear, mg_isUnit, mg_isAnyVoter, xg_isText, xg_isYear, xg_isUnit, xg_isPerson, xg_isSheet, xg_isForm, xg_isTown, xg_isKind, within_n, i_0_1, i_0_2, i_0_3, i_0_5, i_0_7, i_0_9, i_0_255, i_0_999, i_1_9, i_1_99, i_0_4095, i_m2_3, g1]
    · unfold f_X9_great
      rw [e2, pv_cal_some]
      simp (disch := omega) only [↓pv_nm_eq, ↓pv_jn_eq, ↓reduceIte, pv_nm_eq, pv_jn_eq, pv_cap_some, pv_cal_some, pv_ck_true, lit_eq, pk_mul, nI_add, sbn, eqn, len', ltn, if_true, if_false, ite_true, ite_false, eq_self, u_s, u_e, u_k, u_j, Nat.zero_le, Nat.one_ne_zero, Nat.reduceEqDiff, Nat.reduceLT, Nat.reduceLeDiff, Nat.reduceAdd, Nat.reduceMul, Nat.reduceSub, and_self, and_true, true_and, ite_self, ↓gcm_isText, ↓gcm_isSheet, ↓gcm_isTwo, ↓gcm_isYear, ↓gcm_isUnit, ↓gcm_isAnyVoter, ↓gcx_isText, ↓gcx_isYear, ↓gcx_isUnit, ↓gcx_isPerson, ↓gcx_isSheet, ↓gcx_isForm, ↓gcx_isTown, ↓gcx_isKind, ↓gc_w, ↓gi_0_1, ↓gi_0_2, ↓gi_0_3, ↓gi_0_5, ↓gi_0_7, ↓gi_0_9, ↓gi_0_255, ↓gi_0_999, ↓gi_1_9, ↓gi_1_99, ↓gi_0_4095, ↓gi_m2_3, mg_isText, mg_isSheet, mg_isTwo, mg_isYear, mg_isUnit, mg_isAnyVoter, xg_isText, xg_isYear, xg_isUnit, xg_isPerson, xg_isSheet, xg_isForm, xg_isTown, xg_isKind, within_n, i_0_1, i_0_2, i_0_3, i_0_5, i_0_7, i_0_9, i_0_255, i_0_999, i_1_9, i_1_99, i_0_4095, i_m2_3, g1]
theorem op_votes (hB : BAok BA) (a1 a2 a3 : Int32) : OP RIo (CAo BA) (f_X8_votes a1 a2 a3) (f_X9_votes a1 a2 a3) := by
  refine OP_of hB (fun M M1 e1 e2 _ => by unfold f_X8_votes; rw [e1, e2]) ?_
  intro c v M n b cn cf kn kf bn bf l d pu ra rb P V T U H K hc
  obtain ⟨M2, y1, y2, y3, y4, y5⟩ := K.now
  have hP := K.wf.1
  have hfin := (K.frM hB y2).inv hB
  by_cases g1 : nI 0 ≤ a1 ∧ a1 ≤ nI 9
  · by_cases g2 : nI 0 ≤ a2 ∧ a2 ≤ nI 2
    · by_cases g3 : nI 0 ≤ a3 ∧ a3 ≤ nI P - nI 1
      · obtain ⟨y, hy, rfl⟩ := rng (by decide) g1
        obtain ⟨u, hu, rfl⟩ := rng (by decide) g2
        obtain ⟨p, hp, rfl⟩ := rngm (by omega) g3
        refine ⟨_, M, M2, xs_votes K (by omega) (show y < 10 by omega) (show u < 3 by omega) hp, ?_, hfin⟩
        unfold f_X9_votes
        rw [y1, pv_cal_some]
        simp (disch := omega) only [↓pv_nm_eq, ↓pv_jn_eq, ↓reduceIte, pv_nm_eq, pv_jn_eq, pv_cap_some, pv_cal_some, pv_ck_true, lit_eq, pk_mul, nI_add, sbn, eqn, len', ltn, if_true, if_false, ite_true, ite_false, eq_self, u_s, u_e, u_k, u_j, Nat.zero_le, Nat.one_ne_zero, Nat.reduceEqDiff, Nat.reduceLT, Nat.reduceLeDiff, Nat.reduceAdd, Nat.reduceMul, Nat.reduceSub, and_self, and_true, true_and, ite_self, ld_209, st_209, ↓gcm_isText, ↓gcm_isSheet, ↓gcm_isTwo, ↓gcm_isYear, ↓gcm_isUnit, ↓gcm_isAnyVoter, ↓gcx_isText, ↓gcx_isYear, ↓gcx_isUnit, ↓gcx_isPerson, ↓gcx_isSheet, ↓gcx_isForm, ↓gcx_isTown, ↓gcx_isKind, ↓gc_w, ↓gi_0_1, ↓gi_0_2, ↓gi_0_3, ↓gi_0_5, ↓gi_0_7, ↓gi_0_9, ↓gi_0_255, ↓gi_0_999, ↓gi_1_9, ↓gi_1_99, ↓gi_0_4095, ↓gi_m2_3, mg_isText, mg_isSheet, mg_isTwo, mg_isYear, mg_isUnit, mg_isAnyVoter, xg_isText, xg_isYear, xg_isUnit, xg_isPerson, xg_isSheet, xg_isForm, xg_isTown, xg_isKind, within_n, i_0_1, i_0_2, i_0_3, i_0_5, i_0_7, i_0_9, i_0_255, i_0_999, i_1_9, i_1_99, i_0_4095, i_m2_3, m_isParty y4, hy, hu, show p ≤ P - 1 by omega, ((y5 y u (by omega) (by omega)).2 (by omega)).2 p hp]
      · refine ⟨-2, M, M2, ?_, ?_, hfin⟩
        · unfold f_X8_votes
          rw [K.settle (by omega), pv_cal_some]
          simp (disch := omega) only [↓pv_nm_eq, ↓pv_jn_eq, ↓reduceIte, pv_nm_eq, pv_jn_eq, pv_cap_some, pv_cal_some, pv_ck_true, lit_eq, pk_mul, nI_add, sbn, eqn, len', ltn, if_true, if_false, ite_true, ite_false, eq_self, u_s, u_e, u_k, u_j, Nat.zero_le, Nat.one_ne_zero, Nat.reduceEqDiff, Nat.reduceLT, Nat.reduceLeDiff, Nat.reduceAdd, Nat.reduceMul, Nat.reduceSub, and_self, and_true, true_and, ite_self, ↓gcm_isText, ↓gcm_isSheet, ↓gcm_isTwo, ↓gcm_isYear, ↓gcm_isUnit, ↓gcm_isAnyVoter, ↓gcx_isText, ↓gcx_isYear, ↓gcx_isUnit, ↓gcx_isPerson, ↓gcx_isSheet, ↓gcx_isForm, ↓gcx_isTown, ↓gcx_isKind, ↓gc_w, ↓gi_0_1, ↓gi_0_2, ↓gi_0_3, ↓gi_0_5, ↓gi_0_7, ↓gi_0_9, ↓gi_0_255, ↓gi_0_999, ↓gi_1_9, ↓gi_1_99, ↓gi_0_4095, ↓gi_m2_3, mg_isText, mg_isSheet, mg_isTwo, mg_isYear, mg_isUnit, mg_isAnyVoter, xg_isText, xg_isYear, xg_isUnit, xg_isPerson, xg_isSheet, xg_isForm, xg_isTown, xg_isKind, within_n, i_0_1, i_0_2, i_0_3, i_0_5, i_0_7, i_0_9, i_0_255, i_0_999, i_1_9, i_1_99, i_0_4095, i_m2_3, x_isParty K.xr, g1, g2, g3]
        · unfold f_X9_votes
          rw [y1, pv_cal_some]
          simp (disch := omega) only [↓pv_nm_eq, ↓pv_jn_eq, ↓reduceIte, pv_nm_eq, pv_jn_eq, pv_cap_some, pv_cal_some, pv_ck_true, lit_eq, pk_mul, nI_add, sbn, eqn, len', ltn, if_true, if_false, ite_true, ite_false, eq_self, u_s, u_e, u_k, u_j, Nat.zero_le, Nat.one_ne_zero, Nat.reduceEqDiff, Nat.reduceLT, Nat.reduceLeDiff, Nat.reduceAdd, Nat.reduceMul, Nat.reduceSub, and_self, and_true, true_and, ite_self, ↓gcm_isText, ↓gcm_isSheet, ↓gcm_isTwo, ↓gcm_isYear, ↓gcm_isUnit, ↓gcm_isAnyVoter, ↓gcx_isText, ↓gcx_isYear, ↓gcx_isUnit, ↓gcx_isPerson, ↓gcx_isSheet, ↓gcx_isForm, ↓gcx_isTown, ↓gcx_isKind, ↓gc_w, ↓gi_0_1, ↓gi_0_2, ↓gi_0_3, ↓gi_0_5, ↓gi_0_7, ↓gi_0_9, ↓gi_0_255, ↓gi_0_999, ↓gi_1_9, ↓gi_1_99, ↓gi_0_4095, ↓gi_m2_3, mg_isText, mg_isSheet, mg_isTwo, mg_isYear, mg_isUnit, mg_isAnyVoter, xg_isText, xg_isYear, xg_isUnit, xg_isPerson, xg_isSheet, xg_isForm, xg_isTown, xg_isKind, within_n, i_0_1, i_0_2, i_0_3, i_0_5, i_0_7, i_0_9, i_0_255, i_0_999, i_1_9, i_1_99, i_0_4095, i_m2_3, m_isParty y4, g1, g2, g3]
    · refine ⟨-2, M, M2, ?_, ?_, hfin⟩
      · unfold f_X8_votes
        rw [K.settle (by omega), pv_cal_some]
        simp (disch := omega) only [↓pv_nm_eq, ↓pv_jn_eq, ↓reduceIte, pv_nm_eq, pv_jn_eq, pv_cap_some, pv_cal_some, pv_ck_true, lit_eq, pk_mul, nI_add, sbn, eqn, len', ltn, if_true, if_false, ite_true, ite_false, eq_self, u_s, u_e, u_k, u_j, Nat.zero_le, Nat.one_ne_zero, Nat.reduceEqDiff, Nat.reduceLT, Nat.reduceLeDiff, Nat.reduceAdd, Nat.reduceMul, Nat.reduceSub, and_self, and_true, true_and, ite_self, ↓gcm_isText, ↓gcm_isSheet, ↓gcm_isTwo, ↓gcm_isYear, ↓gcm_isUnit, ↓gcm_isAnyVoter, ↓gcx_isText, ↓gcx_isYear, ↓gcx_isUnit, ↓gcx_isPerson, ↓gcx_isSheet, ↓gcx_isForm, ↓gcx_isTown, ↓gcx_isKind, ↓gc_w, ↓gi_0_1, ↓gi_0_2, ↓gi_0_3, ↓gi_0_5, ↓gi_0_7, ↓gi_0_9, ↓gi_0_255, ↓gi_0_999, ↓gi_1_9, ↓gi_1_99, ↓gi_0_4095, ↓gi_m2_3, mg_isText, mg_isSheet, mg_isTwo, mg_isYear, mg_isUnit, mg_isAnyVoter, xg_isText, xg_isYear, xg_isUnit, xg_isPerson, xg_isSheet, xg_isForm, xg_isTown, xg_isKind, within_n, i_0_1, i_0_2, i_0_3, i_0_5, i_0_7, i_0_9, i_0_255, i_0_999, i_1_9, i_1_99, i_0_4095, i_m2_3, g1, g2]
      · unfold f_X9_votes
        rw [y1, pv_cal_some]
        simp (disch := omega) only [↓pv_nm_eq, ↓pv_jn_eq, ↓reduceIte, pv_nm_eq, pv_jn_eq, pv_cap_some, pv_cal_some, pv_ck_true, lit_eq, pk_mul, nI_add, sbn, eqn, len', ltn, if_true, if_false, ite_true, ite_false, eq_self, u_s, u_e, u_k, u_j, Nat.zero_le, Nat.one_ne_zero, Nat.reduceEqDiff, Nat.reduceLT, Nat.reduceLeDiff, Nat.reduceAdd, Nat.reduceMul, Nat.reduceSub, and_self, and_true, true_and, ite_self, ↓gcm_isText, ↓gcm_isSheet, ↓gcm_isTwo, ↓gcm_isYear, ↓gcm_isUnit, ↓gcm_isAnyVoter, ↓gcx_isText, ↓gcx_isYear, ↓gcx_isUnit, ↓gcx_isPerson, ↓gcx_isSheet, ↓gcx_isForm, ↓gcx_isTown, ↓gcx_isKind, ↓gc_w, ↓gi_0_1, ↓gi_0_2, ↓gi_0_3, ↓gi_0_5, ↓gi_0_7, ↓gi_0_9, ↓gi_0_255, ↓gi_0_999, ↓gi_1_9, ↓gi_1_99, ↓gi_0_4095, ↓gi_m2_3, mg_isText, mg_isSheet, mg_isTwo, mg_isYear, mg_isUnit, mg_isAnyVoter, xg_isText, xg_isYear, xg_isUnit, xg_isPerson, xg_isSheet, xg_isForm, xg_isTown, xg_isKind, within_n, i_0_1, i_0_2, i_0_3, i_0_5, i_0_7, i_0_9, i_0_255, i_0_999, i_1_9, i_1_99, i_0_4095, i_m2_3, g1, g2]
  · refine ⟨-2, M, M2, ?_, ?_, hfin⟩
    · unfold f_X8_votes
      rw [K.settle (by omega), pv_cal_some]
      simp (disch := omega) only [↓pv_nm_eq, ↓pv_jn_eq, ↓reduceIte, pv_nm_eq, pv_jn_eq, pv_cap_some, pv_cal_some, pv_ck_true, lit_eq, pk_mul, nI_add, sbn, eqn, len', ltn, if_true, if_false, ite_true, ite_false, eq_self, u_s, u_e, u_k, u_j, Nat.zero_le, Nat.one_ne_zero, Nat.reduceEqDiff, Nat.reduceLT, Nat.reduceLeDiff, Nat.reduceAdd, Nat.reduceMul, Nat.reduceSub, and_self, and_true, true_and, ite_self, ↓gcm_isText, ↓gcm_isSheet, ↓gcm_isTwo, ↓gcm_isYear, ↓gcm_isUnit, ↓gcm_isAnyVoter, ↓gcx_isText, ↓gcx_isYear, ↓gcx_isUnit, ↓gcx_isPerson, ↓gcx_isSheet, ↓gcx_isForm, ↓gcx_isTown, ↓gcx_isKind, ↓gc_w, ↓gi_0_1, ↓gi_0_2, ↓gi_0_3, ↓gi_0_5, ↓gi_0_7, ↓gi_0_9, ↓gi_0_255, ↓gi_0_999, ↓gi_1_9, ↓gi_1_99, ↓gi_0_4095, ↓gi_m2_3, mg_isText, mg_isSheet, mg_isTwo, mg_isYear, mg_isUnit, mg_isAnyVoter, xg_isText, xg_isYear, xg_isUnit, xg_isPerson, xg_isSheet, xg_isForm, xg_isTown, xg_isKind, within_n, i_0_1, i_0_2, i_0_3, i_0_5, i_0_7, i_0_9, i_0_255, i_0_999, i_1_9, i_1_99, i_0_4095, i_m2_3, g1]
    · unfold f_X9_votes
      rw [y1, pv_cal_some]
      simp (disch := omega) only [↓pv_nm_eq, ↓pv_jn_eq, ↓reduceIte, pv_nm_eq, pv_jn_eq, pv_cap_some, pv_cal_some, pv_ck_true, lit_eq, pk_mul, nI_add, sbn, eqn, len', ltn, if_true, if_false, ite_true, ite_false, eq_self, u_s, u_e, u_k, u_j, Nat.zero_le, Nat.one_ne_zero, Nat.reduceEqDiff, Nat.reduceLT, Nat.reduceLeDiff, Nat.reduceAdd, Nat.reduceMul, Nat.reduceSub, and_self, and_true, true_and, ite_self, ↓gcm_isText, ↓gcm_isSheet, ↓gcm_isTwo, ↓gcm_isYear, ↓gcm_isUnit, ↓gcm_isAnyVoter, ↓gcx_isText, ↓gcx_isYear, ↓gcx_isUnit, ↓gcx_isPerson, ↓gcx_isSheet, ↓gcx_isForm, ↓gcx_isTown, ↓gcx_isKind, ↓gc_w, ↓gi_0_1, ↓gi_0_2, ↓gi_0_3, ↓gi_0_5, ↓gi_0_7, ↓gi_0_9, ↓gi_0_255, ↓gi_0_999, ↓gi_1_9, ↓gi_1_99, ↓gi_0_4095, ↓gi_m2_3, mg_isText, mg_isSheet, mg_isTwo, mg_isYear, mg_isUnit, mg_isAnyVoter, xg_isText, xg_isYear, xg_isUnit, xg_isPerson, xg_isSheet, xg_isForm, xg_isTown, xg_isKind, within_n, i_0_1, i_0_2, i_0_3, i_0_5, i_0_7, i_0_9, i_0_255, i_0_999, i_1_9, i_1_99, i_0_4095, i_m2_3, g1]
end G
