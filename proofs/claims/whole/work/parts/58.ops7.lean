def KS (BA : pv_BA) (c v : Nat) (M : pv_M) (n : Nat → Nat) (b : Nat → Nat → Nat) (cn : Nat) (cf : Nat → Nat → Nat) (kn : Nat) (kf : Nat → Nat → Nat) (bn : Nat) (bf : Nat → Nat → Nat) (l d : Nat) (pu ra rb : Nat → Nat) (P V : Nat) (T : Nat → Nat → Nat → Nat) (U : Nat → Nat) (H : Nat → Int) : Prop := I1 M n b ∧ I2 M cn cf ∧ I3 M kn kf ∧ I4 M bn bf ∧ I5 M l d ∧ I6 M pu ∧ I7 M ra rb ∧ I8 M ∧ ST BA c v M n b cn cf l P V T U H
def grt (P V : Nat) (T : Nat → Nat → Nat → Nat) (U : Nat → Nat) (H : Nat → Int) (l y u : Nat) : Nat := if P = 0 then 1 else T y (win P V T U H l u y) u
def elv (P V : Nat) (T : Nat → Nat → Nat → Nat) (U : Nat → Nat) (H : Nat → Int) (l y u : Nat) : Int32 := if P = 0 then -1 else nI (win P V T U H l u y)
def pyB (kf : Nat → Nat → Nat) (G : Nat → Nat → Nat) (k y : Nat) : Nat := kf k 2 * G y (kf k 3)
def pyS (kf : Nat → Nat → Nat) (G : Nat → Nat → Nat) (d k : Nat) : Nat := pyB kf G k (kf k (4 + d))
def mny (pu : Nat → Nat) (kf : Nat → Nat → Nat) (G : Nat → Nat → Nat) (d w y : Nat) : Nat → Int
  | 0 => (pu w : Nat)
  | k + 1 => mny pu kf G d w y k + (if kf k 5 ≤ y then ((if kf k 1 = w then ((pyS kf G d k : Nat) : Int) else 0) - (if kf k 0 = w then ((pyS kf G d k : Nat) : Int) else 0)) else 0)
section K
variable {BA : pv_BA} {c v : Nat} {M : pv_M} {n : Nat → Nat} {b : Nat → Nat → Nat} {cn : Nat} {cf : Nat → Nat → Nat} {kn : Nat} {kf : Nat → Nat → Nat} {bn : Nat} {bf : Nat → Nat → Nat} {l d : Nat} {pu ra rb : Nat → Nat} {P V : Nat} {T : Nat → Nat → Nat → Nat} {U : Nat → Nat} {H : Nat → Int}
theorem KS.inv (hB : BAok BA) (K : KS BA c v M n b cn cf kn kf bn bf l d pu ra rb P V T U H) : Inv RIo (CAo BA) c M := by
  obtain ⟨h1, h2, h3, h4, h5, h6, h7, h8, h9⟩ := K
  exact ⟨n, b, cn, cf, kn, kf, bn, bf, l, d, pu, ra, rb, h1, h2, h3, h4, h5, h6, h7, h8, h9.i9 hB⟩
theorem start (hB : BAok BA) (hc : c < 800) (hI : Inv RIo (CAo BA) c M) : ∃ (M' : pv_M) (v : Nat) (n : Nat → Nat) (b : Nat → Nat → Nat) (cn : Nat) (cf : Nat → Nat → Nat) (kn : Nat) (kf : Nat → Nat → Nat) (bn : Nat) (bf : Nat → Nat → Nat) (l d : Nat) (pu ra rb : Nat → Nat) (P V : Nat) (T : Nat → Nat → Nat → Nat) (U : Nat → Nat) (H : Nat → Int), f_X8_settle M = some ((), M') ∧ KS BA (c + 1) v M' n b cn cf kn kf bn bf l d pu ra rb P V T U H ∧ (∀ x c, ¬ ((x = 0 ∧ c = 19) ∨ (39 ≤ x ∧ x ≤ 157)) → M'.1 x c = M.1 x c) := by
  obtain ⟨n, b, cn, cf, kn, kf, bn, bf, l, d, pu, ra, rb, h1, h2, h3, h4, h5, h6, h7, h8, h9⟩ := hI
  obtain ⟨M', v, P, V, T, U, H, e1, hF, e3⟩ := x_settle hB hc h1 h2 h5 h9
  exact ⟨M', v, n, b, cn, cf, kn, kf, bn, bf, l, d, pu, ra, rb, P, V, T, U, H, e1, ⟨(h1.fr (fun k j q => hF k j (by first | omega | (unfold PM PX; omega) | (unfold PM; omega)))), (h2.fr (fun k j q => hF k j (by first | omega | (unfold PM PX; omega) | (unfold PM; omega)))), (h3.fr (fun k j q => hF k j (by first | omega | (unfold PM PX; omega) | (unfold PM; omega)))), (h4.fr (fun k j q => hF k j (by first | omega | (unfold PM PX; omega) | (unfold PM; omega)))), (h5.fr (fun k j q => hF k j (by first | omega | (unfold PM PX; omega) | (unfold PM; omega)))), (h6.fr (fun k j q => hF k j (by first | omega | (unfold PM PX; omega) | (unfold PM; omega)))), (h7.fr (fun k j q => hF k j (by first | omega | (unfold PM PX; omega) | (unfold PM; omega)))), (h8.fr (fun k j q => hF k j (by first | omega | (unfold PM PX; omega) | (unfold PM; omega)))), e3⟩, hF⟩
theorem KS.settle (K : KS BA c v M n b cn cf kn kf bn bf l d pu ra rb P V T U H) (hc : c < 900) : f_X8_settle M = some ((), M) := x_settled K.2.2.2.2.1 hc K.2.2.2.2.2.2.2.2
theorem KS.more (K : KS BA c v M n b cn cf kn kf bn bf l d pu ra rb P V T U H) : KS BA (c + 1) v M n b cn cf kn kf bn bf l d pu ra rb P V T U H := by
  obtain ⟨h1, h2, h3, h4, h5, h6, h7, h8, s1, s2⟩ := K
  exact ⟨h1, h2, h3, h4, h5, h6, h7, h8, by omega, s2⟩
theorem KS.wf (K : KS BA c v M n b cn cf kn kf bn bf l d pu ra rb P V T U H) : WF P V T U H := K.2.2.2.2.2.2.2.2.2.2.2.2.1
theorem KS.xr (K : KS BA c v M n b cn cf kn kf bn bf l d pu ra rb P V T U H) : XR M.1 P V T U H := K.2.2.2.2.2.2.2.2.2.2.2.2.2.1
theorem KS.mr (K : KS BA c v M n b cn cf kn kf bn bf l d pu ra rb P V T U H) {M' : pv_M} (hF : FrM M M') (hT : Told M' n b) : MR M' P V T U H := by
  obtain ⟨h1, h2, h3, h4, h5, h6, h7, h8, s1, s2, s3, s4, s5, s6, s7, s8⟩ := K
  exact (mr_of (h1.fr (fun k j q => hF k j (by unfold PM; omega))) (h2.fr (fun k j q => hF k j (by unfold PM; omega))) hT).as (wf_of h1 h2) s7 s5 s6
theorem KS.fr (hB : BAok BA) (K : KS BA c v M n b cn cf kn kf bn bf l d pu ra rb P V T U H) {M' : pv_M} (hF : ∀ k j, ¬ (PM k j ∨ PX k j) → M'.1 k j = M.1 k j) : KS BA c v M' n b cn cf kn kf bn bf l d pu ra rb P V T U H := by
  obtain ⟨h1, h2, h3, h4, h5, h6, h7, h8, s1, s2, s3, s4, s5, s6, s7, s8, s9, s10⟩ := K
  exact ⟨(h1.fr (fun k j q => hF k j (by first | omega | (unfold PM PX; omega) | (unfold PM; omega)))), (h2.fr (fun k j q => hF k j (by first | omega | (unfold PM PX; omega) | (unfold PM; omega)))), (h3.fr (fun k j q => hF k j (by first | omega | (unfold PM PX; omega) | (unfold PM; omega)))), (h4.fr (fun k j q => hF k j (by first | omega | (unfold PM PX; omega) | (unfold PM; omega)))), (h5.fr (fun k j q => hF k j (by first | omega | (unfold PM PX; omega) | (unfold PM; omega)))), (h6.fr (fun k j q => hF k j (by first | omega | (unfold PM PX; omega) | (unfold PM; omega)))), (h7.fr (fun k j q => hF k j (by first | omega | (unfold PM PX; omega) | (unfold PM; omega)))), (h8.fr (fun k j q => hF k j (by first | omega | (unfold PM PX; omega) | (unfold PM; omega)))), s1, s2, by rw [hF _ _ (by unfold PM PX; omega)]; exact s3, by rw [hF _ _ (by unfold PM PX; omega)]; exact s4, s5, s6.fr (fun a c q => hF a c (by unfold PM PX; omega)), XR.fr s7 (fun a c q => hF a c (by unfold PM PX; omega)), fun k hk => (s8 k hk).fr s5.1 (fun a c q1 q2 => hF a c (by unfold PM PX; omega)), by have hl := h5.1; rw [hF _ _ (by unfold PM PX; omega)]; exact s9, hB.1 _ _ _ _ _ _ _ _ (fun a c q1 q2 => hF a c (by unfold PM PX; omega)) s10⟩
theorem KS.frM (hB : BAok BA) (K : KS BA c v M n b cn cf kn kf bn bf l d pu ra rb P V T U H) {M' : pv_M} (hF : FrM M M') : KS BA c v M' n b cn cf kn kf bn bf l d pu ra rb P V T U H := K.fr hB (fun k j q => hF k j (fun z => q (Or.inl z)))
theorem KS.reads (K : KS BA c v M n b cn cf kn kf bn bf l d pu ra rb P V T U H) : ∃ M', f_X9_reads M = some ((), M') ∧ FrM M M' ∧ Told M' n b ∧ MR M' P V T U H := by
  obtain ⟨M', e1, e2, e3⟩ := m_reads K.1
  exact ⟨M', e1, e2, e3, K.mr e2 e3⟩
theorem KS.lives (K : KS BA c v M n b cn cf kn kf bn bf l d pu ra rb P V T U H) {k : Nat} (hk : k < 3) : ∃ M', f_X9_lives (nI k) M = some ((), M') ∧ FrM M M' ∧ Told M' n b ∧ MR M' P V T U H ∧ Lv M' P V T U H k := by
  obtain ⟨M1, e1, e2, e3, e4⟩ := K.reads
  obtain ⟨M2, f1, f2, f3⟩ := m_livesL K.wf e4 hk
  refine ⟨M2, ?_, fun k j q => ?_, fun t ht => ?_, e4.fr (fun k j q => f2 k j (by omega)), f3⟩
  · unfold f_X9_lives
    rw [e1, pv_cal_some, f1]
  · rw [f2 k j (fun z => q (by unfold PM; omega))]
    exact e2 k j q
  · obtain ⟨t1, t2⟩ := e3 t ht
    exact ⟨by rw [f2 _ _ (by omega)]; exact t1, fun i hi k hk => by rw [f2 _ _ (by omega)]; exact t2 i hi k hk⟩
theorem KS.now (K : KS BA c v M n b cn cf kn kf bn bf l d pu ra rb P V T U H) : ∃ M', f_X9_livesNow M = some ((), M') ∧ FrM M M' ∧ Told M' n b ∧ MR M' P V T U H ∧ Lv M' P V T U H l := by
  have h5 := K.2.2.2.2.1
  obtain ⟨M', e1, e2⟩ := K.lives h5.1
  refine ⟨M', ?_, e2⟩
  unfold f_X9_livesNow
  rw [show pv_ldI pv_T 205 0 M = fun f => pv_ldI pv_T 205 (nI 0) M f from rfl]
  dsimp only
  rw [ld_205 (by decide), h5.2.2.2.1, e1, pv_cal_some]
theorem x_isParty (hX : XR M.1 P V T U H) (a : Int32) : f_X8_isParty a M = some (if nI 0 ≤ a ∧ a ≤ nI P - nI 1 then 1 else 0) := by
  unfold f_X8_isParty
  rw [pv_nm_eq, hX.1, within_n, pv_cap_some]
  exact bool_ck rfl _
theorem x_isOnRoll (hX : XR M.1 P V T U H) (a : Int32) : f_X8_isOnRoll a M = some (if nI 0 ≤ a ∧ a ≤ nI V - nI 1 then 1 else 0) := by
  unfold f_X8_isOnRoll
  rw [pv_nm_eq, hX.2.1, within_n, pv_cap_some]
  exact bool_ck rfl _
theorem m_isParty (h : MR M P V T U H) (a : Int32) : f_X9_isParty a M = some (if nI 0 ≤ a ∧ a ≤ nI P - nI 1 then 1 else 0) := by
  unfold f_X9_isParty
  rw [show pv_ldI pv_T 203 0 M = fun f => pv_ldI pv_T 203 (nI 0) M f from rfl]
  dsimp only
  rw [ld_203 (by decide), (h M SM.rf).1, show (1 : Int32) = nI 1 from rfl, i_0hi, pv_cap_some]
  exact bool_ck rfl _
theorem m_isVoter (h : MR M P V T U H) (a : Int32) : f_X9_isVoter a M = some (if nI 0 ≤ a ∧ a ≤ nI V - nI 1 then 1 else 0) := by
  unfold f_X9_isVoter
  rw [show pv_ldI pv_T 203 1 M = fun f => pv_ldI pv_T 203 (nI 1) M f from rfl]
  dsimp only
  rw [ld_203 (by decide), (h M SM.rf).2.1, show (1 : Int32) = nI 1 from rfl, i_0hi, pv_cap_some]
  exact bool_ck rfl _
/-! ticket, voter -/
theorem xs_ticket (K : KS BA c v M n b cn cf kn kf bn bf l d pu ra rb P V T U H) (hc : c < 900) {y p u : Nat} (hy : y < 10) (hp : p < P) (hu : u < 3) : f_X8_ticket (nI y) (nI p) (nI u) M = some (nI (T y p u), M) := by
  have hP := K.wf.1
  unfold f_X8_ticket
  rw [K.settle hc, pv_cal_some]
  simp (disch := omega) only [↓pv_nm_eq, ↓pv_jn_eq, ↓reduceIte, pv_nm_eq, pv_jn_eq, pv_cap_some, pv_cal_some, pv_ck_true, lit_eq, pk_mul, nI_add, sbn, eqn, len', ltn, if_true, if_false, ite_true, ite_false, eq_self, u_s, u_e, u_k, u_j, Nat.zero_le, Nat.one_ne_zero, Nat.reduceEqDiff, Nat.reduceLT, Nat.reduceLeDiff, Nat.reduceAdd, Nat.reduceMul, Nat.reduceSub, and_self, and_true, true_and, ite_self, ↓gcm_isText, ↓gcm_isSheet, ↓gcm_isTwo, ↓gcm_isYear, ↓gcm_isUnit, ↓gcm_isAnyVoter, ↓gcx_isText, ↓gcx_isYear, ↓gcx_isUnit, ↓gcx_isPerson, ↓gcx_isSheet, ↓gcx_isForm, ↓gcx_isTown, ↓gcx_isKind, ↓gc_w, ↓gi_0_1, ↓gi_0_2, ↓gi_0_3, ↓gi_0_5, ↓gi_0_7, ↓gi_0_9, ↓gi_0_255, ↓gi_0_999, ↓gi_1_9, ↓gi_1_99, ↓gi_0_4095, ↓gi_m2_3, mg_isText, mg_isSheet, mg_isTwo, mg_isYear, mg_isUnit, mg_isAnyVoter, xg_isText, xg_isYear, xg_isUnit, xg_isPerson, xg_isSheet, xg_isForm, xg_isTown, xg_isKind, within_n, i_0_1, i_0_2, i_0_3, i_0_5, i_0_7, i_0_9, i_0_255, i_0_999, i_1_9, i_1_99, i_0_4095, i_m2_3, x_isParty K.xr, show y ≤ 9 by omega, show u ≤ 2 by omega, show p ≤ P - 1 by omega, x_figure K.wf K.xr hy hp hu]
theorem op_ticket (hB : BAok BA) (a1 a2 a3 : Int32) : OP RIo (CAo BA) (f_X8_ticket a1 a2 a3) (f_X9_ticket a1 a2 a3) := by
  intro c M hc hI
  obtain ⟨M1, v, n, b, cn, cf, kn, kf, bn, bf, l, d, pu, ra, rb, P, V, T, U, H, e1, K, -⟩ := start hB (by omega) hI
  obtain ⟨M2, y1, y2, y3, y4⟩ := K.reads
  have hP := K.wf.1
  have hfin := (K.frM hB y2).inv hB
  by_cases g1 : nI 0 ≤ a1 ∧ a1 ≤ nI 9
  · by_cases g2 : nI 0 ≤ a2 ∧ a2 ≤ nI P - nI 1
    · by_cases g3 : nI 0 ≤ a3 ∧ a3 ≤ nI 2
      · obtain ⟨y, hy, rfl⟩ := rng (by decide) g1
        obtain ⟨p, hp, rfl⟩ := rngm (by omega) g2
        obtain ⟨u, hu, rfl⟩ := rng (by decide) g3
        refine ⟨nI (T y p u), M1, M2, ?_, ?_, hfin⟩
        · have := xs_ticket K (by omega) (show y < 10 by omega) hp (show u < 3 by omega)
          unfold f_X8_ticket at this ⊢
          rw [K.settle (by omega), pv_cal_some] at this
          rw [e1, pv_cal_some]
          exact this
        · unfold f_X9_ticket
          rw [y1, pv_cal_some]
          simp (disch := omega) only [↓pv_nm_eq, ↓pv_jn_eq, ↓reduceIte, pv_nm_eq, pv_jn_eq, pv_cap_some, pv_cal_some, pv_ck_true, lit_eq, pk_mul, nI_add, sbn, eqn, len', ltn, if_true, if_false, ite_true, ite_false, eq_self, u_s, u_e, u_k, u_j, Nat.zero_le, Nat.one_ne_zero, Nat.reduceEqDiff, Nat.reduceLT, Nat.reduceLeDiff, Nat.reduceAdd, Nat.reduceMul, Nat.reduceSub, and_self, and_true, true_and, ite_self, ↓gcm_isText, ↓gcm_isSheet, ↓gcm_isTwo, ↓gcm_isYear, ↓gcm_isUnit, ↓gcm_isAnyVoter, ↓gcx_isText, ↓gcx_isYear, ↓gcx_isUnit, ↓gcx_isPerson, ↓gcx_isSheet, ↓gcx_isForm, ↓gcx_isTown, ↓gcx_isKind, ↓gc_w, ↓gi_0_1, ↓gi_0_2, ↓gi_0_3, ↓gi_0_5, ↓gi_0_7, ↓gi_0_9, ↓gi_0_255, ↓gi_0_999, ↓gi_1_9, ↓gi_1_99, ↓gi_0_4095, ↓gi_m2_3, mg_isText, mg_isSheet, mg_isTwo, mg_isYear, mg_isUnit, mg_isAnyVoter, xg_isText, xg_isYear, xg_isUnit, xg_isPerson, xg_isSheet, xg_isForm, xg_isTown, xg_isKind, within_n, i_0_1, i_0_2, i_0_3, i_0_5, i_0_7, i_0_9, i_0_255, i_0_999, i_1_9, i_1_99, i_0_4095, i_m2_3, m_isParty y4, hy, hu, show p ≤ P - 1 by omega, (y4 M2 SM.rf).2.2.1 y p u (by omega) hp (by omega)]
      · refine ⟨-2, M1, M2, ?_, ?_, hfin⟩
        · unfold f_X8_ticket
          rw [e1, pv_cal_some]
          simp (disch := omega) only [↓pv_nm_eq, ↓pv_jn_eq, ↓reduceIte, pv_nm_eq, pv_jn_eq, pv_cap_some, pv_cal_some, pv_ck_true, lit_eq, pk_mul, nI_add, sbn, eqn, len', ltn, if_true, if_false, ite_true, ite_false, eq_self, u_s, u_e, u_k, u_j, Nat.zero_le, Nat.one_ne_zero, Nat.reduceEqDiff, Nat.reduceLT, Nat.reduceLeDiff, Nat.reduceAdd, Nat.reduceMul, Nat.reduceSub, and_self, and_true, true_and, ite_self, ↓gcm_isText, ↓gcm_isSheet, ↓gcm_isTwo, ↓gcm_isYear, ↓gcm_isUnit, ↓gcm_isAnyVoter, ↓gcx_isText, ↓gcx_isYear, ↓gcx_isUnit, ↓gcx_isPerson, ↓gcx_isSheet, ↓gcx_isForm, ↓gcx_isTown, ↓gcx_isKind, ↓gc_w, ↓gi_0_1, ↓gi_0_2, ↓gi_0_3, ↓gi_0_5, ↓gi_0_7, ↓gi_0_9, ↓gi_0_255, ↓gi_0_999, ↓gi_1_9, ↓gi_1_99, ↓gi_0_4095, ↓gi_m2_3, mg_isText, mg_isSheet, mg_isTwo, mg_isYear, mg_isUnit, mg_isAnyVoter, xg_isText, xg_isYear, xg_isUnit, xg_isPerson, xg_isSheet, xg_isForm, xg_isTown, xg_isKind, within_n, i_0_1, i_0_2, i_0_3, i_0_5, i_0_7, i_0_9, i_0_255, i_0_999, i_1_9, i_1_99, i_0_4095, i_m2_3, x_isParty K.xr, g1, g2, g3]
        · unfold f_X9_ticket
          rw [y1, pv_cal_some]
          simp (disch := omega) only [↓pv_nm_eq, ↓pv_jn_eq, ↓reduceIte, pv_nm_eq, pv_jn_eq, pv_cap_some, pv_cal_some, pv_ck_true, lit_eq, pk_mul, nI_add, sbn, eqn, len', ltn, if_true, if_false, ite_true, ite_false, eq_self, u_s, u_e, u_k, u_j, Nat.zero_le, Nat.one_ne_zero, Nat.reduceEqDiff, Nat.reduceLT, Nat.reduceLeDiff, Nat.reduceAdd, Nat.reduceMul, Nat.reduceSub, and_self, and_true, true_and, ite_self, ↓gcm_isText, ↓gcm_isSheet, ↓gcm_isTwo, ↓gcm_isYear, ↓gcm_isUnit, ↓gcm_isAnyVoter, ↓gcx_isText, ↓gcx_isYear, ↓gcx_isUnit, ↓gcx_isPerson, ↓gcx_isSheet, ↓gcx_isForm, ↓gcx_isTown, ↓gcx_isKind, ↓gc_w, ↓gi_0_1, ↓gi_0_2, ↓gi_0_3, ↓gi_0_5, ↓gi_0_7, ↓gi_0_9, ↓gi_0_255, ↓gi_0_999, ↓gi_1_9, ↓gi_1_99, ↓gi_0_4095, ↓gi_m2_3, mg_isText, mg_isSheet, mg_isTwo, mg_isYear, mg_isUnit, mg_isAnyVoter, xg_isText, xg_isYear, xg_isUnit, xg_isPerson, xg_isSheet, xg_isForm, xg_isTown, xg_isKind, within_n, i_0_1, i_0_2, i_0_3, i_0_5, i_0_7, i_0_9, i_0_255, i_0_999, i_1_9, i_1_99, i_0_4095, i_m2_3, m_isParty y4, g1, g2, g3]
    · refine ⟨-2, M1, M2, ?_, ?_, hfin⟩
      · unfold f_X8_ticket
        rw [e1, pv_cal_some]
        simp (disch := omega) only [↓pv_nm_eq, ↓pv_jn_eq, ↓reduceIte, pv_nm_eq, pv_jn_eq, pv_cap_some, pv_cal_some, pv_ck_true, lit_eq, pk_mul, nI_add, sbn, eqn, len', ltn, if_true, if_false, ite_true, ite_false, eq_self, u_s, u_e, u_k, u_j, Nat.zero_le, Nat.one_ne_zero, Nat.reduceEqDiff, Nat.reduceLT, Nat.reduceLeDiff, Nat.reduceAdd, Nat.reduceMul, Nat.reduceSub, and_self, and_true, true_and, ite_self, ↓gcm_isText, ↓gcm_isSheet, ↓gcm_isTwo, ↓gcm_isYear, ↓gcm_isUnit, ↓gcm_isAnyVoter, ↓gcx_isText, ↓gcx_isYear, ↓gcx_isUnit, ↓gcx_isPerson, ↓gcx_isSheet, ↓gcx_isForm, ↓gcx_isTown, ↓gcx_isKind, ↓gc_w, ↓gi_0_1, ↓gi_0_2, ↓gi_0_3, ↓gi_0_5, ↓gi_0_7, ↓gi_0_9, ↓gi_0_255, ↓gi_0_999, ↓gi_1_9, ↓gi_1_99, ↓gi_0_4095, ↓gi_m2_3, mg_isText, mg_isSheet, mg_isTwo, mg_isYear, mg_isUnit, mg_isAnyVoter, xg_isText, xg_isYear, xg_isUnit, xg_isPerson, xg_isSheet, xg_isForm, xg_isTown, xg_isKind, within_n, i_0_1, i_0_2, i_0_3, i_0_5, i_0_7, i_0_9, i_0_255, i_0_999, i_1_9, i_1_99, i_0_4095, i_m2_3, x_isParty K.xr, g1, g2]
      · unfold f_X9_ticket
        rw [y1, pv_cal_some]
        simp (disch := omega) only [↓pv_nm_eq, ↓pv_jn_eq, ↓reduceIte, pv_nm_eq, pv_jn_eq, pv_cap_some, pv_cal_some, pv_ck_true, lit_eq, pk_mul, nI_add, sbn, eqn, len', ltn, if_true, if_false, ite_true, ite_false, eq_self, u_s, u_e, u_k, u_j, Nat.zero_le, Nat.one_ne_zero, Nat.reduceEqDiff, Nat.reduceLT, Nat.reduceLeDiff, Nat.reduceAdd, Nat.reduceMul, Nat.reduceSub, and_self, and_true, true_and, ite_self, ↓gcm_isText, ↓gcm_isSheet, ↓gcm_isTwo, ↓gcm_isYear, ↓gcm_isUnit, ↓gcm_isAnyVoter, ↓gcx_isText, ↓gcx_isYear, ↓gcx_isUnit, ↓gcx_isPerson, ↓gcx_isSheet, ↓gcx_isForm, ↓gcx_isTown, ↓gcx_isKind, ↓gc_w, ↓gi_0_1, ↓gi_0_2, ↓gi_0_3, ↓gi_0_5, ↓gi_0_7, ↓gi_0_9, ↓gi_0_255, ↓gi_0_999, ↓gi_1_9, ↓gi_1_99, ↓gi_0_4095, ↓gi_m2_3, mg_isText, mg_isSheet, mg_isTwo, mg_isYear, mg_isUnit, mg_isAnyVoter, xg_isText, xg_isYear, xg_isUnit, xg_isPerson, xg_isSheet, xg_isForm, xg_isTown, xg_isKind, within_n, i_0_1, i_0_2, i_0_3, i_0_5, i_0_7, i_0_9, i_0_255, i_0_999, i_1_9, i_1_99, i_0_4095, i_m2_3, m_isParty y4, g1, g2]
  · refine ⟨-2, M1, M2, ?_, ?_, hfin⟩
    · unfold f_X8_ticket
      rw [e1, pv_cal_some]
      simp (disch := omega) only [↓pv_nm_eq, ↓pv_jn_eq, ↓reduceIte, pv_nm_eq, pv_jn_eq, pv_cap_some, pv_cal_some, pv_ck_true, lit_eq, pk_mul, nI_add, sbn, eqn, len', ltn, if_true, if_false, ite_true, ite_false, eq_self, u_s, u_e, u_k, u_j, Nat.zero_le, Nat.one_ne_zero, Nat.reduceEqDiff, Nat.reduceLT, Nat.reduceLeDiff, Nat.reduceAdd, Nat.reduceMul, Nat.reduceSub, and_self, and_true, true_and, ite_self, ↓gcm_isText, ↓gcm_isSheet, ↓gcm_isTwo, ↓gcm_isYear, ↓gcm_isUnit, ↓gcm_isAnyVoter, ↓gcx_isText, ↓gcx_isYear, ↓gcx_isUnit, ↓gcx_isPerson, ↓gcx_isSheet, ↓gcx_isForm, ↓gcx_isTown, ↓gcx_isKind, ↓gc_w, ↓gi_0_1, ↓gi_0_2, ↓gi_0_3, ↓gi_0_5, ↓gi_0_7, ↓gi_0_9, ↓gi_0_255, ↓gi_0_999, ↓gi_1_9, ↓gi_1_99, ↓gi_0_4095, ↓gi_m2_3, mg_isText, mg_isSheet, mg_isTwo, mg_isYear, mg_isUnit, mg_isAnyVoter, xg_isText, xg_isYear, xg_isUnit, xg_isPerson, xg_isSheet, xg_isForm, xg_isTown, xg_isKind, within_n, i_0_1, i_0_2, i_0_3, i_0_5, i_0_7, i_0_9, i_0_255, i_0_999, i_1_9, i_1_99, i_0_4095, i_m2_3, g1]
    · unfold f_X9_ticket
      rw [y1, pv_cal_some]
      simp (disch := omega) only [↓pv_nm_eq, ↓pv_jn_eq, ↓reduceIte, pv_nm_eq, pv_jn_eq, pv_cap_some, pv_cal_some, pv_ck_true, lit_eq, pk_mul, nI_add, sbn, eqn, len', ltn, if_true, if_false, ite_true, ite_false, eq_self, u_s, u_e, u_k, u_j, Nat.zero_le, Nat.one_ne_zero, Nat.reduceEqDiff, Nat.reduceLT, Nat.reduceLeDiff, Nat.reduceAdd, Nat.reduceMul, Nat.reduceSub, and_self, and_true, true_and, ite_self, ↓gcm_isText, ↓gcm_isSheet, ↓gcm_isTwo, ↓gcm_isYear, ↓gcm_isUnit, ↓gcm_isAnyVoter, ↓gcx_isText, ↓gcx_isYear, ↓gcx_isUnit, ↓gcx_isPerson, ↓gcx_isSheet, ↓gcx_isForm, ↓gcx_isTown, ↓gcx_isKind, ↓gc_w, ↓gi_0_1, ↓gi_0_2, ↓gi_0_3, ↓gi_0_5, ↓gi_0_7, ↓gi_0_9, ↓gi_0_255, ↓gi_0_999, ↓gi_1_9, ↓gi_1_99, ↓gi_0_4095, ↓gi_m2_3, mg_isText, mg_isSheet, mg_isTwo, mg_isYear, mg_isUnit, mg_isAnyVoter, xg_isText, xg_isYear, xg_isUnit, xg_isPerson, xg_isSheet, xg_isForm, xg_isTown, xg_isKind, within_n, i_0_1, i_0_2, i_0_3, i_0_5, i_0_7, i_0_9, i_0_255, i_0_999, i_1_9, i_1_99, i_0_4095, i_m2_3, g1]
theorem three_of {a : Int32} (h0 : ¬ a = nI 0) (h1 : ¬ a = nI 1) (h2 : ¬ a = nI 2) : ¬ (nI 0 ≤ a ∧ a ≤ nI 2) := by
  intro q
  obtain ⟨i, hi, rfl⟩ := rng (by decide) q
  rcases (show i = 0 ∨ i = 1 ∨ i = 2 by omega) with rfl | rfl | rfl
  · exact h0 rfl
  · exact h1 rfl
  · exact h2 rfl
theorem op_voter (hB : BAok BA) (a1 a2 : Int32) : OP RIo (CAo BA) (f_X8_voter a1 a2) (f_X9_voter a1 a2) := by
  intro c M hc hI
  obtain ⟨M1, v, n, b, cn, cf, kn, kf, bn, bf, l, d, pu, ra, rb, P, V, T, U, H, e1, K, -⟩ := start hB (by omega) hI
  obtain ⟨M2, y1, y2, y3, y4⟩ := K.reads
  have hV := K.wf.2.1
  have hfin := (K.frM hB y2).inv hB
  by_cases g1 : nI 0 ≤ a1 ∧ a1 ≤ nI V - nI 1
  · obtain ⟨w, hw, rfl⟩ := rngm (by omega) g1
    -- what the cells tell of the voter
    have hri : RIo M1.1 n b cn cf := K.2.2.2.2.2.2.2.2.2.2.2.2.2.2.1
    have hVe : V = itm 1 (n 1) (b 1) := by
      have q1 := K.xr.2.1
      have q2 := hri.2.1
      have q3 := (itm_le (b := b 1) (K.1 1 (by decide)).1.1).1
      exact (nI_eq (by omega) (by omega)).mp (q1.symm.trans q2)
    have hw' : w < itm 1 (n 1) (b 1) := by omega
    obtain ⟨q1, q2, q3⟩ := fit1 (b := b 1) (v := w) (fun k hk => (ok_fit hw' hk).2)
    have t0 := (y3 1 (by decide)).2 w hw' 0 (by decide)
    have t1 := (y3 1 (by decide)).2 w hw' 1 (by decide)
    have t2 := (y3 1 (by decide)).2 w hw' 2 (by decide)
    rw [show 24 * 1 + 3 * w + 0 = 24 + 3 * w + 0 by omega, Nat.add_zero (4 * w), show val 1 0 (b 1 (4 * w)) = unS (b 1) w from rfl] at t0
    rw [show 24 * 1 + 3 * w + 1 = 24 + 3 * w + 1 by omega, show val 1 1 (b 1 (4 * w + 1)) = if b 1 (4 * w + 1) = 43 then 1 else 0 from rfl] at t1
    rw [show 24 * 1 + 3 * w + 2 = 24 + 3 * w + 2 by omega, show val 1 2 (b 1 (4 * w + 2)) = b 1 (4 * w + 2) - 48 from rfl] at t2
    have c1 : M1.1 51 w = nI (unS (b 1) w) := (hri.2.2.2 w hw').1
    have c2 : M1.1 52 w = iI (hoS (b 1) w) := (hri.2.2.2 w hw').2
    have ho : hoS (b 1) w = if b 1 (4 * w + 1) = 43 then ((b 1 (4 * w + 2) - 48 : Nat) : Int) else -((b 1 (4 * w + 2) - 48 : Nat) : Int) := rfl
    by_cases h0 : a2 = nI 0
    · subst h0
      refine ⟨nI (unS (b 1) w), M1, M2, ?_, ?_, hfin⟩
      · unfold f_X8_voter f_X2_unitOf
        rw [e1, pv_cal_some]
        simp (disch := omega) only [↓pv_nm_eq, ↓pv_jn_eq, ↓reduceIte, pv_nm_eq, pv_jn_eq, pv_cap_some, pv_cal_some, pv_ck_true, lit_eq, pk_mul, nI_add, sbn, eqn, len', ltn, if_true, if_false, ite_true, ite_false, eq_self, u_s, u_e, u_k, u_j, Nat.zero_le, Nat.one_ne_zero, Nat.reduceEqDiff, Nat.reduceLT, Nat.reduceLeDiff, Nat.reduceAdd, Nat.reduceMul, Nat.reduceSub, and_self, and_true, true_and, ite_self, ld_51, st_51, ↓gcm_isText, ↓gcm_isSheet, ↓gcm_isTwo, ↓gcm_isYear, ↓gcm_isUnit, ↓gcm_isAnyVoter, ↓gcx_isText, ↓gcx_isYear, ↓gcx_isUnit, ↓gcx_isPerson, ↓gcx_isSheet, ↓gcx_isForm, ↓gcx_isTown, ↓gcx_isKind, ↓gc_w, ↓gi_0_1, ↓gi_0_2, ↓gi_0_3, ↓gi_0_5, ↓gi_0_7, ↓gi_0_9, ↓gi_0_255, ↓gi_0_999, ↓gi_1_9, ↓gi_1_99, ↓gi_0_4095, ↓gi_m2_3, mg_isText, mg_isSheet, mg_isTwo, mg_isYear, mg_isUnit, mg_isAnyVoter, xg_isText, xg_isYear, xg_isUnit, xg_isPerson, xg_isSheet, xg_isForm, xg_isTown, xg_isKind, within_n, i_0_1, i_0_2, i_0_3, i_0_5, i_0_7, i_0_9, i_0_255, i_0_999, i_1_9, i_1_99, i_0_4095, i_m2_3, x_isOnRoll K.xr, show w ≤ V - 1 by omega, c1]
      · unfold f_X9_voter
        rw [y1, pv_cal_some]
        simp (disch := omega) only [↓pv_nm_eq, ↓pv_jn_eq, ↓reduceIte, pv_nm_eq, pv_jn_eq, pv_cap_some, pv_cal_some, pv_ck_true, lit_eq, pk_mul, nI_add, sbn, eqn, len', ltn, if_true, if_false, ite_true, ite_false, eq_self, u_s, u_e, u_k, u_j, Nat.zero_le, Nat.one_ne_zero, Nat.reduceEqDiff, Nat.reduceLT, Nat.reduceLeDiff, Nat.reduceAdd, Nat.reduceMul, Nat.reduceSub, and_self, and_true, true_and, ite_self, ld_204, st_204, ↓gcm_isText, ↓gcm_isSheet, ↓gcm_isTwo, ↓gcm_isYear, ↓gcm_isUnit, ↓gcm_isAnyVoter, ↓gcx_isText, ↓gcx_isYear, ↓gcx_isUnit, ↓gcx_isPerson, ↓gcx_isSheet, ↓gcx_isForm, ↓gcx_isTown, ↓gcx_isKind, ↓gc_w, ↓gi_0_1, ↓gi_0_2, ↓gi_0_3, ↓gi_0_5, ↓gi_0_7, ↓gi_0_9, ↓gi_0_255, ↓gi_0_999, ↓gi_1_9, ↓gi_1_99, ↓gi_0_4095, ↓gi_m2_3, mg_isText, mg_isSheet, mg_isTwo, mg_isYear, mg_isUnit, mg_isAnyVoter, xg_isText, xg_isYear, xg_isUnit, xg_isPerson, xg_isSheet, xg_isForm, xg_isTown, xg_isKind, within_n, i_0_1, i_0_2, i_0_3, i_0_5, i_0_7, i_0_9, i_0_255, i_0_999, i_1_9, i_1_99, i_0_4095, i_m2_3, m_isVoter y4, show w ≤ V - 1 by omega, t0]
    · by_cases h1 : a2 = nI 1
      · subst h1
        refine ⟨nI (if b 1 (4 * w + 1) = 43 then 1 else 0), M1, M2, ?_, ?_, hfin⟩
        · unfold f_X8_voter f_X2_owed
          rw [e1, pv_cal_some]
          simp (disch := omega) only [↓pv_nm_eq, ↓pv_jn_eq, ↓reduceIte, pv_nm_eq, pv_jn_eq, pv_cap_some, pv_cal_some, pv_ck_true, lit_eq, pk_mul, nI_add, sbn, eqn, len', ltn, if_true, if_false, ite_true, ite_false, eq_self, u_s, u_e, u_k, u_j, Nat.zero_le, Nat.one_ne_zero, Nat.reduceEqDiff, Nat.reduceLT, Nat.reduceLeDiff, Nat.reduceAdd, Nat.reduceMul, Nat.reduceSub, and_self, and_true, true_and, ite_self, ld_52, st_52, ↓gcm_isText, ↓gcm_isSheet, ↓gcm_isTwo, ↓gcm_isYear, ↓gcm_isUnit, ↓gcm_isAnyVoter, ↓gcx_isText, ↓gcx_isYear, ↓gcx_isUnit, ↓gcx_isPerson, ↓gcx_isSheet, ↓gcx_isForm, ↓gcx_isTown, ↓gcx_isKind, ↓gc_w, ↓gi_0_1, ↓gi_0_2, ↓gi_0_3, ↓gi_0_5, ↓gi_0_7, ↓gi_0_9, ↓gi_0_255, ↓gi_0_999, ↓gi_1_9, ↓gi_1_99, ↓gi_0_4095, ↓gi_m2_3, mg_isText, mg_isSheet, mg_isTwo, mg_isYear, mg_isUnit, mg_isAnyVoter, xg_isText, xg_isYear, xg_isUnit, xg_isPerson, xg_isSheet, xg_isForm, xg_isTown, xg_isKind, within_n, i_0_1, i_0_2, i_0_3, i_0_5, i_0_7, i_0_9, i_0_255, i_0_999, i_1_9, i_1_99, i_0_4095, i_m2_3, x_isOnRoll K.xr, show w ≤ V - 1 by omega, c2]
          rw [show nI 0 = iI 0 from rfl, iIf_le (by rw [ho]; split <;> omega) (by rw [ho]; split <;> omega) (by decide) (by decide), ho]
          by_cases e : b 1 (4 * w + 1) = 43
          · rw [if_pos e, if_pos e, if_neg (by omega)]
          · rw [if_neg e, if_neg e, if_pos (by omega)]
            rfl
        · unfold f_X9_voter
          rw [y1, pv_cal_some]
          simp (disch := omega) only [↓pv_nm_eq, ↓pv_jn_eq, ↓reduceIte, pv_nm_eq, pv_jn_eq, pv_cap_some, pv_cal_some, pv_ck_true, lit_eq, pk_mul, nI_add, sbn, eqn, len', ltn, if_true, if_false, ite_true, ite_false, eq_self, u_s, u_e, u_k, u_j, Nat.zero_le, Nat.one_ne_zero, Nat.reduceEqDiff, Nat.reduceLT, Nat.reduceLeDiff, Nat.reduceAdd, Nat.reduceMul, Nat.reduceSub, and_self, and_true, true_and, ite_self, ld_204, st_204, ↓gcm_isText, ↓gcm_isSheet, ↓gcm_isTwo, ↓gcm_isYear, ↓gcm_isUnit, ↓gcm_isAnyVoter, ↓gcx_isText, ↓gcx_isYear, ↓gcx_isUnit, ↓gcx_isPerson, ↓gcx_isSheet, ↓gcx_isForm, ↓gcx_isTown, ↓gcx_isKind, ↓gc_w, ↓gi_0_1, ↓gi_0_2, ↓gi_0_3, ↓gi_0_5, ↓gi_0_7, ↓gi_0_9, ↓gi_0_255, ↓gi_0_999, ↓gi_1_9, ↓gi_1_99, ↓gi_0_4095, ↓gi_m2_3, mg_isText, mg_isSheet, mg_isTwo, mg_isYear, mg_isUnit, mg_isAnyVoter, xg_isText, xg_isYear, xg_isUnit, xg_isPerson, xg_isSheet, xg_isForm, xg_isTown, xg_isKind, within_n, i_0_1, i_0_2, i_0_3, i_0_5, i_0_7, i_0_9, i_0_255, i_0_999, i_1_9, i_1_99, i_0_4095, i_m2_3, m_isVoter y4, show w ≤ V - 1 by omega, t1]
      · by_cases h2 : a2 = nI 2
        · subst h2
          refine ⟨nI (b 1 (4 * w + 2) - 48), M1, M2, ?_, ?_, hfin⟩
          · unfold f_X8_voter f_X2_owed
            rw [e1, pv_cal_some]
            simp (disch := omega) only [↓pv_nm_eq, ↓pv_jn_eq, ↓reduceIte, pv_nm_eq, pv_jn_eq, pv_cap_some, pv_cal_some, pv_ck_true, lit_eq, pk_mul, nI_add, sbn, eqn, len', ltn, if_true, if_false, ite_true, ite_false, eq_self, u_s, u_e, u_k, u_j, Nat.zero_le, Nat.one_ne_zero, Nat.reduceEqDiff, Nat.reduceLT, Nat.reduceLeDiff, Nat.reduceAdd, Nat.reduceMul, Nat.reduceSub, and_self, and_true, true_and, ite_self, ld_52, st_52, ↓gcm_isText, ↓gcm_isSheet, ↓gcm_isTwo, ↓gcm_isYear, ↓gcm_isUnit, ↓gcm_isAnyVoter, ↓gcx_isText, ↓gcx_isYear, ↓gcx_isUnit, ↓gcx_isPerson, ↓gcx_isSheet, ↓gcx_isForm, ↓gcx_isTown, ↓gcx_isKind, ↓gc_w, ↓gi_0_1, ↓gi_0_2, ↓gi_0_3, ↓gi_0_5, ↓gi_0_7, ↓gi_0_9, ↓gi_0_255, ↓gi_0_999, ↓gi_1_9, ↓gi_1_99, ↓gi_0_4095, ↓gi_m2_3, mg_isText, mg_isSheet, mg_isTwo, mg_isYear, mg_isUnit, mg_isAnyVoter, xg_isText, xg_isYear, xg_isUnit, xg_isPerson, xg_isSheet, xg_isForm, xg_isTown, xg_isKind, within_n, i_0_1, i_0_2, i_0_3, i_0_5, i_0_7, i_0_9, i_0_255, i_0_999, i_1_9, i_1_99, i_0_4095, i_m2_3, x_isOnRoll K.xr, show w ≤ V - 1 by omega, c2]
            rw [show nI 0 = iI 0 from rfl, iIf_le (by decide) (by decide) (by rw [ho]; split <;> omega) (by rw [ho]; split <;> omega), iI_sub, ho]
            by_cases e : b 1 (4 * w + 1) = 43
            · rw [if_pos e, if_pos (by omega), iI_n]
            · rw [if_neg e, if_neg (by omega), ← iI_n]
              congr 3
              omega
          · unfold f_X9_voter
            rw [y1, pv_cal_some]
            simp (disch := omega) only [↓pv_nm_eq, ↓pv_jn_eq, ↓reduceIte, pv_nm_eq, pv_jn_eq, pv_cap_some, pv_cal_some, pv_ck_true, lit_eq, pk_mul, nI_add, sbn, eqn, len', ltn, if_true, if_false, ite_true, ite_false, eq_self, u_s, u_e, u_k, u_j, Nat.zero_le, Nat.one_ne_zero, Nat.reduceEqDiff, Nat.reduceLT, Nat.reduceLeDiff, Nat.reduceAdd, Nat.reduceMul, Nat.reduceSub, and_self, and_true, true_and, ite_self, ld_204, st_204, ↓gcm_isText, ↓gcm_isSheet, ↓gcm_isTwo, ↓gcm_isYear, ↓gcm_isUnit, ↓gcm_isAnyVoter, ↓gcx_isText, ↓gcx_isYear, ↓gcx_isUnit, ↓gcx_isPerson, ↓gcx_isSheet, ↓gcx_isForm, ↓gcx_isTown, ↓gcx_isKind, ↓gc_w, ↓gi_0_1, ↓gi_0_2, ↓gi_0_3, ↓gi_0_5, ↓gi_0_7, ↓gi_0_9, ↓gi_0_255, ↓gi_0_999, ↓gi_1_9, ↓gi_1_99, ↓gi_0_4095, ↓gi_m2_3, mg_isText, mg_isSheet, mg_isTwo, mg_isYear, mg_isUnit, mg_isAnyVoter, xg_isText, xg_isYear, xg_isUnit, xg_isPerson, xg_isSheet, xg_isForm, xg_isTown, xg_isKind, within_n, i_0_1, i_0_2, i_0_3, i_0_5, i_0_7, i_0_9, i_0_255, i_0_999, i_1_9, i_1_99, i_0_4095, i_m2_3, m_isVoter y4, show w ≤ V - 1 by omega, t2]
        · refine ⟨-2, M1, M2, ?_, ?_, hfin⟩
          · unfold f_X8_voter
            rw [e1, pv_cal_some]
            simp (disch := omega) only [↓pv_nm_eq, ↓pv_jn_eq, ↓reduceIte, pv_nm_eq, pv_jn_eq, pv_cap_some, pv_cal_some, pv_ck_true, lit_eq, pk_mul, nI_add, sbn, eqn, len', ltn, if_true, if_false, ite_true, ite_false, eq_self, u_s, u_e, u_k, u_j, Nat.zero_le, Nat.one_ne_zero, Nat.reduceEqDiff, Nat.reduceLT, Nat.reduceLeDiff, Nat.reduceAdd, Nat.reduceMul, Nat.reduceSub, and_self, and_true, true_and, ite_self, ↓gcm_isText, ↓gcm_isSheet, ↓gcm_isTwo, ↓gcm_isYear, ↓gcm_isUnit, ↓gcm_isAnyVoter, ↓gcx_isText, ↓gcx_isYear, ↓gcx_isUnit, ↓gcx_isPerson, ↓gcx_isSheet, ↓gcx_isForm, ↓gcx_isTown, ↓gcx_isKind, ↓gc_w, ↓gi_0_1, ↓gi_0_2, ↓gi_0_3, ↓gi_0_5, ↓gi_0_7, ↓gi_0_9, ↓gi_0_255, ↓gi_0_999, ↓gi_1_9, ↓gi_1_99, ↓gi_0_4095, ↓gi_m2_3, mg_isText, mg_isSheet, mg_isTwo, mg_isYear, mg_isUnit, mg_isAnyVoter, xg_isText, xg_isYear, xg_isUnit, xg_isPerson, xg_isSheet, xg_isForm, xg_isTown, xg_isKind, within_n, i_0_1, i_0_2, i_0_3, i_0_5, i_0_7, i_0_9, i_0_255, i_0_999, i_1_9, i_1_99, i_0_4095, i_m2_3, x_isOnRoll K.xr, show w ≤ V - 1 by omega, h0, h1, h2]
          · unfold f_X9_voter
            rw [y1, pv_cal_some]
            simp (disch := omega) only [↓pv_nm_eq, ↓pv_jn_eq, ↓reduceIte, pv_nm_eq, pv_jn_eq, pv_cap_some, pv_cal_some, pv_ck_true, lit_eq, pk_mul, nI_add, sbn, eqn, len', ltn, if_true, if_false, ite_true, ite_false, eq_self, u_s, u_e, u_k, u_j, Nat.zero_le, Nat.one_ne_zero, Nat.reduceEqDiff, Nat.reduceLT, Nat.reduceLeDiff, Nat.reduceAdd, Nat.reduceMul, Nat.reduceSub, and_self, and_true, true_and, ite_self, ↓gcm_isText, ↓gcm_isSheet, ↓gcm_isTwo, ↓gcm_isYear, ↓gcm_isUnit, ↓gcm_isAnyVoter, ↓gcx_isText, ↓gcx_isYear, ↓gcx_isUnit, ↓gcx_isPerson, ↓gcx_isSheet, ↓gcx_isForm, ↓gcx_isTown, ↓gcx_isKind, ↓gc_w, ↓gi_0_1, ↓gi_0_2, ↓gi_0_3, ↓gi_0_5, ↓gi_0_7, ↓gi_0_9, ↓gi_0_255, ↓gi_0_999, ↓gi_1_9, ↓gi_1_99, ↓gi_0_4095, ↓gi_m2_3, mg_isText, mg_isSheet, mg_isTwo, mg_isYear, mg_isUnit, mg_isAnyVoter, xg_isText, xg_isYear, xg_isUnit, xg_isPerson, xg_isSheet, xg_isForm, xg_isTown, xg_isKind, within_n, i_0_1, i_0_2, i_0_3, i_0_5, i_0_7, i_0_9, i_0_255, i_0_999, i_1_9, i_1_99, i_0_4095, i_m2_3, m_isVoter y4, show w ≤ V - 1 by omega, three_of h0 h1 h2]
  · refine ⟨-2, M1, M2, ?_, ?_, hfin⟩
    · unfold f_X8_voter
      rw [e1, pv_cal_some]
      simp (disch := omega) only [↓pv_nm_eq, ↓pv_jn_eq, ↓reduceIte, pv_nm_eq, pv_jn_eq, pv_cap_some, pv_cal_some, pv_ck_true, lit_eq, pk_mul, nI_add, sbn, eqn, len', ltn, if_true, if_false, ite_true, ite_false, eq_self, u_s, u_e, u_k, u_j, Nat.zero_le, Nat.one_ne_zero, Nat.reduceEqDiff, Nat.reduceLT, Nat.reduceLeDiff, Nat.reduceAdd, Nat.reduceMul, Nat.reduceSub, and_self, and_true, true_and, ite_self, ↓gcm_isText, ↓gcm_isSheet, ↓gcm_isTwo, ↓gcm_isYear, ↓gcm_isUnit, ↓gcm_isAnyVoter, ↓gcx_isText, ↓gcx_isYear, ↓gcx_isUnit, ↓gcx_isPerson, ↓gcx_isSheet, ↓gcx_isForm, ↓gcx_isTown, ↓gcx_isKind, ↓gc_w, ↓gi_0_1, ↓gi_0_2, ↓gi_0_3, ↓gi_0_5, ↓gi_0_7, ↓gi_0_9, ↓gi_0_255, ↓gi_0_999, ↓gi_1_9, ↓gi_1_99, ↓gi_0_4095, ↓gi_m2_3, mg_isText, mg_isSheet, mg_isTwo, mg_isYear, mg_isUnit, mg_isAnyVoter, xg_isText, xg_isYear, xg_isUnit, xg_isPerson, xg_isSheet, xg_isForm, xg_isTown, xg_isKind, within_n, i_0_1, i_0_2, i_0_3, i_0_5, i_0_7, i_0_9, i_0_255, i_0_999, i_1_9, i_1_99, i_0_4095, i_m2_3, x_isOnRoll K.xr, g1]
    · unfold f_X9_voter
      rw [y1, pv_cal_some]
      simp (disch := omega) only [↓pv_nm_eq, ↓pv_jn_eq, ↓reduceIte, pv_nm_eq, pv_jn_eq, pv_cap_some, pv_cal_some, pv_ck_true, lit_eq, pk_mul, nI_add, sbn, eqn, len', ltn, if_true, if_false, ite_true, ite_false, eq_self, u_s, u_e, u_k, u_j, Nat.zero_le, Nat.one_ne_zero, Nat.reduceEqDiff, Nat.reduceLT, Nat.reduceLeDiff, Nat.reduceAdd, Nat.reduceMul, Nat.reduceSub, and_self, and_true, true_and, ite_self, ↓gcm_isText, ↓gcm_isSheet, ↓gcm_isTwo, ↓gcm_isYear, ↓gcm_isUnit, ↓gcm_isAnyVoter, ↓gcx_isText, ↓gcx_isYear, ↓gcx_isUnit, ↓gcx_isPerson, ↓gcx_isSheet, ↓gcx_isForm, ↓gcx_isTown, ↓gcx_isKind, ↓gc_w, ↓gi_0_1, ↓gi_0_2, ↓gi_0_3, ↓gi_0_5, ↓gi_0_7, ↓gi_0_9, ↓gi_0_255, ↓gi_0_999, ↓gi_1_9, ↓gi_1_99, ↓gi_0_4095, ↓gi_m2_3, mg_isText, mg_isSheet, mg_isTwo, mg_isYear, mg_isUnit, mg_isAnyVoter, xg_isText, xg_isYear, xg_isUnit, xg_isPerson, xg_isSheet, xg_isForm, xg_isTown, xg_isKind, within_n, i_0_1, i_0_2, i_0_3, i_0_5, i_0_7, i_0_9, i_0_255, i_0_999, i_1_9, i_1_99, i_0_4095, i_m2_3, m_isVoter y4, g1]
end K
