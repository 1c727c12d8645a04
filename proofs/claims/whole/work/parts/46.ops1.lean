theorem x_textOf {t : Nat} (h : t < 3) (M : pv_M) : f_X8_textOf (nI t) M = some (2 * t + 1) := by
  unfold f_X8_textOf
  rcases (show t = 0 ∨ t = 1 ∨ t = 2 by omega) with rfl | rfl | rfl <;> rfl
theorem bit1 {c : Prop} {inst : Decidable c} (h : c) {ρ : Type} (x y : ρ) : (if (@ite Int32 c inst 1 0) = 0 then x else y) = y := by
  rw [if_pos h, if_neg (by decide)]
theorem bit0 {c : Prop} {inst : Decidable c} (h : ¬ c) {ρ : Type} (x y : ρ) : (if (@ite Int32 c inst 1 0) = 0 then x else y) = x := by
  rw [if_neg h, if_pos rfl]
/-- one text is changed -/
theorem I1.set {M : pv_M} {n : Nat → Nat} {b : Nat → Nat → Nat} {t m : Nat} {f : Nat → Nat} (h : I1 M n b) (ht : t < 3) {M' : pv_M} (h1 : txM M' t m f) (h2 : txX M' t m f) (ho : ∀ u, u < 3 → u ≠ t → (∀ j, M'.1 202 u = M.1 202 u ∧ M'.1 (2 * u + 1) j = M.1 (2 * u + 1) j ∧ M'.1 (2 * u + 2) j = M.1 (2 * u + 2) j) ∧ ∀ i, i < 31 → M'.1 201 (40 * u + i) = M.1 201 (40 * u + i)) : I1 M' (fun u => if u = t then m else n u) (fun u => if u = t then f else b u) := by
  intro u hu
  dsimp only
  by_cases e : u = t
  · subst e
    rw [if_pos rfl, if_pos rfl]
    exact ⟨h1, h2⟩
  · rw [if_neg e, if_neg e]
    obtain ⟨⟨a1, a2, a3⟩, x1, x2, x3⟩ := h u hu
    obtain ⟨o1, o2⟩ := ho u hu e
    have hc := tcap_le u
    exact ⟨⟨a1, by rw [(o1 0).1]; exact a2, fun i hi => ⟨(a3 i hi).1, by rw [o2 i (by omega)]; exact (a3 i hi).2⟩⟩, by rw [(o1 0).2.1]; exact x1, by rw [(o1 2).2.1]; exact x2, fun i hi => by rw [(o1 i).2.2]; exact x3 i hi⟩
theorem op_wipe (RI : pv_RI) (CA : pv_CA) (a : Int32) : OP RI CA (f_X8_wipe a) (f_X9_wipe a) := by
  intro c M hc hI
  by_cases h : 0 ≤ a ∧ a ≤ nI 2
  · obtain ⟨t, ht, rfl⟩ := (rng_iff a 2 (by decide)).mp h
    have ht3 : t < 3 := by omega
    obtain ⟨n, b, cn, cf, kn, kf, bn, bf, l, d, pu, ra, rb, h1, h2, h3, h4, h5, h6, h7, h8, h9⟩ := hI
    have hx : f_X8_wipe (nI t) M = some (nI (n t), (pv_u (pv_u M.1 (2 * t + 1) 2 0) 0 19 1, M.2)) := by
      unfold f_X8_wipe
      rw [x_isText, pv_cap_some, bit1 h, x_textOf ht3, pv_cap_some, isT_tx ht3, pv_ck_true]
      simp only [pv_nm_eq]
      rw [(h1 t ht3).2.2.1]
    have hy : ∀ M1 : pv_M, M1.1 202 t = nI (n t) → f_X9_wipe (nI t) M1 = some (nI (n t), (pv_u M1.1 202 t 0, M1.2)) := by
      intro M1 e
      unfold f_X9_wipe
      rw [m_isText, pv_cap_some, bit1 h, ldI_n sa_202 ht3, stI_n sa_202 ht3, e]
    refine ⟨_, _, _, hx, hy _ (by (try simp only [fst_u, u_if, and_self, if_true, if_false, false_and, and_false, true_and, and_true]) <;> (repeat first | rw [if_neg (by omega)] | rw [if_pos (by omega)]); exact (h1 t ht3).1.2.1), ?_⟩
    refine ⟨_, _, cn, cf, kn, kf, bn, bf, l, d, pu, ra, rb, h1.set (t := t) (m := 0) (f := b t) ht3 ?_ ?_ ?_, ((h2.u (by omega)).u (by omega)).u (by omega), ((h3.u (by omega)).u (by omega)).u (by omega), ((h4.u (by omega)).u (by omega)).u (by omega), ((h5.u (by omega)).u (by omega)).u (by omega), ((h6.u (by omega)).u (by omega)).u (by omega), ((h7.u (by omega)).u (by omega)).u (by omega), ((h8.u (by omega)).u (by omega)).u (by omega), ?_⟩
    · exact ⟨Nat.zero_le _, by rw [fst_u, if_pos ⟨rfl, rfl⟩]; rfl, fun i hi => absurd hi (Nat.not_lt_zero _)⟩
    · refine ⟨?_, ?_, fun i hi => absurd hi (Nat.not_lt_zero _)⟩
      · (try simp only [fst_u, u_if, and_self, if_true, if_false, false_and, and_false, true_and, and_true]) <;> (repeat first | rw [if_neg (by omega)] | rw [if_pos (by omega)])
        exact (h1 t ht3).2.1
      · (try simp only [fst_u, u_if, and_self, if_true, if_false, false_and, and_false, true_and, and_true]) <;> (repeat first | rw [if_neg (by omega)] | rw [if_pos (by omega)])
        rfl
    · intro u hu hne
      refine ⟨fun j => ⟨?_, ?_, ?_⟩, fun i hi => ?_⟩
      all_goals (try simp only [fst_u, u_if, and_self, if_true, if_false, false_and, and_false, true_and, and_true]) <;> (repeat first | rw [if_neg (by omega)] | rw [if_pos (by omega)])
    · exact ((((h9.u (k := 2 * t + 1) (j := 2) (v := 0) (by omega)).stale).u (by omega))).more
  · have hx : f_X8_wipe a M = some ((-2), M) := by
      unfold f_X8_wipe
      rw [x_isText, pv_cap_some, bit0 h]
    have hy : f_X9_wipe a M = some ((-2), M) := by
      unfold f_X9_wipe
      rw [m_isText, pv_cap_some, bit0 h]
    exact ⟨_, _, _, hx, hy, hI.more⟩
theorem op_undo (RI : pv_RI) (CA : pv_CA) (a : Int32) : OP RI CA (f_X8_undo a) (f_X9_undo a) := by
  intro c M hc hI
  by_cases h : 0 ≤ a ∧ a ≤ nI 2
  · obtain ⟨t, ht, rfl⟩ := (rng_iff a 2 (by decide)).mp h
    have ht3 : t < 3 := by omega
    have hI0 := hI
    obtain ⟨n, b, cn, cf, kn, kf, bn, bf, l, d, pu, ra, rb, h1, h2, h3, h4, h5, h6, h7, h8, h9⟩ := hI
    have hcap := tcap_le t
    have hn := (h1 t ht3).1.1
    by_cases h0 : n t = 0
    · have hx : f_X8_undo (nI t) M = some ((-3), M) := by
        unfold f_X8_undo
        rw [x_isText, pv_cap_some, bit1 h, x_textOf ht3, pv_cap_some, isT_tx ht3, pv_ck_true]
        simp only [pv_nm_eq]
        rw [(h1 t ht3).2.2.1, h0, if_neg (by decide)]
      have hy : f_X9_undo (nI t) M = some ((-3), M) := by
        unfold f_X9_undo
        rw [m_isText, pv_cap_some, bit1 h, ldI_n sa_202 ht3, (h1 t ht3).1.2.1, h0, if_pos (by decide)]
      exact ⟨_, _, _, hx, hy, hI0.more⟩
    · have hx : f_X8_undo (nI t) M = some (nI (n t - 1), (pv_u (pv_u M.1 (2 * t + 1) 2 (nI (n t - 1))) 0 19 1, M.2)) := by
        unfold f_X8_undo
        rw [x_isText, pv_cap_some, bit1 h, x_textOf ht3, pv_cap_some, isT_tx ht3, pv_ck_true]
        simp only [pv_nm_eq]
        rw [(h1 t ht3).2.2.1, if_pos (by exact nI_lt (a := 0) (by omega) (by omega)), show (1 : Int32) = nI 1 from rfl, pk_sub (by omega), u_if, if_neg (by omega), u_if, if_pos ⟨rfl, rfl⟩]
      have hy : ∀ M1 : pv_M, M1.1 202 t = nI (n t) → f_X9_undo (nI t) M1 = some (nI (n t - 1), (pv_u M1.1 202 t (nI (n t - 1)), M1.2)) := by
        intro M1 e
        unfold f_X9_undo
        rw [m_isText, pv_cap_some, bit1 h, ldI_n sa_202 ht3, e, if_neg (nI_ne0 (by omega) (by omega)), ldI_n sa_202 ht3, e, show (1 : Int32) = nI 1 from rfl, pk_sub (by omega), stI_n sa_202 ht3, ldI_n sa_202 ht3, fst_u, if_pos ⟨rfl, rfl⟩]
      refine ⟨_, _, _, hx, hy _ (by (try simp only [fst_u, u_if, and_self, if_true, if_false, false_and, and_false, true_and, and_true]) <;> (repeat first | rw [if_neg (by omega)] | rw [if_pos (by omega)]); exact (h1 t ht3).1.2.1), ?_⟩
      refine ⟨_, _, cn, cf, kn, kf, bn, bf, l, d, pu, ra, rb, h1.set (t := t) (m := n t - 1) (f := b t) ht3 ?_ ?_ ?_, ((h2.u (by omega)).u (by omega)).u (by omega), ((h3.u (by omega)).u (by omega)).u (by omega), ((h4.u (by omega)).u (by omega)).u (by omega), ((h5.u (by omega)).u (by omega)).u (by omega), ((h6.u (by omega)).u (by omega)).u (by omega), ((h7.u (by omega)).u (by omega)).u (by omega), ((h8.u (by omega)).u (by omega)).u (by omega), ?_⟩
      · refine ⟨by omega, by rw [fst_u, if_pos ⟨rfl, rfl⟩], fun i hi => ⟨((h1 t ht3).1.2.2 i (by omega)).1, ?_⟩⟩
        (try simp only [fst_u, u_if, and_self, if_true, if_false, false_and, and_false, true_and, and_true]) <;> (repeat first | rw [if_neg (by omega)] | rw [if_pos (by omega)])
        exact ((h1 t ht3).1.2.2 i (by omega)).2
      · refine ⟨?_, ?_, fun i hi => ?_⟩
        · (try simp only [fst_u, u_if, and_self, if_true, if_false, false_and, and_false, true_and, and_true]) <;> (repeat first | rw [if_neg (by omega)] | rw [if_pos (by omega)])
          exact (h1 t ht3).2.1
        · (try simp only [fst_u, u_if, and_self, if_true, if_false, false_and, and_false, true_and, and_true]) <;> (repeat first | rw [if_neg (by omega)] | rw [if_pos (by omega)])
        · (try simp only [fst_u, u_if, and_self, if_true, if_false, false_and, and_false, true_and, and_true]) <;> (repeat first | rw [if_neg (by omega)] | rw [if_pos (by omega)])
          exact (h1 t ht3).2.2.2 i (by omega)
      · intro u hu hne
        refine ⟨fun j => ⟨?_, ?_, ?_⟩, fun i hi => ?_⟩
        all_goals (try simp only [fst_u, u_if, and_self, if_true, if_false, false_and, and_false, true_and, and_true]) <;> (repeat first | rw [if_neg (by omega)] | rw [if_pos (by omega)])
      · exact ((((h9.u (k := 2 * t + 1) (j := 2) (by omega)).stale).u (by omega))).more
  · have hx : f_X8_undo a M = some ((-2), M) := by
      unfold f_X8_undo
      rw [x_isText, pv_cap_some, bit0 h]
    have hy : f_X9_undo a M = some ((-2), M) := by
      unfold f_X9_undo
      rw [m_isText, pv_cap_some, bit0 h]
    exact ⟨_, _, _, hx, hy, hI.more⟩
theorem x_full {M : pv_M} {t n : Nat} (ht : t < 3) (hs : M.1 (2 * t + 1) 2 = nI n) (hn : n ≤ tcap t) : f_X5_isFull (2 * t + 1) M = some (if n < tcap t then 0 else 1) := by
  have hc := tcap_le t
  unfold f_X5_isFull
  rw [isT_tx ht, pv_ck_true, pv_nm_eq, hs, show 2 * t + 1 + 1 = 2 * t + 2 by omega, len_n (sa_tx ht), ite_lt (by omega) (by omega)]
  by_cases h : n < tcap t
  · rw [if_pos h, if_pos h]
  · rw [if_neg h, if_neg h]
theorem m_cap {t : Nat} (ht : t < 3) {ρ : Type} (j : Int32 → ρ) : (if nI t = 0 then j 15 else j 31) = j (nI (tcap t)) := by
  rw [ite_eq0 (by omega)]
  unfold tcap
  by_cases h : t = 0
  · rw [if_pos h, if_pos h]; rfl
  · rw [if_neg h, if_neg h]; rfl
theorem op_type (RI : pv_RI) (CA : pv_CA) (a x : Int32) : OP RI CA (f_X8_type a x) (f_X9_type a x) := by
  intro c M hc hI
  by_cases g1 : nI 0 ≤ a ∧ a ≤ nI 2
  · by_cases g2 : nI 0 ≤ x ∧ x ≤ nI 255
    · obtain ⟨t, ht, rfl⟩ := rng (by decide) g1
      obtain ⟨q, hq, rfl⟩ := rng (by decide) g2
      have ht3 : t < 3 := by omega
      have hI0 := hI
      obtain ⟨n, b, cn, cf, kn, kf, bn, bf, l, d, pu, ra, rb, h1, h2, h3, h4, h5, h6, h7, h8, h9⟩ := hI
      have hcap := tcap_le t
      have hn := (h1 t ht3).1.1
      have hsz := (h1 t ht3).2.2.1
      have hty := (h1 t ht3).1.2.1
      by_cases hf : n t < tcap t
      · have ha : f_X5_append (2 * t + 1) (nI q) M = some ((), (pv_u (pv_u M.1 (2 * t + 2) (n t) (nI q)) (2 * t + 1) 2 (nI (n t + 1)), M.2)) := by
          unfold f_X5_append
          rw [isT_tx ht3, pv_ck_true, x_full ht3 hsz hn, pv_cap_some, if_pos hf, if_pos rfl, pv_nm_eq, hsz, show 2 * t + 1 + 1 = 2 * t + 2 by omega, stI_n (sa_tx ht3) hf]
          simp (disch := omega) only [↓pv_nm_eq, ↓pv_jn_eq, ↓reduceIte, pv_nm_eq, pv_jn_eq, pv_cap_some, pv_cal_some, pv_ck_true, lit_eq, pk_mul, nI_add, sbn, eqn, len', ltn, if_true, if_false, ite_true, ite_false, eq_self, u_s, u_e, u_k, u_j, Nat.zero_le, Nat.one_ne_zero, Nat.reduceEqDiff, Nat.reduceLT, Nat.reduceLeDiff, Nat.reduceAdd, Nat.reduceMul, Nat.reduceSub, and_self, and_true, true_and, ite_self, hsz]
        have hx : f_X8_type (nI t) (nI q) M = some (nI (n t + 1), (pv_u (pv_u (pv_u M.1 (2 * t + 2) (n t) (nI q)) (2 * t + 1) 2 (nI (n t + 1))) 0 19 1, M.2)) := by
          unfold f_X8_type
          simp (disch := omega) only [↓pv_nm_eq, ↓pv_jn_eq, ↓reduceIte, pv_nm_eq, pv_jn_eq, pv_cap_some, pv_cal_some, pv_ck_true, lit_eq, pk_mul, nI_add, sbn, eqn, len', ltn, if_true, if_false, ite_true, ite_false, eq_self, u_s, u_e, u_k, u_j, Nat.zero_le, Nat.one_ne_zero, Nat.reduceEqDiff, Nat.reduceLT, Nat.reduceLeDiff, Nat.reduceAdd, Nat.reduceMul, Nat.reduceSub, and_self, and_true, true_and, ite_self, ↓gcm_isText, ↓gcm_isSheet, ↓gcm_isTwo, ↓gcm_isYear, ↓gcm_isUnit, ↓gcm_isAnyVoter, ↓gcx_isText, ↓gcx_isYear, ↓gcx_isUnit, ↓gcx_isPerson, ↓gcx_isSheet, ↓gcx_isForm, ↓gcx_isTown, ↓gcx_isKind, ↓gc_w, ↓gi_0_1, ↓gi_0_2, ↓gi_0_3, ↓gi_0_5, ↓gi_0_7, ↓gi_0_9, ↓gi_0_255, ↓gi_0_999, ↓gi_1_9, ↓gi_1_99, ↓gi_0_4095, ↓gi_m2_3, mg_isText, mg_isSheet, mg_isTwo, mg_isYear, mg_isUnit, mg_isAnyVoter, xg_isText, xg_isYear, xg_isUnit, xg_isPerson, xg_isSheet, xg_isForm, xg_isTown, xg_isKind, within_n, i_0_1, i_0_2, i_0_3, i_0_5, i_0_7, i_0_9, i_0_255, i_0_999, i_1_9, i_1_99, i_0_4095, i_m2_3, ht, hq, x_textOf ht3, isT_tx ht3, x_full ht3 hsz hn, hf, ha]
        refine ⟨_, _, (pv_u (pv_u (pv_u (pv_u (pv_u M.1 (2 * t + 2) (n t) (nI q)) (2 * t + 1) 2 (nI (n t + 1))) 0 19 1) 201 (40 * t + n t) (nI q)) 202 t (nI (n t + 1)), M.2), hx, ?_, ?_⟩
        · have hne : ¬ n t = tcap t := by omega
          unfold f_X9_type
          by_cases h0 : t = 0
          · subst h0
            have : tcap 0 = 15 := rfl
            simp (disch := omega) only [↓pv_nm_eq, ↓pv_jn_eq, ↓reduceIte, pv_nm_eq, pv_jn_eq, pv_cap_some, pv_cal_some, pv_ck_true, lit_eq, pk_mul, nI_add, sbn, eqn, len', ltn, if_true, if_false, ite_true, ite_false, eq_self, u_s, u_e, u_k, u_j, Nat.zero_le, Nat.one_ne_zero, Nat.reduceEqDiff, Nat.reduceLT, Nat.reduceLeDiff, Nat.reduceAdd, Nat.reduceMul, Nat.reduceSub, and_self, and_true, true_and, ite_self, ld_202, st_202, ld_201, st_201, ↓gcm_isText, ↓gcm_isSheet, ↓gcm_isTwo, ↓gcm_isYear, ↓gcm_isUnit, ↓gcm_isAnyVoter, ↓gcx_isText, ↓gcx_isYear, ↓gcx_isUnit, ↓gcx_isPerson, ↓gcx_isSheet, ↓gcx_isForm, ↓gcx_isTown, ↓gcx_isKind, ↓gc_w, ↓gi_0_1, ↓gi_0_2, ↓gi_0_3, ↓gi_0_5, ↓gi_0_7, ↓gi_0_9, ↓gi_0_255, ↓gi_0_999, ↓gi_1_9, ↓gi_1_99, ↓gi_0_4095, ↓gi_m2_3, mg_isText, mg_isSheet, mg_isTwo, mg_isYear, mg_isUnit, mg_isAnyVoter, xg_isText, xg_isYear, xg_isUnit, xg_isPerson, xg_isSheet, xg_isForm, xg_isTown, xg_isKind, within_n, i_0_1, i_0_2, i_0_3, i_0_5, i_0_7, i_0_9, i_0_255, i_0_999, i_1_9, i_1_99, i_0_4095, i_m2_3, hq, hty, show ¬ n 0 = 15 by omega]
          · have : tcap t = 31 := if_neg h0
            simp (disch := omega) only [↓pv_nm_eq, ↓pv_jn_eq, ↓reduceIte, pv_nm_eq, pv_jn_eq, pv_cap_some, pv_cal_some, pv_ck_true, lit_eq, pk_mul, nI_add, sbn, eqn, len', ltn, if_true, if_false, ite_true, ite_false, eq_self, u_s, u_e, u_k, u_j, Nat.zero_le, Nat.one_ne_zero, Nat.reduceEqDiff, Nat.reduceLT, Nat.reduceLeDiff, Nat.reduceAdd, Nat.reduceMul, Nat.reduceSub, and_self, and_true, true_and, ite_self, ld_202, st_202, ld_201, st_201, ↓gcm_isText, ↓gcm_isSheet, ↓gcm_isTwo, ↓gcm_isYear, ↓gcm_isUnit, ↓gcm_isAnyVoter, ↓gcx_isText, ↓gcx_isYear, ↓gcx_isUnit, ↓gcx_isPerson, ↓gcx_isSheet, ↓gcx_isForm, ↓gcx_isTown, ↓gcx_isKind, ↓gc_w, ↓gi_0_1, ↓gi_0_2, ↓gi_0_3, ↓gi_0_5, ↓gi_0_7, ↓gi_0_9, ↓gi_0_255, ↓gi_0_999, ↓gi_1_9, ↓gi_1_99, ↓gi_0_4095, ↓gi_m2_3, mg_isText, mg_isSheet, mg_isTwo, mg_isYear, mg_isUnit, mg_isAnyVoter, xg_isText, xg_isYear, xg_isUnit, xg_isPerson, xg_isSheet, xg_isForm, xg_isTown, xg_isKind, within_n, i_0_1, i_0_2, i_0_3, i_0_5, i_0_7, i_0_9, i_0_255, i_0_999, i_1_9, i_1_99, i_0_4095, i_m2_3, ht, hq, hty, h0, show ¬ n t = 31 by omega]
        refine ⟨_, _, cn, cf, kn, kf, bn, bf, l, d, pu, ra, rb, h1.set (t := t) (m := n t + 1) (f := fun i => if i = n t then q else b t i) ht3 ?_ ?_ ?_, (by repeat first | exact h2 | refine I2.w ?_ (by omega)), (by repeat first | exact h3 | refine I3.w ?_ (by omega)), (by repeat first | exact h4 | refine I4.w ?_ (by omega)), (by repeat first | exact h5 | refine I5.w ?_ (by omega)), (by repeat first | exact h6 | refine I6.w ?_ (by omega)), (by repeat first | exact h7 | refine I7.w ?_ (by omega)), (by repeat first | exact h8 | refine I8.w ?_ (by omega)), (by refine I9.more ?_; repeat first | exact h9 | refine I9.sw (n := n) (b := b) (cn := cn) (cf := cf) ?_ | refine I9.w ?_ (by omega))⟩
        · refine ⟨by omega, by (try simp only [fst_u, u_if, and_self, if_true, if_false, false_and, and_false, true_and, and_true]) <;> (repeat first | rw [if_neg (by omega)] | rw [if_pos (by omega)]), fun i hi => ?_⟩
          dsimp only
          by_cases e : i = n t
          · subst e
            refine ⟨by rw [if_pos rfl]; omega, ?_⟩
            (try simp only [fst_u, u_if, and_self, if_true, if_false, false_and, and_false, true_and, and_true]) <;> (repeat first | rw [if_neg (by omega)] | rw [if_pos (by omega)])
          · refine ⟨by rw [if_neg e]; exact ((h1 t ht3).1.2.2 i (by omega)).1, ?_⟩
            rw [if_neg e]
            (try simp only [fst_u, u_if, and_self, if_true, if_false, false_and, and_false, true_and, and_true]) <;> (repeat first | rw [if_neg (by omega)] | rw [if_pos (by omega)])
            exact ((h1 t ht3).1.2.2 i (by omega)).2
        · refine ⟨?_, by (try simp only [fst_u, u_if, and_self, if_true, if_false, false_and, and_false, true_and, and_true]) <;> (repeat first | rw [if_neg (by omega)] | rw [if_pos (by omega)]), fun i hi => ?_⟩
          · (try simp only [fst_u, u_if, and_self, if_true, if_false, false_and, and_false, true_and, and_true]) <;> (repeat first | rw [if_neg (by omega)] | rw [if_pos (by omega)])
            exact (h1 t ht3).2.1
          · by_cases e : i = n t
            · subst e
              (try simp only [fst_u, u_if, and_self, if_true, if_false, false_and, and_false, true_and, and_true]) <;> (repeat first | rw [if_neg (by omega)] | rw [if_pos (by omega)])
            · dsimp only
              rw [if_neg e]
              (try simp only [fst_u, u_if, and_self, if_true, if_false, false_and, and_false, true_and, and_true]) <;> (repeat first | rw [if_neg (by omega)] | rw [if_pos (by omega)])
              exact (h1 t ht3).2.2.2 i (by omega)
        · intro u hu hne
          refine ⟨fun j => ⟨?_, ?_, ?_⟩, fun i hi => ?_⟩
          all_goals (try simp only [fst_u, u_if, and_self, if_true, if_false, false_and, and_false, true_and, and_true]) <;> (repeat first | rw [if_neg (by omega)] | rw [if_pos (by omega)])
      · have hnt : n t = tcap t := by omega
        refine ⟨-4, M, M, ?_, ?_, hI0.more⟩
        · unfold f_X8_type
          simp (disch := omega) only [↓pv_nm_eq, ↓pv_jn_eq, ↓reduceIte, pv_nm_eq, pv_jn_eq, pv_cap_some, pv_cal_some, pv_ck_true, lit_eq, pk_mul, nI_add, sbn, eqn, len', ltn, if_true, if_false, ite_true, ite_false, eq_self, u_s, u_e, u_k, u_j, Nat.zero_le, Nat.one_ne_zero, Nat.reduceEqDiff, Nat.reduceLT, Nat.reduceLeDiff, Nat.reduceAdd, Nat.reduceMul, Nat.reduceSub, and_self, and_true, true_and, ite_self, ↓gcm_isText, ↓gcm_isSheet, ↓gcm_isTwo, ↓gcm_isYear, ↓gcm_isUnit, ↓gcm_isAnyVoter, ↓gcx_isText, ↓gcx_isYear, ↓gcx_isUnit, ↓gcx_isPerson, ↓gcx_isSheet, ↓gcx_isForm, ↓gcx_isTown, ↓gcx_isKind, ↓gc_w, ↓gi_0_1, ↓gi_0_2, ↓gi_0_3, ↓gi_0_5, ↓gi_0_7, ↓gi_0_9, ↓gi_0_255, ↓gi_0_999, ↓gi_1_9, ↓gi_1_99, ↓gi_0_4095, ↓gi_m2_3, mg_isText, mg_isSheet, mg_isTwo, mg_isYear, mg_isUnit, mg_isAnyVoter, xg_isText, xg_isYear, xg_isUnit, xg_isPerson, xg_isSheet, xg_isForm, xg_isTown, xg_isKind, within_n, i_0_1, i_0_2, i_0_3, i_0_5, i_0_7, i_0_9, i_0_255, i_0_999, i_1_9, i_1_99, i_0_4095, i_m2_3, ht, hq, x_textOf ht3, isT_tx ht3, x_full ht3 hsz hn, hf]
        · unfold f_X9_type
          by_cases h0 : t = 0
          · subst h0
            simp (disch := omega) only [↓pv_nm_eq, ↓pv_jn_eq, ↓reduceIte, pv_nm_eq, pv_jn_eq, pv_cap_some, pv_cal_some, pv_ck_true, lit_eq, pk_mul, nI_add, sbn, eqn, len', ltn, if_true, if_false, ite_true, ite_false, eq_self, u_s, u_e, u_k, u_j, Nat.zero_le, Nat.one_ne_zero, Nat.reduceEqDiff, Nat.reduceLT, Nat.reduceLeDiff, Nat.reduceAdd, Nat.reduceMul, Nat.reduceSub, and_self, and_true, true_and, ite_self, ld_202, st_202, ld_201, st_201, ↓gcm_isText, ↓gcm_isSheet, ↓gcm_isTwo, ↓gcm_isYear, ↓gcm_isUnit, ↓gcm_isAnyVoter, ↓gcx_isText, ↓gcx_isYear, ↓gcx_isUnit, ↓gcx_isPerson, ↓gcx_isSheet, ↓gcx_isForm, ↓gcx_isTown, ↓gcx_isKind, ↓gc_w, ↓gi_0_1, ↓gi_0_2, ↓gi_0_3, ↓gi_0_5, ↓gi_0_7, ↓gi_0_9, ↓gi_0_255, ↓gi_0_999, ↓gi_1_9, ↓gi_1_99, ↓gi_0_4095, ↓gi_m2_3, mg_isText, mg_isSheet, mg_isTwo, mg_isYear, mg_isUnit, mg_isAnyVoter, xg_isText, xg_isYear, xg_isUnit, xg_isPerson, xg_isSheet, xg_isForm, xg_isTown, xg_isKind, within_n, i_0_1, i_0_2, i_0_3, i_0_5, i_0_7, i_0_9, i_0_255, i_0_999, i_1_9, i_1_99, i_0_4095, i_m2_3, hq, hty, show n 0 = 15 from hnt]
          · have : tcap t = 31 := if_neg h0
            simp (disch := omega) only [↓pv_nm_eq, ↓pv_jn_eq, ↓reduceIte, pv_nm_eq, pv_jn_eq, pv_cap_some, pv_cal_some, pv_ck_true, lit_eq, pk_mul, nI_add, sbn, eqn, len', ltn, if_true, if_false, ite_true, ite_false, eq_self, u_s, u_e, u_k, u_j, Nat.zero_le, Nat.one_ne_zero, Nat.reduceEqDiff, Nat.reduceLT, Nat.reduceLeDiff, Nat.reduceAdd, Nat.reduceMul, Nat.reduceSub, and_self, and_true, true_and, ite_self, ld_202, st_202, ld_201, st_201, ↓gcm_isText, ↓gcm_isSheet, ↓gcm_isTwo, ↓gcm_isYear, ↓gcm_isUnit, ↓gcm_isAnyVoter, ↓gcx_isText, ↓gcx_isYear, ↓gcx_isUnit, ↓gcx_isPerson, ↓gcx_isSheet, ↓gcx_isForm, ↓gcx_isTown, ↓gcx_isKind, ↓gc_w, ↓gi_0_1, ↓gi_0_2, ↓gi_0_3, ↓gi_0_5, ↓gi_0_7, ↓gi_0_9, ↓gi_0_255, ↓gi_0_999, ↓gi_1_9, ↓gi_1_99, ↓gi_0_4095, ↓gi_m2_3, mg_isText, mg_isSheet, mg_isTwo, mg_isYear, mg_isUnit, mg_isAnyVoter, xg_isText, xg_isYear, xg_isUnit, xg_isPerson, xg_isSheet, xg_isForm, xg_isTown, xg_isKind, within_n, i_0_1, i_0_2, i_0_3, i_0_5, i_0_7, i_0_9, i_0_255, i_0_999, i_1_9, i_1_99, i_0_4095, i_m2_3, ht, hq, hty, h0, show n t = 31 by omega]
    · refine ⟨-2, M, M, ?_, ?_, hI.more⟩
      · unfold f_X8_type
        simp (disch := omega) only [↓pv_nm_eq, ↓pv_jn_eq, ↓reduceIte, pv_nm_eq, pv_jn_eq, pv_cap_some, pv_cal_some, pv_ck_true, lit_eq, pk_mul, nI_add, sbn, eqn, len', ltn, if_true, if_false, ite_true, ite_false, eq_self, u_s, u_e, u_k, u_j, Nat.zero_le, Nat.one_ne_zero, Nat.reduceEqDiff, Nat.reduceLT, Nat.reduceLeDiff, Nat.reduceAdd, Nat.reduceMul, Nat.reduceSub, and_self, and_true, true_and, ite_self, ↓gcm_isText, ↓gcm_isSheet, ↓gcm_isTwo, ↓gcm_isYear, ↓gcm_isUnit, ↓gcm_isAnyVoter, ↓gcx_isText, ↓gcx_isYear, ↓gcx_isUnit, ↓gcx_isPerson, ↓gcx_isSheet, ↓gcx_isForm, ↓gcx_isTown, ↓gcx_isKind, ↓gc_w, ↓gi_0_1, ↓gi_0_2, ↓gi_0_3, ↓gi_0_5, ↓gi_0_7, ↓gi_0_9, ↓gi_0_255, ↓gi_0_999, ↓gi_1_9, ↓gi_1_99, ↓gi_0_4095, ↓gi_m2_3, mg_isText, mg_isSheet, mg_isTwo, mg_isYear, mg_isUnit, mg_isAnyVoter, xg_isText, xg_isYear, xg_isUnit, xg_isPerson, xg_isSheet, xg_isForm, xg_isTown, xg_isKind, within_n, i_0_1, i_0_2, i_0_3, i_0_5, i_0_7, i_0_9, i_0_255, i_0_999, i_1_9, i_1_99, i_0_4095, i_m2_3, g1, g2]
      · unfold f_X9_type
        simp (disch := omega) only [↓pv_nm_eq, ↓pv_jn_eq, ↓reduceIte, pv_nm_eq, pv_jn_eq, pv_cap_some, pv_cal_some, pv_ck_true, lit_eq, pk_mul, nI_add, sbn, eqn, len', ltn, if_true, if_false, ite_true, ite_false, eq_self, u_s, u_e, u_k, u_j, Nat.zero_le, Nat.one_ne_zero, Nat.reduceEqDiff, Nat.reduceLT, Nat.reduceLeDiff, Nat.reduceAdd, Nat.reduceMul, Nat.reduceSub, and_self, and_true, true_and, ite_self, ↓gcm_isText, ↓gcm_isSheet, ↓gcm_isTwo, ↓gcm_isYear, ↓gcm_isUnit, ↓gcm_isAnyVoter, ↓gcx_isText, ↓gcx_isYear, ↓gcx_isUnit, ↓gcx_isPerson, ↓gcx_isSheet, ↓gcx_isForm, ↓gcx_isTown, ↓gcx_isKind, ↓gc_w, ↓gi_0_1, ↓gi_0_2, ↓gi_0_3, ↓gi_0_5, ↓gi_0_7, ↓gi_0_9, ↓gi_0_255, ↓gi_0_999, ↓gi_1_9, ↓gi_1_99, ↓gi_0_4095, ↓gi_m2_3, mg_isText, mg_isSheet, mg_isTwo, mg_isYear, mg_isUnit, mg_isAnyVoter, xg_isText, xg_isYear, xg_isUnit, xg_isPerson, xg_isSheet, xg_isForm, xg_isTown, xg_isKind, within_n, i_0_1, i_0_2, i_0_3, i_0_5, i_0_7, i_0_9, i_0_255, i_0_999, i_1_9, i_1_99, i_0_4095, i_m2_3, g1, g2]
  · refine ⟨-2, M, M, ?_, ?_, hI.more⟩
    · unfold f_X8_type
      simp (disch := omega) only [↓pv_nm_eq, ↓pv_jn_eq, ↓reduceIte, pv_nm_eq, pv_jn_eq, pv_cap_some, pv_cal_some, pv_ck_true, lit_eq, pk_mul, nI_add, sbn, eqn, len', ltn, if_true, if_false, ite_true, ite_false, eq_self, u_s, u_e, u_k, u_j, Nat.zero_le, Nat.one_ne_zero, Nat.reduceEqDiff, Nat.reduceLT, Nat.reduceLeDiff, Nat.reduceAdd, Nat.reduceMul, Nat.reduceSub, and_self, and_true, true_and, ite_self, ↓gcm_isText, ↓gcm_isSheet, ↓gcm_isTwo, ↓gcm_isYear, ↓gcm_isUnit, ↓gcm_isAnyVoter, ↓gcx_isText, ↓gcx_isYear, ↓gcx_isUnit, ↓gcx_isPerson, ↓gcx_isSheet, ↓gcx_isForm, ↓gcx_isTown, ↓gcx_isKind, ↓gc_w, ↓gi_0_1, ↓gi_0_2, ↓gi_0_3, ↓gi_0_5, ↓gi_0_7, ↓gi_0_9, ↓gi_0_255, ↓gi_0_999, ↓gi_1_9, ↓gi_1_99, ↓gi_0_4095, ↓gi_m2_3, mg_isText, mg_isSheet, mg_isTwo, mg_isYear, mg_isUnit, mg_isAnyVoter, xg_isText, xg_isYear, xg_isUnit, xg_isPerson, xg_isSheet, xg_isForm, xg_isTown, xg_isKind, within_n, i_0_1, i_0_2, i_0_3, i_0_5, i_0_7, i_0_9, i_0_255, i_0_999, i_1_9, i_1_99, i_0_4095, i_m2_3, g1]
    · unfold f_X9_type
      simp (disch := omega) only [↓pv_nm_eq, ↓pv_jn_eq, ↓reduceIte, pv_nm_eq, pv_jn_eq, pv_cap_some, pv_cal_some, pv_ck_true, lit_eq, pk_mul, nI_add, sbn, eqn, len', ltn, if_true, if_false, ite_true, ite_false, eq_self, u_s, u_e, u_k, u_j, Nat.zero_le, Nat.one_ne_zero, Nat.reduceEqDiff, Nat.reduceLT, Nat.reduceLeDiff, Nat.reduceAdd, Nat.reduceMul, Nat.reduceSub, and_self, and_true, true_and, ite_self, ↓gcm_isText, ↓gcm_isSheet, ↓gcm_isTwo, ↓gcm_isYear, ↓gcm_isUnit, ↓gcm_isAnyVoter, ↓gcx_isText, ↓gcx_isYear, ↓gcx_isUnit, ↓gcx_isPerson, ↓gcx_isSheet, ↓gcx_isForm, ↓gcx_isTown, ↓gcx_isKind, ↓gc_w, ↓gi_0_1, ↓gi_0_2, ↓gi_0_3, ↓gi_0_5, ↓gi_0_7, ↓gi_0_9, ↓gi_0_255, ↓gi_0_999, ↓gi_1_9, ↓gi_1_99, ↓gi_0_4095, ↓gi_m2_3, mg_isText, mg_isSheet, mg_isTwo, mg_isYear, mg_isUnit, mg_isAnyVoter, xg_isText, xg_isYear, xg_isUnit, xg_isPerson, xg_isSheet, xg_isForm, xg_isTown, xg_isKind, within_n, i_0_1, i_0_2, i_0_3, i_0_5, i_0_7, i_0_9, i_0_255, i_0_999, i_1_9, i_1_99, i_0_4095, i_m2_3, g1]
