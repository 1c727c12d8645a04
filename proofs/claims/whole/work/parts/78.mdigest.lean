def YS (c v : Nat) (M : pv_M) (n : Nat → Nat) (b : Nat → Nat → Nat) (cn : Nat) (cf : Nat → Nat → Nat) (kn : Nat) (kf : Nat → Nat → Nat) (bn : Nat) (bf : Nat → Nat → Nat) (l d : Nat) (pu ra rb : Nat → Nat) (P V : Nat) (T : Nat → Nat → Nat → Nat) (U : Nat → Nat) (H : Nat → Int) : Prop := KS BAo c v M n b cn cf kn kf bn bf l d pu ra rb P V T U H ∧ Told M n b ∧ MR M P V T U H ∧ Lv M P V T U H l
section MD
variable {BA : pv_BA} {c v : Nat} {M : pv_M} {n : Nat → Nat} {b : Nat → Nat → Nat} {cn : Nat} {cf : Nat → Nat → Nat} {kn : Nat} {kf : Nat → Nat → Nat} {bn : Nat} {bf : Nat → Nat → Nat} {l d : Nat} {pu ra rb : Nat → Nat} {P V : Nat} {T : Nat → Nat → Nat → Nat} {U : Nat → Nat} {H : Nat → Int}
theorem YS.step (Y : YS c v M n b cn cf kn kf bn bf l d pu ra rb P V T U H) {M' : pv_M} (hF : FrM M M') (hT : Told M' n b) (hL : ∀ a c, a = 208 ∨ a = 209 → M'.1 a c = M.1 a c) : YS c v M' n b cn cf kn kf bn bf l d pu ra rb P V T U H := by
  obtain ⟨K, t, m, L⟩ := Y
  exact ⟨K.frM BAo_ok hF, hT, K.mr hF hT, fun y u hy hu => (L y u hy hu).fr K.wf.1 (hL _ _ (Or.inl rfl)) (fun c _ _ => hL _ _ (Or.inr rfl))⟩
theorem YS.fr (Y : YS c v M n b cn cf kn kf bn bf l d pu ra rb P V T U H) {M' : pv_M} (hF : ∀ a c, ¬ (PM a c ∧ ¬ (a = 203 ∨ a = 204 ∨ a = 208 ∨ a = 209)) → M'.1 a c = M.1 a c) : YS c v M' n b cn cf kn kf bn bf l d pu ra rb P V T U H := Y.step (fun k j q => hF k j (fun z => q z.1)) (Y.2.1.fr (fun a c q => hF a c (by omega))) (fun a c q => hF a c (by omega))
theorem YS.gy (Y : YS c v M n b cn cf kn kf bn bf l d pu ra rb P V T U H) : GY M kn kf l d P V T U H := Y.1.gy FrM.rf Y.2.2.1 Y.2.2.2
theorem YS.reads (Y : YS c v M n b cn cf kn kf bn bf l d pu ra rb P V T U H) : ∃ M', f_X9_reads M = some ((), M') ∧ YS c v M' n b cn cf kn kf bn bf l d pu ra rb P V T U H ∧ FrR M M' := by
  obtain ⟨M', e1, e2, e3, e4⟩ := Y.1.readsT
  exact ⟨M', e1, Y.step e2.M e3 (fun a c q => e2 a c (by omega)), e2⟩
theorem KS.yn (K : KS BAo c v M n b cn cf kn kf bn bf l d pu ra rb P V T U H) : ∃ M', f_X9_livesNow M = some ((), M') ∧ YS c v M' n b cn cf kn kf bn bf l d pu ra rb P V T U H := by
  obtain ⟨M', e1, e2, e3, e4, e5⟩ := K.nowT
  exact ⟨M', e1, K.frM BAo_ok e2.M, e3, e4, e5⟩
/-- the end: ratios, towns, bills -/
theorem md_R (Y : YS c v M n b cn cf kn kf bn bf l d pu ra rb P V T U H) (h0 : Int64) : ∃ M', pv_lp3 (f_X9_digest_L394 f_X9_digest_J436) pv_FU h0 1 M = some (31 * DO ra rb (DR (n 2) (b 2) h0) + (nI (yrs bf (grt P V T U H l) bn 10)).toInt64, M') ∧ YS c v M' n b cn cf kn kf bn bf l d pu ra rb P V T U H := by
  obtain ⟨F, hF⟩ : ∃ F : Nat → Int64, F = foP (fun i => wrV (n 2) (b 2) 0 (i + 1) 0) (fun i => wrV (n 2) (b 2) 0 (i + 1) 1) h0 := ⟨_, rfl⟩
  have hFs : ∀ i, F (i + 1) = 31 * (31 * F i + wrV (n 2) (b 2) 0 (i + 1) 0) + wrV (n 2) (b 2) 0 (i + 1) 1 := fun i => by rw [hF]; rfl
  obtain ⟨h1, hh1⟩ : ∃ h1 : Int64, h1 = 31 * (31 * F 5 + (clV (n 2) (b 2)).toInt64) + (oldI (drO (n 2) (b 2) (2 ^ itm 2 (n 2) (b 2)))).toInt64 := ⟨_, rfl⟩
  have hD : DO ra rb (DR (n 2) (b 2) h0) = fo (fun j => (rdV ra rb j).toInt64) h1 5 := by rw [hh1, hF]; rfl
  rw [hD]
  refine for3b 6 (fun i (x : Int64) (S : pv_M) => 1 ≤ i ∧ x = F (i - 1) ∧ YS c v S n b cn cf kn kf bn bf l d pu ra rb P V T U H) (fun q => ∃ M' : pv_M, q = some (31 * fo (fun j => (rdV ra rb j).toInt64) h1 5 + (nI (yrs bf (grt P V T U H l) bn 10)).toInt64, M') ∧ YS c v M' n b cn cf kn kf bn bf l d pu ra rb P V T U H) ?_ ?_ pv_FU 1 h0 M (by decide) (by decide) ⟨Nat.le_refl _, by rw [hF]; rfl, Y⟩
  · rintro rec x S ⟨-, rfl, YS'⟩
    obtain ⟨M1, e1, e2, e3⟩ := m_clash YS'.1.1
    have Y1 : YS c v M1 n b cn cf kn kf bn bf l d pu ra rb P V T U H := YS'.step (fun k j q => e3 k j (fun z => q (by unfold PM; omega))) e2 (fun a c q => e3 a c (by omega))
    obtain ⟨M2, g1, g2⟩ := m_drop Y1.1.1 Y1.2.1
    have Y2 : YS c v M2 n b cn cf kn kf bn bf l d pu ra rb P V T U H := Y1.fr (fun a c q => g2 a c (fun z => q ⟨by unfold PM; omega, by omega⟩))
    obtain ⟨M3, k1, k2, k3⟩ := m_round Y2.1.2.2.2.2.2.2.1
    have Y3 : YS c v M3 n b cn cf kn kf bn bf l d pu ra rb P V T U H := Y2.fr (fun a c q => k3 a c (fun z => q ⟨by unfold PM; omega, by omega⟩))
    unfold f_X9_digest_L394
    rw [if_pos (by decide)]
    unfold f_X9_digest_J436
    rw [e1, pv_cal_some, pv_nm_eq, g1, pv_cal_some, pv_nm_eq, k1, pv_cal_some, pv_jn_eq, show (6 - 1 : Nat) = 5 from rfl, ← hh1]
    refine ⟨M3, ?_, Y3⟩
    refine for2g rdI 5 (fun j (x : Int64) => x = fo (fun j => (rdV ra rb j).toInt64) h1 j) (fun q => q = some (31 * fo (fun j => (rdV ra rb j).toInt64) h1 5 + (nI (yrs bf (grt P V T U H l) bn 10)).toInt64, M3)) ?_ ?_ pv_FU 0 h1 (by decide) (by decide) rfl
    · rintro rec2 x rfl
      unfold f_X9_digest_L467
      rw [if_pos (by decide)]
      dsimp only
      rw [m_years Y3.gy Y3.1.2.2.2.1, pv_cap_some]
    · rintro rec2 j x hj rfl hrec2
      unfold f_X9_digest_L467
      rw [if_neg ((show ∀ j, j < 5 → ¬ (3 : Int32) ≤ rdI j by decide +kernel) j hj), m_tellsR Y2.1.2.2.2.2.2.2.1.rag k2 (show j < 6 by omega), pv_cap_some, pv_nm_eq, rdI_s hj]
      exact hrec2 _ rfl
  · rintro rec i x S hi ⟨hi1, rfl, YS'⟩ hrec
    unfold f_X9_digest_L394
    rw [show (6 : Int32) = nI 6 from rfl, if_neg (nI_ge hi (by decide))]
    obtain ⟨i', rfl⟩ : ∃ i', i = i' + 1 := ⟨i - 1, by omega⟩
    rw [show i' + 1 - 1 = i' by omega]
    refine for3b 2 (fun k (x : Int64) (R : pv_M) => x = fo (fun k => wrV (n 2) (b 2) 0 (i' + 1) k) (F i') k ∧ YS c v R n b cn cf kn kf bn bf l d pu ra rb P V T U H) (fun q => ∃ M' : pv_M, q = some (31 * fo (fun j => (rdV ra rb j).toInt64) h1 5 + (nI (yrs bf (grt P V T U H l) bn 10)).toInt64, M') ∧ YS c v M' n b cn cf kn kf bn bf l d pu ra rb P V T U H) ?_ ?_ pv_FU 0 _ S (by decide) (by decide) ⟨rfl, YS'⟩
    · rintro rec2 x R ⟨rfl, Y2⟩
      unfold f_X9_digest_L403
      rw [if_pos (by decide), nI_1]
      exact hrec _ _ ⟨by omega, by rw [show i' + 1 + 1 - 1 = i' + 1 by omega, hFs]; rfl, Y2⟩
    · rintro rec2 k x R hk ⟨rfl, Y2⟩ hrec2
      obtain ⟨M1, e1, e2, e3⟩ := m_worth Y2.1.1 (x := 0) (y := i' + 1) (w := k) (by decide) hi (by omega) hk
      unfold f_X9_digest_L403
      rw [show (2 : Int32) = nI 2 from rfl, if_neg (nI_ge hk (by decide)), show f_X9_worth 0 (nI (i' + 1)) (nI k) R = _ from e1, pv_cal_some, pv_nm_eq, nI_1]
      exact hrec2 _ _ ⟨rfl, Y2.step (fun k j q => e3 k j (fun z => q (by unfold PM; omega))) e2 (fun a c q => e3 a c (by omega))⟩
theorem md_V (Y : YS c v M n b cn cf kn kf bn bf l d pu ra rb P V T U H) (h0 : Int64) : ∃ M', f_X9_digest_J316 M h0 = some (31 * DO ra rb (DR (n 2) (b 2) (DV P V T U H h0)) + (nI (yrs bf (grt P V T U H l) bn 10)).toInt64, M') ∧ YS c v M' n b cn cf kn kf bn bf l d pu ra rb P V T U H := by
  have hw := Y.1.wf
  have hw1 := hw.1
  obtain ⟨R1, r1, Y1, -⟩ := Y.reads
  obtain ⟨R2, s1, s2⟩ := ms_rest hw Y1.2.2.1 (row := 0) (by decide)
  have Y2 : YS c v R2 n b cn cf kn kf bn bf l d pu ra rb P V T U H := Y1.fr (fun a c q => s2 a c (fun z => q ⟨by unfold PM; omega, by omega⟩))
  obtain ⟨R3, t1, t2⟩ := m_rests hw Y2.2.2.1
  have Y3 : YS c v R3 n b cn cf kn kf bn bf l d pu ra rb P V T U H := Y2.fr (fun a c q => t2 a c (fun z => q ⟨by unfold PM; omega, by omega⟩))
  obtain ⟨h1, hh1⟩ : ∃ h1 : Int64, h1 = 31 * (31 * h0 + (rstV P V T U H 0).toInt64) + (nI (if P = 0 then 0 else rsts P V T U H)).toInt64 := ⟨_, rfl⟩
  have hD : DV P V T U H h0 = foP (fun p => (wnV P V T U H p 0).toInt64) (fun p => (wnV P V T U H p 1).toInt64) h1 P := by rw [hh1]; rfl
  have hrest : f_X9_rest 0 M = some (rstV P V T U H 0, R2) := by
    unfold f_X9_rest
    rw [r1, pv_cal_some, i_0_4095, pv_cap_some, bt1 (by decide), show f_X9_restOf 0 R1 = _ from s1, pv_cal_some]
  rw [hD]
  unfold f_X9_digest_J316
  rw [hrest, pv_cal_some, pv_nm_eq, t1, pv_cal_some, pv_nm_eq, ← hh1, pv_jn_eq]
  refine for3b P (fun p (x : Int64) (S : pv_M) => x = foP (fun p => (wnV P V T U H p 0).toInt64) (fun p => (wnV P V T U H p 1).toInt64) h1 p ∧ YS c v S n b cn cf kn kf bn bf l d pu ra rb P V T U H) (fun q => ∃ M' : pv_M, q = some (31 * DO ra rb (DR (n 2) (b 2) (foP (fun p => (wnV P V T U H p 0).toInt64) (fun p => (wnV P V T U H p 1).toInt64) h1 P)) + (nI (yrs bf (grt P V T U H l) bn 10)).toInt64, M') ∧ YS c v M' n b cn cf kn kf bn bf l d pu ra rb P V T U H) ?_ ?_ pv_FU 0 h1 R3 (Nat.zero_le _) (by show P - 0 < 5000; omega) ⟨rfl, Y3⟩
  · rintro rec x S ⟨rfl, YS'⟩
    unfold f_X9_digest_L343
    rw [show pv_ldI pv_T 203 0 S = fun f => pv_ldI pv_T 203 (nI 0) S f from rfl]
    dsimp only
    rw [ld_203 (by decide), (YS'.2.2.1 S SM.rf).1, if_pos (nI_le (Nat.le_refl _) (by omega)), pv_jn_eq]
    exact md_R YS' _
  · rintro rec p x S hp ⟨rfl, YS'⟩ hrec
    obtain ⟨M1, e1, e2, e3, e4⟩ := m_wish hw YS'.2.2.1 hp
    have e3' : M1.1 215 0 = wnV P V T U H p 0 := by unfold wnV; rw [if_pos rfl]; exact e3
    have e4' : M1.1 215 1 = wnV P V T U H p 1 := by unfold wnV; rw [if_neg (by decide)]; exact e4
    unfold f_X9_digest_L343
    rw [show pv_ldI pv_T 203 0 S = fun f => pv_ldI pv_T 203 (nI 0) S f from rfl]
    dsimp only
    rw [ld_203 (by decide), (YS'.2.2.1 S SM.rf).1, if_neg (nI_ge hp (by omega)), e1, pv_cal_some, show (0 : Int32) = nI 0 from rfl, ld_215 (by decide), e3', pv_nm_eq, show (1 : Int32) = nI 1 from rfl, ld_215 (by decide), e4', pv_nm_eq, nI_add]
    exact hrec _ _ ⟨by conv => rhs; unfold foP, YS'.fr (fun a c q => e2 a c (fun z => q ⟨by unfold PM; omega, by omega⟩))⟩
theorem md_P (Y : YS c v M n b cn cf kn kf bn bf l d pu ra rb P V T U H) (h0 : Int64) : ∃ M', pv_lp3 (f_X9_digest_L221 (fun (x6 : Int64) (M6 : pv_M) => pv_jn (fun (x7 : Int64) (M7 : pv_M) => pv_jn (f_X9_digest_J316 M7) (fun j6 => pv_lp2 (f_X9_digest_L289 M7 j6) pv_FU x7 0)) (fun j5 => pv_lp3 (f_X9_digest_L263 j5) pv_FU x6 0 M6))) pv_FU h0 0 M = some (31 * DO ra rb (DR (n 2) (b 2) (DV P V T U H (DP pu kn kf l d P V T U H h0))) + (nI (yrs bf (grt P V T U H l) bn 10)).toInt64, M') ∧ YS c v M' n b cn cf kn kf bn bf l d pu ra rb P V T U H := by
  have hw := Y.1.wf
  obtain ⟨Z, hZ⟩ : ∃ Z : Int64, Z = 31 * DO ra rb (DR (n 2) (b 2) (DV P V T U H (DP pu kn kf l d P V T U H h0))) + (nI (yrs bf (grt P V T U H l) bn 10)).toInt64 := ⟨_, rfl⟩
  obtain ⟨F1, hF1⟩ : ∃ F1 : Nat → Int64, F1 = foP (fun w => (iI (mny pu kf (grt P V T U H l) d w 9 kn)).toInt64) (fun w => (hgV P V T U H w).toInt64) h0 := ⟨_, rfl⟩
  have hF1s : ∀ w, F1 (w + 1) = 31 * (31 * F1 w + (iI (mny pu kf (grt P V T U H l) d w 9 kn)).toInt64) + (hgV P V T U H w).toInt64 := fun w => by rw [hF1]; rfl
  obtain ⟨F2, hF2⟩ : ∃ F2 : Nat → Int64, F2 = fo (fun x => (ruV pu kn kf (grt P V T U H l) d x).toInt64) (F1 8) := ⟨_, rfl⟩
  obtain ⟨F3, hF3⟩ : ∃ F3 : Nat → Int64, F3 = fo (fun i => (wrs kf (grt P V T U H l) i).toInt64) (F2 2) := ⟨_, rfl⟩
  have hZ2 : Z = 31 * DO ra rb (DR (n 2) (b 2) (DV P V T U H (F3 kn))) + (nI (yrs bf (grt P V T U H l) bn 10)).toInt64 := by rw [hZ, hF3, hF2, hF1]; rfl
  rw [← hZ]
  refine for3b 8 (fun w (x : Int64) (S : pv_M) => x = F1 w ∧ YS c v S n b cn cf kn kf bn bf l d pu ra rb P V T U H) (fun q => ∃ M' : pv_M, q = some (Z, M') ∧ YS c v M' n b cn cf kn kf bn bf l d pu ra rb P V T U H) ?_ ?_ pv_FU 0 h0 M (by decide) (by decide) ⟨by rw [hF1]; rfl, Y⟩
  · rintro rec x S ⟨rfl, YS'⟩
    unfold f_X9_digest_L221
    rw [if_pos (by decide)]
    dsimp only
    rw [pv_jn_eq]
    refine for3b 2 (fun k (x : Int64) (R : pv_M) => x = F2 k ∧ YS c v R n b cn cf kn kf bn bf l d pu ra rb P V T U H) (fun q => ∃ M' : pv_M, q = some (Z, M') ∧ YS c v M' n b cn cf kn kf bn bf l d pu ra rb P V T U H) ?_ ?_ pv_FU 0 _ S (by decide) (by decide) ⟨by rw [hF2]; rfl, YS'⟩
    · rintro rec2 x R ⟨rfl, Y2⟩
      have hkn := Y2.1.2.2.1.1
      unfold f_X9_digest_L263
      rw [if_pos (by decide)]
      dsimp only
      rw [pv_jn_eq]
      refine for2b kn (fun i (x : Int64) => x = F3 i) (fun q => ∃ M' : pv_M, q = some (Z, M') ∧ YS c v M' n b cn cf kn kf bn bf l d pu ra rb P V T U H) ?_ ?_ pv_FU 0 _ (Nat.zero_le _) (by show kn - 0 < 5000; omega) (by rw [hF3]; rfl)
      · rintro rec3 x rfl
        unfold f_X9_digest_L289
        rw [pv_nm_eq, Y2.1.2.2.1.2.2.1, if_pos (nI_le (Nat.le_refl _) (by omega)), hZ2]
        exact md_V Y2 _
      · rintro rec3 i x hi rfl hrec3
        unfold f_X9_digest_L289
        rw [pv_nm_eq, Y2.1.2.2.1.2.2.1, if_neg (nI_ge hi (by omega)), m_worst Y2.gy hi, pv_cap_some, pv_nm_eq, nI_1]
        exact hrec3 _ (by rw [hF3]; rfl)
    · rintro rec2 k x R hk ⟨rfl, Y2⟩ hrec2
      obtain ⟨M1, e1, e2⟩ := m_ruin Y2.gy Y2.1.2.2.2.2.2.1 hk
      unfold f_X9_digest_L263
      rw [show (2 : Int32) = nI 2 from rfl, if_neg (nI_ge hk (by decide)), show f_X9_ruinedOf (nI k) R = some (ruV pu kn kf (grt P V T U H l) d k, M1) from e1, pv_cal_some, pv_nm_eq, nI_1]
      exact hrec2 _ _ ⟨by rw [hF2]; rfl, Y2.fr (fun a c q => e2 a c (fun z => q ⟨by unfold PM; omega, by omega⟩))⟩
  · rintro rec w x S hw8 ⟨rfl, YS'⟩ hrec
    obtain ⟨R1, r1, Y1, -⟩ := YS'.reads
    have hV := hw.2.1
    have hh : f_X9_hedge (nI w) S = some (hgV P V T U H w, R1) := by
      unfold f_X9_hedge hgV
      rw [r1, pv_cal_some, m_isVoter Y1.2.2.1, pv_cap_some]
      by_cases hx : w < V
      · rw [bt1 (by rw [pk_sub (by omega)]; exact ⟨nI_le (Nat.zero_le _) (by omega), nI_le (by omega) (by omega)⟩), m_hedge hw Y1.2.2.1 hx, pv_cap_some, if_pos hx]
      · rw [bt0, if_neg hx]
        intro q
        obtain ⟨j, hj, e⟩ := rngm (by omega) q
        have := (nI_eq (by omega) (by omega)).mp e
        omega
    unfold f_X9_digest_L221
    rw [show (8 : Int32) = nI 8 from rfl, if_neg (nI_ge hw8 (by decide)), show f_X9_moneyOf (nI w) 9 S = _ from m_money YS'.gy YS'.1.2.2.2.2.2.1 hw8 (show 9 < 10 by decide), pv_cap_some, pv_nm_eq, hh, pv_cal_some, pv_nm_eq, nI_1]
    exact hrec _ _ ⟨by rw [hF1s], Y1⟩
theorem md_Y (Y : YS c v M n b cn cf kn kf bn bf l d pu ra rb P V T U H) (h0 : Int64) : ∃ M', pv_lp2 (f_X9_digest_L63 (f_X9_digest_J203 M) M) pv_FU h0 0 = some (31 * DO ra rb (DR (n 2) (b 2) (DV P V T U H (DP pu kn kf l d P V T U H (DY P V T U H l h0)))) + (nI (yrs bf (grt P V T U H l) bn 10)).toInt64, M') ∧ YS c v M' n b cn cf kn kf bn bf l d pu ra rb P V T U H := by
  have hw := Y.1.wf
  have hw1 := hw.1
  have hL := Y.2.2.2
  have hR := Y.2.2.1
  obtain ⟨z1, z2, z3, z4⟩ := hR M SM.rf
  obtain ⟨F, hF⟩ : ∃ F : Nat → Int64, F = foY (eVk P V T U H l) (gVk P V T U H l) (tVk T) (vVk P V T U H l) P h0 := ⟨_, rfl⟩
  have hFs : ∀ k, F (k + 1) = foP (tVk T k) (vVk P V T U H l k) (31 * (31 * F k + eVk P V T U H l k) + gVk P V T U H l k) P := fun k => by rw [hF]; rfl
  obtain ⟨Z, hZ⟩ : ∃ Z : Int64, Z = 31 * DO ra rb (DR (n 2) (b 2) (DV P V T U H (DP pu kn kf l d P V T U H (DY P V T U H l h0)))) + (nI (yrs bf (grt P V T U H l) bn 10)).toInt64 := ⟨_, rfl⟩
  have hZ2 : Z = 31 * DO ra rb (DR (n 2) (b 2) (DV P V T U H (DP pu kn kf l d P V T U H (31 * F 9 + (nI (spl P V T U H 30)).toInt64)))) + (nI (yrs bf (grt P V T U H l) bn 10)).toInt64 := by rw [hZ, hF]; rfl
  rw [← hZ]
  refine for2b 9 (fun k (x : Int64) => x = F k) (fun q => ∃ M' : pv_M, q = some (Z, M') ∧ YS c v M' n b cn cf kn kf bn bf l d pu ra rb P V T U H) ?_ ?_ pv_FU 0 h0 (by decide) (by decide) (by rw [hF]; rfl)
  · rintro rec x rfl
    unfold f_X9_digest_L63
    rw [if_pos (by decide)]
    unfold f_X9_digest_J203
    obtain ⟨M4, e1, e2⟩ := m_split BAo_ok Y.1
    have K4 := Y.1.frM BAo_ok (M' := M4) (fun k j q => e2 k j (fun z => q (by unfold PM; omega)))
    obtain ⟨M5, g1, Y5⟩ := K4.yn
    rw [e1, pv_cal_some, pv_nm_eq, g1, pv_cal_some, pv_jn_eq, hZ2]
    exact md_P Y5 _
  · rintro rec k x hk rfl hrec
    have hy := dyr_lt (k / 3)
    have hu : k % 3 < 3 := Nat.mod_lt _ (by decide)
    unfold f_X9_digest_L63
    rw [show (9 : Int32) = nI 9 from rfl, if_neg (nI_ge hk (by decide)), pv_jn_eq, show (3 : Int32) = nI 3 from rfl, pk_rem (by omega) (by decide) (by decide), ite_le (by decide) (by omega), show (6 : Int32) = nI 6 from rfl, ite_le (by decide) (by omega)]
    have hgo : ∀ yy : Nat, yy = dyr (k / 3) → ∃ M', (pv_nm (nI (k % 3)) (fun x56 => pv_ldI pv_T 208 ((nI 3 * nI yy) + x56) M (fun x57 => pv_nm ((31 * F k) + x57.toInt64) (fun x58 => pv_cap (f_X9_greatOf (nI yy) x56 M) (fun x59 => pv_nm ((31 * x58) + x59.toInt64) (fun x60 => pv_lp2 (f_X9_digest_L136 M rec (nI k) (nI yy) x56) pv_FU x60 0)))))) = some (Z, M') ∧ YS c v M' n b cn cf kn kf bn bf l d pu ra rb P V T U H := by
      rintro yy rfl
      rw [pv_nm_eq, pk_mul, nI_add, ld_208 (by omega), Lv_win hL hy hu, pv_nm_eq, Lv_great hL hR hw hy hu, pv_cap_some, pv_nm_eq]
      refine for2b P (fun p (x : Int64) => x = foP (tVk T k) (vVk P V T U H l k) (31 * (31 * F k + eVk P V T U H l k) + gVk P V T U H l k) p) (fun q => ∃ M' : pv_M, q = some (Z, M') ∧ YS c v M' n b cn cf kn kf bn bf l d pu ra rb P V T U H) ?_ ?_ pv_FU 0 _ (Nat.zero_le _) (by show P - 0 < 5000; omega) rfl
      · rintro rec2 x rfl
        unfold f_X9_digest_L136
        rw [show pv_ldI pv_T 203 0 M = fun f => pv_ldI pv_T 203 (nI 0) M f from rfl]
        dsimp only
        rw [ld_203 (by decide), z1, if_pos (nI_le (Nat.le_refl _) (by omega)), nI_1]
        exact hrec _ (hFs k).symm
      · rintro rec2 p x hp rfl hrec2
        unfold f_X9_digest_L136
        rw [show pv_ldI pv_T 203 0 M = fun f => pv_ldI pv_T 203 (nI 0) M f from rfl]
        dsimp only
        rw [ld_203 (by decide), z1, if_neg (nI_ge hp (by omega)), z3 _ p _ hy hp hu, pv_cap_some, pv_nm_eq, show (12 : Int32) = nI 12 from rfl, show (4 : Int32) = nI 4 from rfl, pk_mul, pk_mul, nI_add, nI_add, ld_209 (by omega), ((hL _ _ hy hu).2 (by omega)).2 p hp, pv_nm_eq, nI_1]
        exact hrec2 _ rfl
    by_cases k3 : 3 ≤ k
    · by_cases k6 : 6 ≤ k
      · rw [if_pos k3, if_pos k6]
        exact hgo 9 (by unfold dyr; rw [if_neg (by omega), if_neg (by omega)])
      · rw [if_pos k3, if_neg k6]
        exact hgo 1 (by unfold dyr; rw [if_neg (by omega), if_pos (by omega)])
    · rw [if_neg k3]
      exact hgo 0 (by unfold dyr; rw [if_pos (by omega)])
theorem ms_digest (K : KS BAo c v M n b cn cf kn kf bn bf l d pu ra rb P V T U H) {fv : Nat → Int32} (hfv : ∀ t, t < 3 → FltIs t (n t) (b t) (fv t)) : ∃ M', f_X9_digest M = some (DG fv n b cn kn kf bn bf l d pu ra rb P V T U H, M') ∧ KS BAo c v M' n b cn cf kn kf bn bf l d pu ra rb P V T U H := by
  obtain ⟨h1, hh1⟩ : ∃ h1 : Int64, h1 = fo (fun k => (cntS n b cn kn bn l d 0 k).toInt64) 17 8 := ⟨_, rfl⟩
  obtain ⟨h2, hh2⟩ : ∃ h2 : Int64, h2 = fo (fun t => (fv t).toInt64) h1 3 := ⟨_, rfl⟩
  obtain ⟨Z, hZ⟩ : ∃ Z : Int64, Z = DG fv n b cn kn kf bn bf l d pu ra rb P V T U H := ⟨_, rfl⟩
  have hZ2 : Z = 31 * DO ra rb (DR (n 2) (b 2) (DV P V T U H (DP pu kn kf l d P V T U H (DY P V T U H l h2)))) + (nI (yrs bf (grt P V T U H l) bn 10)).toInt64 := by rw [hZ, hh2, hh1]; rfl
  rw [← hZ]
  unfold f_X9_digest
  rw [pv_jn_eq]
  refine for3b 8 (fun k (x : Int64) (S : pv_M) => x = fo (fun k => (cntS n b cn kn bn l d 0 k).toInt64) 17 k ∧ KS BAo c v S n b cn cf kn kf bn bf l d pu ra rb P V T U H) (fun q => ∃ M' : pv_M, q = some (Z, M') ∧ KS BAo c v M' n b cn cf kn kf bn bf l d pu ra rb P V T U H) ?_ ?_ pv_FU 0 17 M (by decide) (by decide) ⟨rfl, K⟩
  · rintro rec x S ⟨rfl, K1⟩
    unfold f_X9_digest_L6
    rw [if_pos (by decide), ← hh1]
    dsimp only
    rw [pv_jn_eq]
    refine for3b 3 (fun t (x : Int64) (R : pv_M) => x = fo (fun t => (fv t).toInt64) h1 t ∧ KS BAo c v R n b cn cf kn kf bn bf l d pu ra rb P V T U H) (fun q => ∃ M' : pv_M, q = some (Z, M') ∧ KS BAo c v M' n b cn cf kn kf bn bf l d pu ra rb P V T U H) ?_ ?_ pv_FU 0 h1 S (by decide) (by decide) ⟨rfl, K1⟩
    · rintro rec2 x R ⟨rfl, K2⟩
      unfold f_X9_digest_L33
      rw [if_pos (by decide), ← hh2]
      dsimp only
      obtain ⟨M3, e1, Y3⟩ := K2.yn
      rw [e1, pv_cal_some, pv_jn_eq, hZ2]
      obtain ⟨M', g1, g2⟩ := md_Y Y3 h2
      exact ⟨M', g1, g2.1⟩
    · rintro rec2 t x R ht ⟨rfl, K2⟩ hrec2
      obtain ⟨r, M', f1, f2, f3, -⟩ := m_text ht (K2.1 t ht).1
      have er : r = fv t := f2.one (hfv t ht)
      subst er
      unfold f_X9_digest_L33
      rw [show (3 : Int32) = nI 3 from rfl, if_neg (nI_ge ht (by decide)), f1, pv_cal_some, pv_nm_eq, nI_1]
      exact hrec2 _ _ ⟨rfl, K2.frM BAo_ok f3.M⟩
  · rintro rec k x S hk ⟨rfl, K1⟩ hrec
    obtain ⟨g1, g2, g3, g4, g5, -⟩ := id K1
    obtain ⟨M', e1, e2, -⟩ := m_count g1 g2 g3 g4 g5 (show k < 9 by omega)
    rw [cntS_fi hk] at e1
    unfold f_X9_digest_L6
    rw [show (8 : Int32) = nI 8 from rfl, if_neg (nI_ge hk (by decide)), e1, pv_cal_some, pv_nm_eq, nI_1]
    exact hrec _ _ ⟨rfl, K1.frM BAo_ok e2⟩
theorem op_digest : OPL RIo (CAo BAo) f_X8_digest f_X9_digest := by
  intro c M hc hI
  obtain ⟨M1, v, n, b, cn, cf, kn, kf, bn, bf, l, d, pu, ra, rb, P, V, T, U, H, e1, K, hF⟩ := start BAo_ok (by omega) hI
  have hex : ∀ t : Nat, ∃ r : Int32, t < 3 → FltIs t (n t) (b t) r := fun t => by
    by_cases ht : t < 3
    · obtain ⟨r, -, f2⟩ := x_fault ht (K.1 t ht).2 (K.1 t ht).1.1 (fun i hi => ((K.1 t ht).1.2.2 i hi).1)
      exact ⟨r, fun _ => f2⟩
    · exact ⟨0, fun q => absurd q ht⟩
  obtain ⟨fv, hfv⟩ := Classical.axiomOfChoice hex
  obtain ⟨M2, x1, K2⟩ := xs_digest K (by omega) hfv
  obtain ⟨M3, y1, K3⟩ := ms_digest K2 hfv
  refine ⟨_, M2, M3, ?_, y1, K3.inv BAo_ok⟩
  rw [← x1]
  unfold f_X8_digest
  rw [e1, K.settle (by omega)]
end MD
