theorem XR.fr {F F' : Nat → Nat → Int32} {P V : Nat} {T : Nat → Nat → Nat → Nat} {U : Nat → Nat} {H : Nat → Int} (h : XR F P V T U H) (hF : ∀ a c, ((a = 39 ∧ c < 2) ∨ (41 ≤ a ∧ a ≤ 52)) → F' a c = F a c) : XR F' P V T U H := by
  obtain ⟨a1, a2, a3, a4⟩ := h
  exact ⟨by rw [hF _ _ (by omega)]; exact a1, by rw [hF _ _ (by omega)]; exact a2, fun y p u hy hp hu => by rw [hF _ _ (by omega)]; exact a3 y p u hy hp hu, fun v hv => by rw [hF 51 _ (by omega), hF 52 _ (by omega)]; exact a4 v hv⟩
theorem x_figure {M : pv_M} {P V : Nat} {T : Nat → Nat → Nat → Nat} {U : Nat → Nat} {H : Nat → Int} (w : WF P V T U H) (h : XR M.1 P V T U H) {y p u : Nat} (hy : y < 10) (hp : p < P) (hu : u < 3) : f_X2_figure (nI y) (nI p) (nI u) M = some (nI (T y p u)) := by
  have := w.1
  unfold f_X2_figure
  rw [lr_40 hy, show (3 : Int32) = nI 3 from rfl, pk_mul, nI_add, lf_41 hy (by omega), h.2.2.1 y p u hy hp hu]
theorem x_unitOf {M : pv_M} {P V : Nat} {T : Nat → Nat → Nat → Nat} {U : Nat → Nat} {H : Nat → Int} (w : WF P V T U H) (h : XR M.1 P V T U H) {v : Nat} (hv : v < V) : f_X2_unitOf (nI v) M = some (nI (U v)) := by
  have := w.2.1
  unfold f_X2_unitOf
  rw [ld_51 (by omega), (h.2.2.2 v hv).1]
theorem x_owed {M : pv_M} {P V : Nat} {T : Nat → Nat → Nat → Nat} {U : Nat → Nat} {H : Nat → Int} (w : WF P V T U H) (h : XR M.1 P V T U H) {v : Nat} (hv : v < V) : f_X2_owed (nI v) M = some (iI (H v)) := by
  have := w.2.1
  unfold f_X2_owed
  rw [ld_52 (by omega), (h.2.2.2 v hv).2]
theorem x_gain {M : pv_M} {P V : Nat} {T : Nat → Nat → Nat → Nat} {U : Nat → Nat} {H : Nat → Int} (w : WF P V T U H) (h : XR M.1 P V T U H) {y p v : Nat} (hy : y < 10) (hp : p < P) (hv : v < V) : f_X2_gain (nI v) (nI y) (nI p) M = some (iI (gn T U H y p v)) := by
  have w1 := w.1
  have w2 := w.2.1
  have hu := (w.2.2.2 v hv).1
  unfold f_X2_gain
  rw [ld_52 (by omega), (h.2.2.2 v hv).2, lr_40 hy, ld_51 (by omega), (h.2.2.2 v hv).1, show (3 : Int32) = nI 3 from rfl, pk_mul, nI_add, lf_41 hy (by omega), h.2.2.1 y p _ hy hp hu, ← iI_n, iI_mul]
  rfl
theorem x_fillGains {M : pv_M} {P V : Nat} {T : Nat → Nat → Nat → Nat} {U : Nat → Nat} {H : Nat → Int} (w : WF P V T U H) (h : XR M.1 P V T U H) {y v r : Nat} (hy : y < 10) (hv : v < V) (hr : pv_SH r = (0, 4)) (hr2 : ¬ (39 ≤ r ∧ r ≤ 52)) : ∃ M', f_X2_fillGains (nI v) (nI y) r M = some ((), M') ∧ ∀ a c, M'.1 a c = if a = r ∧ c < P then iI (gn T U H y c v) else M.1 a c := by
  have w1 := w.1
  unfold f_X2_fillGains
  refine for2 P (fun i (S : pv_M) => ∀ a c, S.1 a c = if a = r ∧ c < i then iI (gn T U H y c v) else M.1 a c) (fun q => ∃ M' : pv_M, q = some ((), M') ∧ ∀ a c, M'.1 a c = if a = r ∧ c < P then iI (gn T U H y c v) else M.1 a c) ?_ ?_ pv_FU 0 M (Nat.zero_le _) (by show P - 0 < 5000; omega) (fun a c => by rw [if_neg (by omega)])
  · intro rec S hS
    have s0 : S.1 39 0 = nI P := by rw [hS, if_neg (by omega), h.1]
    unfold f_X2_fillGains_L3
    rw [pv_nm_eq, s0, if_pos (nI_le (Nat.le_refl _) (by omega))]
    exact ⟨S, rfl, hS⟩
  · intro rec i S hi hS hrec
    have hX : XR S.1 P V T U H := h.fr (fun a c q => by rw [hS, if_neg (by omega)])
    unfold f_X2_fillGains_L3
    rw [pv_nm_eq, hX.1, if_neg (nI_ge hi (by omega)), x_gain w hX hy hi hv, pv_cap_some, stI_n hr (by omega), nI_1]
    refine hrec _ (fun a c => ?_)
    rw [fst_u, hS]
    by_cases e : a = r ∧ c = i
    · rw [if_pos e, if_pos (by omega), e.2]
    · rw [if_neg e]
      ((repeat' split) <;> first | rfl | (exfalso; omega))
theorem x_approve {M : pv_M} {P V : Nat} {T : Nat → Nat → Nat → Nat} {U : Nat → Nat} {H : Nat → Int} (w : WF P V T U H) (h : XR M.1 P V T U H) {o y v : Nat} (hO : isO o) (hy : y < 10) (hv : v < V) {old : Option Nat} (ho : okO P old) (hg : ∀ p, p < P → M.1 (o + 34) p = iI (gn T U H y p v)) :
    ∃ M', f_X1_approve o (o + 24 + y) (oldI old) M = some ((), M') ∧ ∀ a c, M'.1 a c = if a = o + 24 + y ∧ c < P ∧ apv P T U H y v c old = true then M.1 a c + 1 else M.1 a c := by
  have w1 := w.1
  have h39 := h.1
  unfold f_X1_approve
  rw [isP_o hO, pv_ck_true, pv_jn_eq]
  have hs := sumI_sml (f := fun q => gn T U H y q v) (n := P) (fun i hi => gn_sml w hy hi hv)
  refine for2b P (fun i (x : Int32) => x = iI (sumI (fun q => gn T U H y q v) i)) (fun q => ∃ M' : pv_M, q = some ((), M') ∧ ∀ a c, M'.1 a c = if a = o + 24 + y ∧ c < P ∧ apv P T U H y v c old = true then M.1 a c + 1 else M.1 a c) ?_ ?_ pv_FU 0 _ (Nat.zero_le _) (by show P - 0 < 5000; omega) rfl
  · rintro rec x rfl
    unfold f_X1_approve_L5
    rw [pv_nm_eq, h39, if_pos (nI_le (Nat.le_refl _) (by omega))]
    refine for2 P (fun i (S : pv_M) => ∀ a c, S.1 a c = if a = o + 24 + y ∧ c < i ∧ apv P T U H y v c old = true then M.1 a c + 1 else M.1 a c) (fun q => ∃ M' : pv_M, q = some ((), M') ∧ ∀ a c, M'.1 a c = if a = o + 24 + y ∧ c < P ∧ apv P T U H y v c old = true then M.1 a c + 1 else M.1 a c) ?_ ?_ pv_FU 0 M (Nat.zero_le _) (by show P - 0 < 5000; omega) (fun a c => by rw [if_neg (fun q => absurd q.2.1 (Nat.not_lt_zero _))])
    · intro rec S hS
      have s0 : S.1 39 0 = nI P := by rw [hS, if_neg (fun q => by rcases hO with rfl | rfl | rfl <;> omega), h39]
      unfold f_X1_approve_L36
      rw [pv_nm_eq, s0, if_pos (nI_le (Nat.le_refl _) (by omega))]
      exact ⟨S, rfl, hS⟩
    · intro rec i S hi hS hrec
      have s0 : S.1 39 0 = nI P := by rw [hS, if_neg (fun q => by rcases hO with rfl | rfl | rfl <;> omega), h39]
      have sg : ∀ p, p < P → S.1 (o + 34) p = iI (gn T U H y p v) := fun p hp => by rw [hS, if_neg (fun q => by omega), hg p hp]
      have si : S.1 (o + 24 + y) i = M.1 (o + 24 + y) i := by rw [hS, if_neg (fun q => by omega)]
      have hgi := gn_sml w hy hi hv
      have hno : apv P T U H y v i old = false → ∃ M' : pv_M, rec (nI (i + 1)) S = some ((), M') ∧ ∀ a c, M'.1 a c = if a = o + 24 + y ∧ c < P ∧ apv P T U H y v c old = true then M.1 a c + 1 else M.1 a c := fun e => by
        refine hrec _ (fun a c => ?_)
        rw [hS]
        by_cases e2 : c = i
        · rw [e2, if_neg (fun q => by omega), if_neg (fun q => by rw [e] at q; exact absurd q.2.2 (by decide))]
        · by_cases e3 : a = o + 24 + y ∧ c < i ∧ apv P T U H y v c old = true
          · rw [if_pos e3, if_pos ⟨e3.1, by omega, e3.2.2⟩]
          · rw [if_neg e3, if_neg (fun q => e3 ⟨q.1, by omega, q.2.2⟩)]
      have hyes : apv P T U H y v i old = true → ∃ M' : pv_M, pv_ldI pv_T (o + 24 + y) (nI i) S (fun x5 => pv_stI pv_T (o + 24 + y) (nI i) (x5 + 1) S (fun M2 => rec (nI i + 1) M2)) = some ((), M') ∧ ∀ a c, M'.1 a c = if a = o + 24 + y ∧ c < P ∧ apv P T U H y v c old = true then M.1 a c + 1 else M.1 a c := fun e => by
        rw [lp_24 hO hy (by omega), tp_24 hO hy (by omega), nI_1, si]
        refine hrec _ (fun a c => ?_)
        rw [fst_u, hS]
        by_cases e2 : a = o + 24 + y ∧ c = i
        · rw [if_pos e2, e2.1, e2.2, if_pos ⟨rfl, by omega, e⟩]
        · rw [if_neg e2]
          by_cases e3 : a = o + 24 + y ∧ c < i ∧ apv P T U H y v c old = true
          · rw [if_pos e3, if_pos ⟨e3.1, by omega, e3.2.2⟩]
          · rw [if_neg e3, if_neg (fun q => e3 ⟨q.1, by omega, q.2.2⟩)]
      unfold f_X1_approve_L36
      rw [pv_nm_eq, s0, if_neg (nI_ge hi (by omega)), pv_jn_eq]
      cases old with
      | none =>
        have hsP := hs P (Nat.le_refl _)
        have hm : -324 ≤ gn T U H y i v * (P : Int) ∧ gn T U H y i v * (P : Int) ≤ 324 := by
          constructor
          · have : (-81) * (P : Int) ≤ gn T U H y i v * P := Int.mul_le_mul_of_nonneg_right hgi.1 (by omega)
            omega
          · have : gn T U H y i v * (P : Int) ≤ 81 * P := Int.mul_le_mul_of_nonneg_right hgi.2 (by omega)
            omega
        rw [if_pos (show oldI none = -1 from rfl), lp_34 hO (by omega), sg i hi, pv_nm_eq, ← iI_n, iI_mul, iIf_lt (by omega) (by omega) (by omega) (by omega)]
        by_cases e : gn T U H y i v * (P : Int) < sumI (fun q => gn T U H y q v) P
        · rw [if_pos e]
          dsimp only
          rw [if_pos rfl, nI_1]
          refine hno ?_
          unfold apv
          rw [decide_eq_false_iff_not]
          omega
        · rw [if_neg e]
          dsimp only
          rw [if_neg (by decide)]
          refine hyes ?_
          unfold apv
          rw [decide_eq_true_eq]
          omega
      | some k =>
        have hk := ho k rfl
        have hgk := gn_sml w hy hk hv
        rw [if_neg (show ¬ oldI (some k) = -1 from m1_ne (by omega)), lp_34 hO (by omega), sg i hi, show oldI (some k) = nI k from rfl, lp_34 hO (by omega), sg k hk, iIf_lt (by omega) (by omega) (by omega) (by omega)]
        by_cases e : gn T U H y i v < gn T U H y k v
        · rw [if_pos e]
          dsimp only
          rw [if_pos rfl, nI_1]
          refine hno ?_
          unfold apv
          rw [decide_eq_false_iff_not]
          omega
        · rw [if_neg e]
          dsimp only
          rw [if_neg (by decide)]
          refine hyes ?_
          unfold apv
          rw [decide_eq_true_eq]
          omega
  · rintro rec i x hi rfl hrec
    unfold f_X1_approve_L5
    rw [pv_nm_eq, h39, if_neg (nI_ge hi (by omega)), lp_34 hO (by omega), hg i hi, pv_nm_eq, nI_1, iI_add]
    exact hrec _ rfl
def Pv1 (F : Nat → Nat → Int32) (o P V : Nat) (T : Nat → Nat → Nat → Nat) (U : Nat → Nat) (H : Nat → Int) (l y u : Nat) : Prop := (P = 0 → F (o + 2 + y) u = -1 ∧ F (o + 13 + y) u = nI 1) ∧ (0 < P → F (o + 2 + y) u = nI (win P V T U H l u y) ∧ F (o + 13 + y) u = nI (T y (win P V T U H l u y) u) ∧ ∀ p, p < P → F (o + 24 + y) (u * 4 + p) = nI (tly P V T U H l y u (olds P V T U H l u y) p))
def FrP (o y u : Nat) (M M' : pv_M) : Prop := ∀ a c, ¬ ((a = o + 2 + y ∧ c = u) ∨ (a = o + 13 + y ∧ c = u) ∨ (a = o + 24 + y ∧ u * 4 ≤ c ∧ c < u * 4 + 4) ∨ a = o + 34) → M'.1 a c = M.1 a c
theorem x_hold {M : pv_M} {P V : Nat} {T : Nat → Nat → Nat → Nat} {U : Nat → Nat} {H : Nat → Int} (w : WF P V T U H) (h : XR M.1 P V T U H) {o y u l : Nat} (hO : isO o) (hy : y < 10) (hu : u < 3) (hl : l < 3) (hP : 0 < P) (hlaw : M.1 o 1 = nI l) (h2 : l = 2 → u = 0) (hold : 0 < y → M.1 (o + 2 + (y - 1)) u = nI (win P V T U H l u (y - 1))) :
    ∃ M', f_X1_hold o (nI y) (nI u) M = some ((), M') ∧ FrP o y u M M' ∧ Pv1 M'.1 o P V T U H l y u := by
  have w1 := w.1
  have w2 := w.2.1
  have ob : 53 ≤ o ∧ o ≤ 123 := by rcases hO with rfl | rfl | rfl <;> omega
  have hok := olds_ok (V := V) (T := T) (U := U) (H := H) (l := l) (u := u) (y := y) hP
  obtain ⟨od, hod⟩ : ∃ od, od = olds P V T U H l u y := ⟨_, rfl⟩
  rw [← hod] at hok
  have key : ∀ (x : Int32), x = oldI od → ∃ M', pv_jn (f_X1_hold_J56 (o + 24 + y) (nI (u * 4)) x o (nI y) (nI u)) (fun j2 => pv_lp2 (f_X1_hold_L35 j2 (o + 24 + y) (nI (u * 4))) pv_FU 0 M) = some ((), M') ∧ FrP o y u M M' ∧ Pv1 M'.1 o P V T U H l y u := by
    rintro x rfl
    rw [pv_jn_eq]
    refine for2 4 (fun i (S : pv_M) => FrP o y u M S ∧ ∀ p, p < i → S.1 (o + 24 + y) (u * 4 + p) = nI 0) (fun q => ∃ M' : pv_M, q = some ((), M') ∧ FrP o y u M M' ∧ Pv1 M'.1 o P V T U H l y u) ?_ ?_ pv_FU 0 M (Nat.zero_le _) (by decide) ⟨fun _ _ _ => rfl, fun p hp => absurd hp (Nat.not_lt_zero _)⟩
    · intro rec S hS
      unfold f_X1_hold_L35
      rw [if_pos (by decide)]
      unfold f_X1_hold_J56
      rw [pv_jn_eq]
      refine for2 V (fun v (S : pv_M) => FrP o y u M S ∧ ∀ p, p < P → S.1 (o + 24 + y) (u * 4 + p) = nI (fa_cnt (vts P T U H l y u od p) v)) (fun q => ∃ M' : pv_M, q = some ((), M') ∧ FrP o y u M M' ∧ Pv1 M'.1 o P V T U H l y u) ?_ ?_ pv_FU 0 S (Nat.zero_le _) (by show V - 0 < 5000; omega) ⟨hS.1, fun p hp => hS.2 p (by omega)⟩
      · intro rec S hS
        have hX : XR S.1 P V T U H := h.fr (fun a c q => hS.1 a c (by omega))
        unfold f_X1_hold_L59
        rw [pv_nm_eq, hX.2.1, if_pos (nI_le (Nat.le_refl _) (by omega))]
        dsimp only
        rw [pv_nm_eq, hX.1, x_greatest (g := fun p => ((tly P V T U H l y u od p : Nat) : Int)) (o := od) (sp_24 hO hy) (by omega) hP (fun i hi => by rw [iI_n]; exact hS.2 i hi) (fun i hi => by have := tly_le (P := P) (V := V) (T := T) (U := U) (H := H) (l := l) (y := y) (u := u) (o := od) (p := i); omega) hok, pv_cap_some, hod, ← win_eq, rp_2 hO hy, tp_2 hO hy hu, rp_13 hO hy]
        have hwl := win_lt (V := V) (T := T) (U := U) (H := H) (l := l) (u := u) hP y
        have hX3 : XR (pv_u S.1 (o + 2 + y) u (nI (win P V T U H l u y))) P V T U H := hX.fr (fun a c q => by rw [u_if, if_neg (by omega)])
        rw [x_figure (M := (pv_u S.1 (o + 2 + y) u (nI (win P V T U H l u y)), S.2)) w hX3 hy hwl hu, pv_cap_some, tp_13 hO hy hu]
        refine ⟨_, rfl, fun a c q => ?_, fun q => absurd q (by omega), fun _ => ⟨?_, ?_, fun p hp => ?_⟩⟩
        · rw [fst_u, if_neg (by omega), fst_u, if_neg (by omega)]
          exact hS.1 a c q
        · rw [fst_u, if_neg (by omega), fst_u, if_pos ⟨rfl, rfl⟩]
        · rw [fst_u, if_pos ⟨rfl, rfl⟩]
        · rw [fst_u, if_neg (by omega), fst_u, if_neg (by omega), hS.2 p hp, hod]
          rfl
      · intro rec v S hv hS hrec
        have hX : XR S.1 P V T U H := h.fr (fun a c q => hS.1 a c (by omega))
        have hla : S.1 o 1 = nI l := by rw [hS.1 _ _ (by omega)]; exact hlaw
        have huv := (w.2.2.2 v hv).1
        have hJ : (l = 2 ∨ l = 0 ∨ U v = u) → ∃ M' : pv_M, f_X1_hold_J95 (nI v) (nI y) o S (o + 24 + y) (oldI od) rec (nI (u * 4)) = some ((), M') ∧ FrP o y u M M' ∧ Pv1 M'.1 o P V T U H l y u := by
          intro hlu
          obtain ⟨M6, e1, e2⟩ := x_fillGains w hX hy hv (sp_34 hO) (by omega)
          have hX6 : XR M6.1 P V T U H := hX.fr (fun a c q => by rw [e2, if_neg (by omega)])
          have hl6 : M6.1 o 1 = nI l := by rw [e2, if_neg (by omega)]; exact hla
          have hg6 : ∀ p, p < P → M6.1 (o + 34) p = iI (gn T U H y p v) := fun p hp => by rw [e2, if_pos ⟨rfl, hp⟩]
          have ht6 : ∀ p, p < P → M6.1 (o + 24 + y) (u * 4 + p) = nI (fa_cnt (vts P T U H l y u od p) v) := fun p hp => by rw [e2, if_neg (by omega)]; exact hS.2 p hp
          have hF6 : FrP o y u M M6 := fun a c q => by rw [e2, if_neg (by omega)]; exact hS.1 a c q
          unfold f_X1_hold_J95
          rw [e1, pv_cal_some, pv_nm_eq, hl6, show (2 : Int32) = nI 2 from rfl, ite_eq (by omega) (by decide)]
          by_cases l2 : l = 2
          · rw [if_pos l2]
            have u0 := h2 l2
            subst l2 u0
            obtain ⟨M8, f1, f2⟩ := x_approve w hX6 hO hy hv hok hg6
            rw [f1, pv_cal_some, nI_1]
            refine hrec _ ⟨fun a c q => ?_, fun p hp => ?_⟩
            · rw [f2, if_neg (fun z => q (by omega))]
              exact hF6 a c q
            · have t6 := ht6 p hp
              rw [show 0 * 4 + p = p by omega] at t6 ⊢
              rw [f2, cnt_if, vts_ap, t6]
              by_cases e : apv P T U H y v p od = true
              · rw [if_pos ⟨rfl, hp, e⟩, if_pos e, nI_1]
              · rw [if_neg (fun z => e z.2.2), if_neg e]
                rfl
          · have hlu2 : l = 0 ∨ U v = u := by omega
            have hcl : cho P T U H y v od < P := bst_lt (fun p => gn T U H y p v) (show od.getD 0 < P by cases od with
              | none => exact hP
              | some k => exact hok k rfl) P (Nat.le_refl _)
            rw [if_neg l2, pv_nm_eq, hX6.1, show (0 : Int32) = nI 0 from rfl, x_greatest (g := fun p => gn T U H y p v) (o := od) (sp_34 hO) (by omega) hP (fun i hi => by rw [Nat.zero_add]; exact hg6 i hi) (fun i hi => by have := gn_sml w hy hi hv; omega) hok, pv_cap_some, pv_nm_eq, nI_add, show bst (fun p => gn T U H y p v) (od.getD 0) P = cho P T U H y v od from rfl, lp_24 hO hy (by omega), ht6 _ hcl, nI_1, tp_24 hO hy (by omega), nI_1]
            refine hrec _ ⟨fun a c q => ?_, fun p hp => ?_⟩
            · rw [fst_u, if_neg (by omega)]
              exact hF6 a c q
            · rw [fst_u, cnt_if, vts_ch l2 hlu2]
              by_cases e : p = cho P T U H y v od
              · subst e
                rw [if_pos ⟨rfl, rfl⟩, if_pos (by simp)]
              · rw [if_neg (by omega), if_neg (by simp; omega)]
                exact ht6 p hp
        unfold f_X1_hold_L59
        rw [pv_nm_eq, hX.2.1, if_neg (nI_ge hv (by omega)), pv_nm_eq, hla, pv_jn_eq, show (1 : Int32) = nI 1 from rfl, ite_eq (by omega) (by decide), x_unitOf w hX hv, pv_cap_some, ite_eq (by omega) (by omega), nI_add]
        by_cases l1 : l = 1
        · rw [if_pos l1]
          by_cases e : U v = u
          · rw [if_pos e]
            exact hJ (by omega)
          · rw [if_neg e]
            refine hrec _ ⟨hS.1, fun p hp => ?_⟩
            rw [cnt_if, vts_no (by omega) (by omega), if_neg (by decide)]
            exact hS.2 p hp
        · rw [if_neg l1]
          exact hJ (by omega)
    · intro rec i S hi hS hrec
      unfold f_X1_hold_L35
      rw [show (4 : Int32) = nI 4 from rfl, if_neg (nI_ge hi (by decide)), nI_add, tp_24 hO hy (by omega), nI_1]
      refine hrec _ ⟨fun a c q => by rw [fst_u, if_neg (by omega)]; exact hS.1 a c q, fun p hp => ?_⟩
      rw [fst_u]
      by_cases e : p = i
      · subst e
        rw [if_pos ⟨rfl, rfl⟩]
        rfl
      · rw [if_neg (by omega)]
        exact hS.2 p (by omega)
  unfold f_X1_hold
  rw [isP_o hO, pv_ck_true, pv_jn_eq, ite_eq0 (by omega)]
  by_cases h0 : y = 0
  · rw [if_pos h0]
    dsimp only
    rw [rp_24 hO hy, pv_nm_eq, show (4 : Int32) = nI 4 from rfl, pk_mul]
    refine key _ ?_
    rw [hod]
    unfold olds
    rw [if_pos h0]
    rfl
  · rw [if_neg h0, show (1 : Int32) = nI 1 from rfl, pk_sub (by omega), rp_2 hO (by omega), lp_2 hO (by omega) hu, hold (by omega)]
    dsimp only
    rw [rp_24 hO hy, pv_nm_eq, show (4 : Int32) = nI 4 from rfl, pk_mul]
    refine key _ ?_
    rw [hod]
    unfold olds
    rw [if_neg h0]
    rfl
