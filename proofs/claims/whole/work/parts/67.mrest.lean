section MR1
variable {BA : pv_BA} {c v : Nat} {M : pv_M} {n : Nat → Nat} {b : Nat → Nat → Nat} {cn : Nat} {cf : Nat → Nat → Nat} {kn : Nat} {kf : Nat → Nat → Nat} {bn : Nat} {bf : Nat → Nat → Nat} {l d : Nat} {pu ra rb : Nat → Nat} {P V : Nat} {T : Nat → Nat → Nat → Nat} {U : Nat → Nat} {H : Nat → Int}
theorem m_six (h : MR M P V T U H) (w : WF P V T U H) : f_X9_six M = some (nI (six V)) := by
  have := w.2.1
  obtain ⟨z1, z2, z3, z4⟩ := h M SM.rf
  unfold f_X9_six six
  rw [show (1 : Int32) = nI 1 from rfl, ld_203 (by decide), z2, show (6 : Int32) = nI 6 from rfl, ite_le (by decide) (by omega), ld_203 (by decide), z2]
  by_cases e : V < 6
  · rw [if_neg (by omega), if_pos e]
  · rw [if_pos (by omega), if_neg e]
theorem m_most (w : WF P V T U H) (hP : 0 < P) (h0 : M.1 203 0 = nI P) (h1 : M.1 203 1 = nI V) {ch : Nat → Nat} (hc : ∀ v, v < V → M.1 214 v = nI (ch v) ∧ ch v < P) : ∃ M', f_X9_mostTold M = some (nI (wnr P V ch), M') ∧ ∀ a c, a ≠ 213 → M'.1 a c = M.1 a c := by
  have hw := w.1
  have hw2 := w.2.1
  unfold f_X9_mostTold
  rw [pv_jn_eq]
  refine for2 4 (fun i (S : pv_M) => (∀ a c, a ≠ 213 → S.1 a c = M.1 a c) ∧ ∀ p, p < i → S.1 213 p = nI 0) (fun q => ∃ M' : pv_M, q = some (nI (wnr P V ch), M') ∧ ∀ a c, a ≠ 213 → M'.1 a c = M.1 a c) ?_ ?_ pv_FU 0 M (Nat.zero_le _) (by decide) ⟨fun _ _ _ => rfl, fun p hp => absurd hp (Nat.not_lt_zero _)⟩
  · rintro rec S ⟨s1, s2⟩
    unfold f_X9_mostTold_L2
    rw [if_pos (by decide)]
    dsimp only
    rw [pv_jn_eq]
    refine for2 V (fun v (S : pv_M) => (∀ a c, a ≠ 213 → S.1 a c = M.1 a c) ∧ ∀ p, p < 4 → S.1 213 p = nI (fa_cnt (fun v => decide (ch v = p)) v)) (fun q => ∃ M' : pv_M, q = some (nI (wnr P V ch), M') ∧ ∀ a c, a ≠ 213 → M'.1 a c = M.1 a c) ?_ ?_ pv_FU 0 S (Nat.zero_le _) (by show V - 0 < 5000; omega) ⟨s1, s2⟩
    · rintro rec2 S ⟨s1, s2⟩
      unfold f_X9_mostTold_L22
      rw [show (1 : Int32) = nI 1 from rfl, ld_203 (by decide), s1 _ _ (by decide), h1, if_pos (nI_le (Nat.le_refl _) (by omega))]
      dsimp only
      refine ⟨S, ?_, s1⟩
      have hcn : ∀ p, p < P → S.1 213 p = nI (cnC V ch p) ∧ cnC V ch p ≤ 8 := fun p hp => ⟨s2 p (by omega), by have := cn_le (V := V) (ch := ch) (p := p); omega⟩
      refine for2b P (fun i (x : Int32) => 1 ≤ i ∧ x = nI (bst (fun p => ((cnC V ch p : Nat) : Int)) 0 i)) (fun q => q = some (nI (wnr P V ch), S)) ?_ ?_ pv_FU 1 _ hP (by show P - 1 < 5000; omega) ⟨Nat.le_refl _, by show nI 0 = nI (if _ then 0 else 0); rw [ite_self]⟩
      · rintro rec3 x ⟨-, rfl⟩
        unfold f_X9_mostTold_L57
        rw [show pv_ldI pv_T 203 0 S = fun f => pv_ldI pv_T 203 (nI 0) S f from rfl]
        dsimp only
        rw [ld_203 (by decide), s1 _ _ (by decide), h0, if_pos (nI_le (Nat.le_refl _) (by omega))]
        rfl
      · rintro rec3 i x hi ⟨hi1, rfl⟩ hrec3
        have hb := bst_lt (fun p => ((cnC V ch p : Nat) : Int)) hP i (by omega)
        obtain ⟨c1, c2⟩ := hcn i hi
        obtain ⟨c3, c4⟩ := hcn _ hb
        unfold f_X9_mostTold_L57
        rw [show pv_ldI pv_T 203 0 S = fun f => pv_ldI pv_T 203 (nI 0) S f from rfl]
        dsimp only
        rw [ld_203 (by decide), s1 _ _ (by decide), h0, if_neg (nI_ge hi (by omega)), ld_213 (by omega), c1, ld_213 (by omega), c3, ite_le (by omega) (by omega), nI_1]
        by_cases e : ((cnC V ch (bst (fun p => ((cnC V ch p : Nat) : Int)) 0 i) : Nat) : Int) < ((cnC V ch i : Nat) : Int)
        · rw [if_neg (by omega)]
          exact hrec3 _ ⟨by omega, by conv => rhs; unfold bst
                                      rw [if_pos e]⟩
        · rw [if_pos (by omega)]
          exact hrec3 _ ⟨by omega, by conv => rhs; unfold bst
                                      rw [if_neg e]⟩
    · rintro rec2 v S hv ⟨s1, s2⟩ hrec2
      obtain ⟨c1, c2⟩ := hc v hv
      unfold f_X9_mostTold_L22
      rw [show pv_ldI pv_T 203 1 S = fun f => pv_ldI pv_T 203 (nI 1) S f from rfl]
      dsimp only
      rw [ld_203 (by decide), s1 _ _ (by decide), h1, if_neg (nI_ge hv (by omega)), ld_214 (by omega), s1 _ _ (by decide), c1, ld_213 (by omega), s2 _ (by omega), nI_1, st_213 (by omega), nI_1]
      refine hrec2 _ ⟨fun a c q => by rw [fst_u, if_neg (by omega)]; exact s1 a c q, fun p hp => ?_⟩
      rw [fst_u, cnt_if]
      simp only [decide_eq_true_eq]
      by_cases e : ch v = p
      · rw [if_pos ⟨trivial, e.symm⟩, if_pos e, e]
      · rw [if_neg (fun q => e q.2.symm), if_neg e, Nat.add_zero]
        exact s2 p hp
  · rintro rec i S hi ⟨s1, s2⟩ hrec
    unfold f_X9_mostTold_L2
    rw [show (4 : Int32) = nI 4 from rfl, if_neg (nI_ge hi (by decide)), st_213 (by omega), nI_1]
    refine hrec _ ⟨fun a c q => by rw [fst_u, if_neg (by omega)]; exact s1 a c q, fun p hp => ?_⟩
    rw [fst_u]
    by_cases e : p = i
    · rw [if_pos ⟨rfl, e⟩]
      rfl
    · rw [if_neg (by omega)]
      exact s2 p (by omega)
theorem m_isRest (w : WF P V T U H) (h : MR M P V T U H) (hP : 0 < P) {ch : Nat → Nat} (hc : ∀ v, v < V → M.1 214 v = nI (ch v) ∧ ch v < P) : ∃ M', f_X9_isRest M = some ((if rsB P V T U H ch = true then 1 else 0), M') ∧ ∀ a c, a ≠ 213 → M'.1 a c = M.1 a c := by
  have hw := w.1
  have hw2 := w.2.1
  have h6 := six_le V
  obtain ⟨z1, z2, z3, z4⟩ := h M SM.rf
  obtain ⟨M1, e1, e2⟩ := m_most w hP z1 z2 hc
  have hnw : wnr P V ch < P := bst_lt _ hP P (Nat.le_refl _)
  unfold f_X9_isRest
  rw [e1, pv_cal_some]
  refine for3b (six V) (fun i (x : Int32) (S : pv_M) => x = (if al (cont P V T U H ch) i = true then 1 else 0) ∧ ∀ a c, a ≠ 213 → S.1 a c = M.1 a c) (fun q => ∃ M' : pv_M, q = some ((if rsB P V T U H ch = true then 1 else 0), M') ∧ ∀ a c, a ≠ 213 → M'.1 a c = M.1 a c) ?_ ?_ pv_FU 0 1 M1 (Nat.zero_le _) (by show six V - 0 < 5000; omega) ⟨rfl, e2⟩
  · rintro rec x S ⟨rfl, s1⟩
    unfold f_X9_isRest_L9
    rw [m_six (h.fr (fun a c q => s1 a c (by omega))) w, pv_cap_some, if_pos (nI_le (Nat.le_refl _) (by omega)), bool_ck rfl]
    exact ⟨S, rfl, s1⟩
  · rintro rec v x S hv ⟨rfl, s1⟩ hrec
    have hvV : v < V := by omega
    obtain ⟨c1, c2⟩ := hc v hvV
    have hgn := gn_sml w (show 0 < 10 by decide) hnw hvV
    obtain ⟨cb, hcb⟩ : ∃ cb : Nat → Bool, cb = fun q => decide (gn T U H 0 (wnr P V (chU ch v q)) v ≤ gn T U H 0 (wnr P V ch) v) := ⟨_, rfl⟩
    have hct : cont P V T U H ch v = al cb P := by rw [hcb]; rfl
    unfold f_X9_isRest_L9
    rw [m_six (h.fr (fun a c q => s1 a c (by omega))) w, pv_cap_some, if_neg (nI_ge hv (by omega)), ld_214 (by omega), s1 _ _ (by decide), c1, pv_jn_eq]
    refine for3b P (fun p (x : Int32) (S' : pv_M) => x = (if (al (cont P V T U H ch) v && al cb p) = true then 1 else 0) ∧ ∀ a c, ¬ (a = 213 ∨ (a = 214 ∧ c = v)) → S'.1 a c = M.1 a c) (fun q => ∃ M' : pv_M, q = some ((if rsB P V T U H ch = true then 1 else 0), M') ∧ ∀ a c, a ≠ 213 → M'.1 a c = M.1 a c) ?_ ?_ pv_FU 0 _ S (Nat.zero_le _) (by show P - 0 < 5000; omega) ⟨by show _ = (if (al (cont P V T U H ch) v && true) = true then (1 : Int32) else 0); rw [Bool.and_true], fun a c q => s1 a c (by omega)⟩
    · rintro rec2 x S' ⟨rfl, q1⟩
      unfold f_X9_isRest_L28
      rw [show pv_ldI pv_T 203 0 S' = fun f => pv_ldI pv_T 203 (nI 0) S' f from rfl]
      dsimp only
      rw [ld_203 (by decide), q1 _ _ (by omega), z1, if_pos (nI_le (Nat.le_refl _) (by omega)), st_214 (by omega), nI_1]
      refine hrec _ _ ⟨by conv => rhs; unfold al
                          rw [hct], fun a c q => ?_⟩
      rw [fst_u]
      by_cases e : a = 214 ∧ c = v
      · rw [if_pos e, e.1, e.2, c1]
      · rw [if_neg e]
        exact q1 a c (by omega)
    · rintro rec2 p x S' hp ⟨rfl, q1⟩ hrec2
      unfold f_X9_isRest_L28
      rw [show pv_ldI pv_T 203 0 S' = fun f => pv_ldI pv_T 203 (nI 0) S' f from rfl]
      dsimp only
      rw [ld_203 (by decide), q1 _ _ (by omega), z1, if_neg (nI_ge hp (by omega)), st_214 (by omega), nI_1]
      have hF6 : ∀ a c, ¬ (a = 213 ∨ (a = 214 ∧ c = v)) → ((pv_u S'.1 214 v (nI p), S'.2) : pv_M).1 a c = M.1 a c := fun a c q => by rw [fst_u, if_neg (by omega)]; exact q1 a c q
      by_cases e : (al (cont P V T U H ch) v && al cb p) = true
      · rw [bt1 e]
        obtain ⟨M7, f1, f2⟩ := m_most (M := (pv_u S'.1 214 v (nI p), S'.2)) w hP (by rw [hF6 _ _ (by omega)]; exact z1) (by rw [hF6 _ _ (by omega)]; exact z2) (ch := chU ch v p) (fun y hy => by
          unfold chU
          rw [fst_u]
          by_cases e2 : y = v
          · rw [if_pos ⟨rfl, e2⟩, if_pos e2]
            exact ⟨rfl, hp⟩
          · rw [if_neg (fun z => e2 z.2), if_neg e2, q1 _ _ (by omega)]
            exact hc y hy)
        have hF7 : ∀ a c, ¬ (a = 213 ∨ (a = 214 ∧ c = v)) → M7.1 a c = M.1 a c := fun a c q => by rw [f2 a c (by omega)]; exact hF6 a c q
        have h7 : MR M7 P V T U H := h.fr (fun a c q => hF7 a c (by omega))
        have hwp : wnr P V (chU ch v p) < P := bst_lt _ hP P (Nat.le_refl _)
        have hgp := gn_sml w (show 0 < 10 by decide) hwp hvV
        rw [f1, pv_cal_some, show f_X9_gain 0 (nI (wnr P V (chU ch v p))) (nI v) M7 = some (iI (gn T U H 0 (wnr P V (chU ch v p)) v)) from m_gain w h7 (show 0 < 10 by decide) hwp hvV, pv_cap_some, show f_X9_gain 0 (nI (wnr P V ch)) (nI v) M7 = some (iI (gn T U H 0 (wnr P V ch) v)) from m_gain w h7 (show 0 < 10 by decide) hnw hvV, pv_cap_some, iIf_lt (by omega) (by omega) (by omega) (by omega)]
        rw [Bool.and_eq_true] at e
        by_cases e2 : gn T U H 0 (wnr P V ch) v < gn T U H 0 (wnr P V (chU ch v p)) v
        · rw [if_pos e2]
          refine hrec2 _ _ ⟨?_, hF7⟩
          rw [if_neg]
          unfold al
          rw [e.2, hcb]
          dsimp only
          rw [decide_eq_false (by omega)]
          simp
        · rw [if_neg e2]
          refine hrec2 _ _ ⟨?_, hF7⟩
          rw [if_pos]
          show (al (cont P V T U H ch) v && (al cb p && cb p)) = true
          rw [e.1, e.2, hcb]
          dsimp only
          rw [decide_eq_true (by omega)]
          rfl
      · rw [bt0 e]
        refine hrec2 _ _ ⟨?_, hF6⟩
        rw [if_neg]
        intro q
        apply e
        rw [Bool.and_eq_true] at q ⊢
        refine ⟨q.1, ?_⟩
        have := q.2
        unfold al at this
        rw [Bool.and_eq_true] at this
        exact this.1
theorem m_restOf (w : WF P V T U H) (h : MR M P V T U H) (hP : 0 < P) {row : Nat} (hr : row < 4096) : ∃ M', f_X9_restOf (nI row) M = some (rst P V T U H row, M') ∧ ∀ a c, ¬ (a = 213 ∨ a = 214) → M'.1 a c = M.1 a c := by
  have hw := w.1
  have hw2 := w.2.1
  have h6 := six_le V
  obtain ⟨z1, z2, z3, z4⟩ := h M SM.rf
  have hcs : ∃ M1, f_X9_chooses M = some ((), M1) ∧ (∀ a c, a ≠ 214 → M1.1 a c = M.1 a c) ∧ ∀ v, v < V → M1.1 214 v = nI (cho P T U H 0 v none) := by
    unfold f_X9_chooses
    refine for2 V (fun v (S : pv_M) => (∀ a c, a ≠ 214 → S.1 a c = M.1 a c) ∧ ∀ x, x < v → S.1 214 x = nI (cho P T U H 0 x none)) (fun q => ∃ M1 : pv_M, q = some ((), M1) ∧ (∀ a c, a ≠ 214 → M1.1 a c = M.1 a c) ∧ ∀ v, v < V → M1.1 214 v = nI (cho P T U H 0 v none)) ?_ ?_ pv_FU 0 M (Nat.zero_le _) (by show V - 0 < 5000; omega) ⟨fun _ _ _ => rfl, fun x hx => absurd hx (Nat.not_lt_zero _)⟩
    · rintro rec S ⟨s1, s2⟩
      unfold f_X9_chooses_L2
      rw [show pv_ldI pv_T 203 1 S = fun f => pv_ldI pv_T 203 (nI 1) S f from rfl]
      dsimp only
      rw [ld_203 (by decide), s1 _ _ (by decide), z2, if_pos (nI_le (Nat.le_refl _) (by omega))]
      exact ⟨S, rfl, s1, s2⟩
    · rintro rec v S hv ⟨s1, s2⟩ hrec
      unfold f_X9_chooses_L2
      rw [show pv_ldI pv_T 203 1 S = fun f => pv_ldI pv_T 203 (nI 1) S f from rfl]
      dsimp only
      rw [ld_203 (by decide), s1 _ _ (by decide), z2, if_neg (nI_ge hv (by omega)), show f_X9_choice 0 (nI v) (-1) S = some (nI (cho P T U H 0 v none)) from m_choice w (h.fr (fun a c q => s1 a c (by omega))) (show 0 < 10 by decide) hv hP (o := none) (fun k q => by cases q), pv_cap_some, st_214 (by omega), nI_1]
      refine hrec _ ⟨fun a c q => by rw [fst_u, if_neg (by omega)]; exact s1 a c q, fun x hx => ?_⟩
      rw [fst_u]
      by_cases e : x = v
      · rw [if_pos ⟨rfl, e⟩, e]
      · rw [if_neg (by omega)]
        exact s2 x (by omega)
  obtain ⟨M1, e1, e2, e3⟩ := hcs
  have hrw : ∃ M2, f_X9_isRow (nI row) M1 = some ((if tlB P V row = true then 1 else 0), M2) ∧ (∀ a c, a ≠ 214 → M2.1 a c = M.1 a c) ∧ ∀ v, v < V → M2.1 214 v = nI (chR P V T U H row v) := by
    unfold f_X9_isRow
    refine for3b (six V) (fun v (x : Int32) (S : pv_M) => x = (if al (fun v => decide (row / 4 ^ v % 4 < P)) v = true then 1 else 0) ∧ (∀ a c, a ≠ 214 → S.1 a c = M.1 a c) ∧ ∀ x, x < V → S.1 214 x = nI (if x < v then row / 4 ^ x % 4 else cho P T U H 0 x none)) (fun q => ∃ M2 : pv_M, q = some ((if tlB P V row = true then 1 else 0), M2) ∧ (∀ a c, a ≠ 214 → M2.1 a c = M.1 a c) ∧ ∀ v, v < V → M2.1 214 v = nI (chR P V T U H row v)) ?_ ?_ pv_FU 0 1 M1 (Nat.zero_le _) (by show six V - 0 < 5000; omega) ⟨rfl, e2, fun x hx => by rw [if_neg (by omega)]; exact e3 x hx⟩
    · rintro rec x S ⟨rfl, s1, s2⟩
      unfold f_X9_isRow_L4
      rw [m_six (h.fr (fun a c q => s1 a c (by omega))) w, pv_cap_some, if_pos (nI_le (Nat.le_refl _) (by omega)), bool_ck rfl]
      exact ⟨S, rfl, s1, s2⟩
    · rintro rec v x S hv ⟨rfl, s1, s2⟩ hrec
      unfold f_X9_isRow_L4
      rw [m_six (h.fr (fun a c q => s1 a c (by omega))) w, pv_cap_some, if_neg (nI_ge hv (by omega)), m_tp (by omega) (by omega), st_214 (by omega), nI_1]
      have hF : ∀ a c, a ≠ 214 → ((pv_u S.1 214 v (nI (row / 4 ^ v % 4)), S.2) : pv_M).1 a c = M.1 a c := fun a c q => by rw [fst_u, if_neg (by omega)]; exact s1 a c q
      have hG : ∀ y, y < V → ((pv_u S.1 214 v (nI (row / 4 ^ v % 4)), S.2) : pv_M).1 214 y = nI (if y < v + 1 then row / 4 ^ y % 4 else cho P T U H 0 y none) := fun y hy => by
        rw [fst_u]
        by_cases e : y = v
        · rw [if_pos ⟨rfl, e⟩, if_pos (by omega), e]
        · rw [if_neg (by omega), s2 y hy]
          by_cases e2 : y < v
          · rw [if_pos e2, if_pos (by omega)]
          · rw [if_neg e2, if_neg (by omega)]
      by_cases e : al (fun v => decide (row / 4 ^ v % 4 < P)) v = true
      · rw [bt1 e, ld_214 (by omega), fst_u, if_pos ⟨rfl, rfl⟩, show (0 : Int32) = nI 0 from rfl, ld_203 (by decide), hF _ _ (by decide), z1, ite_le (by omega) (by omega)]
        by_cases e2 : row / 4 ^ v % 4 < P
        · rw [if_neg (by omega)]
          exact hrec _ _ ⟨by conv => rhs; unfold al
                             rw [e, decide_eq_true e2]; rfl, hF, hG⟩
        · rw [if_pos (by omega)]
          exact hrec _ _ ⟨by conv => rhs; unfold al
                             rw [e, decide_eq_false e2]; rfl, hF, hG⟩
      · rw [bt0 e]
        exact hrec _ _ ⟨by conv => rhs; unfold al
                           rw [show al (fun v => decide (row / 4 ^ v % 4 < P)) v = false by simpa using e]; rfl, hF, hG⟩
  obtain ⟨M2, f1, f2, f3⟩ := hrw
  unfold f_X9_restOf
  rw [show pv_ldI pv_T 203 0 M = fun f => pv_ldI pv_T 203 (nI 0) M f from rfl]
  dsimp only
  rw [ld_203 (by decide), z1, if_neg (nI_ne0 hP (by omega)), e1, pv_cal_some, f1, pv_cal_some]
  unfold rst
  by_cases e : tlB P V row = true
  · have hd : ∀ v, v < V → chR P V T U H row v < P := fun v hv => by
      unfold chR
      by_cases e5 : v < six V
      · rw [if_pos e5]
        unfold tlB at e
        rw [al_iff] at e
        exact of_decide_eq_true (e v e5)
      · rw [if_neg e5]
        exact bst_lt (fun p => gn T U H 0 p v) (show (none : Option Nat).getD 0 < P from hP) P (Nat.le_refl _)
    obtain ⟨M3, g1, g2⟩ := m_isRest w (h.fr (fun a c q => f2 a c (by omega))) hP (ch := chR P V T U H row) (fun v hv => ⟨f3 v hv, hd v hv⟩)
    rw [bt1 e, if_pos e, g1, pv_cal_some]
    refine ⟨M3, ?_, fun a c q => by rw [g2 a c (by omega)]; exact f2 a c (by omega)⟩
    by_cases e5 : rsB P V T U H (chR P V T U H row) = true
    · rw [bt1 e5, if_pos e5]
    · rw [bt0 e5, if_neg e5]
  · rw [bt0 e, if_neg e]
    exact ⟨M2, rfl, fun a c q => f2 a c (by omega)⟩
theorem rst_1 {row : Nat} : (rst P V T U H row = 1) = ((tlB P V row && rsB P V T U H (chR P V T U H row)) = true) := by
  unfold rst
  by_cases e : tlB P V row = true
  · rw [if_pos e, e, Bool.true_and]
    by_cases e5 : rsB P V T U H (chR P V T U H row) = true
    · rw [if_pos e5, e5]
      simp
    · rw [if_neg e5]
      simp [e5]
  · rw [if_neg e]
    simp [e]
theorem m_rests (w : WF P V T U H) (h : MR M P V T U H) : ∃ M', f_X9_restsNow M = some (nI (if P = 0 then 0 else rsts P V T U H), M') ∧ ∀ a c, ¬ (a = 213 ∨ a = 214) → M'.1 a c = M.1 a c := by
  have hw := w.1
  have hw2 := w.2.1
  have h6 := six_le V
  obtain ⟨z1, z2, z3, z4⟩ := h M SM.rf
  have h4 : 4 ^ six V ≤ 4096 := Nat.le_trans (Nat.pow_le_pow_right (by decide) h6.1) (by decide)
  have hsh : (1 : Int32) <<< ((2 * nI (six V)) &&& 31) = nI (4 ^ six V) := (show ∀ s, s ≤ 6 → (1 : Int32) <<< ((2 * nI s) &&& 31) = nI (4 ^ s) by decide +kernel) _ h6.1
  unfold f_X9_restsNow
  by_cases hP : P = 0
  · rw [if_pos hP]
    refine ⟨M, ?_, fun _ _ _ => rfl⟩
    show f_X9_restsNow_L4 (pv_lp3 f_X9_restsNow_L4 4999) 0 0 M = _
    unfold f_X9_restsNow_L4
    rw [m_six h w, pv_cap_some, hsh, if_neg (show ¬ nI (4 ^ six V) ≤ 0 from nI_nle (Nat.pow_pos (by decide)) (by omega)), show (0 : Int32) = nI 0 from rfl, ld_203 (by decide), z1, hP, if_pos (by decide)]
  · rw [if_neg hP]
    have hP0 : 0 < P := by omega
    refine for3b (4 ^ six V) (fun r (x : Int32) (S : pv_M) => x = nI (fa_cnt (fun row => tlB P V row && rsB P V T U H (chR P V T U H row)) r) ∧ ∀ a c, ¬ (a = 213 ∨ a = 214) → S.1 a c = M.1 a c) (fun q => ∃ M' : pv_M, q = some (nI (rsts P V T U H), M') ∧ ∀ a c, ¬ (a = 213 ∨ a = 214) → M'.1 a c = M.1 a c) ?_ ?_ pv_FU 0 0 M (Nat.zero_le _) (by show 4 ^ six V - 0 < 5000; omega) ⟨rfl, fun _ _ _ => rfl⟩
    · rintro rec x S ⟨rfl, s1⟩
      unfold f_X9_restsNow_L4
      rw [m_six (h.fr (fun a c q => s1 a c (by omega))) w, pv_cap_some, hsh, if_pos (nI_le (Nat.le_refl _) (by omega))]
      exact ⟨S, rfl, s1⟩
    · rintro rec r x S hr ⟨rfl, s1⟩ hrec
      have hS := h.fr (M' := S) (fun a c q => s1 a c (by omega))
      obtain ⟨M2, g1, g2⟩ := m_restOf w hS hP0 (row := r) (by omega)
      unfold f_X9_restsNow_L4
      rw [m_six hS w, pv_cap_some, hsh, if_neg (nI_ge hr (by omega)), show pv_ldI pv_T 203 0 S = fun f => pv_ldI pv_T 203 (nI 0) S f from rfl]
      dsimp only
      rw [ld_203 (by decide), s1 _ _ (by omega), z1, if_neg (nI_nle hP0 (by omega)), g1, pv_cal_some, pv_jn_eq, nI_1]
      simp only [rst_1]
      by_cases e : (tlB P V r && rsB P V T U H (chR P V T U H r)) = true
      · rw [if_pos e]
        rw [pv_nm_eq, nI_1]
        exact hrec _ _ ⟨by rw [cnt_if, if_pos e], fun a c q => by rw [g2 a c q]; exact s1 a c q⟩
      · rw [if_neg e]
        rw [pv_nm_eq, show (0 : Int32) = nI 0 from rfl, nI_add]
        exact hrec _ _ ⟨by rw [cnt_if, if_neg e], fun a c q => by rw [g2 a c q]; exact s1 a c q⟩
def rstV (P V : Nat) (T : Nat → Nat → Nat → Nat) (U : Nat → Nat) (H : Nat → Int) (row : Nat) : Int32 := if P = 0 then -3 else rst P V T U H row
theorem ms_rest (w : WF P V T U H) (h : MR M P V T U H) {row : Nat} (hr : row < 4096) : ∃ M', f_X9_restOf (nI row) M = some (rstV P V T U H row, M') ∧ ∀ a c, ¬ (a = 213 ∨ a = 214) → M'.1 a c = M.1 a c := by
  by_cases hP : P = 0
  · refine ⟨M, ?_, fun _ _ _ => rfl⟩
    unfold f_X9_restOf rstV
    rw [show pv_ldI pv_T 203 0 M = fun f => pv_ldI pv_T 203 (nI 0) M f from rfl]
    dsimp only
    rw [ld_203 (by decide), (h M SM.rf).1, hP, if_pos (by decide), if_pos rfl]
  · obtain ⟨M', e1, e2⟩ := m_restOf w h (by omega) hr
    exact ⟨M', by rw [e1]; unfold rstV; rw [if_neg hP], e2⟩
theorem xs_rest (K : KS BAo c v M n b cn cf kn kf bn bf l d pu ra rb P V T U H) (hc : c < 900) {row : Nat} (hr : row < 4096) : ∃ M', f_X8_rest (nI row) M = some (rstV P V T U H row, M') ∧ KS BAo c v M' n b cn cf kn kf bn bf l d pu ra rb P V T U H ∧ ∀ a c, ¬ (a = 159 ∨ a = 160 ∨ (163 ≤ a ∧ a ≤ 168)) → M'.1 a c = M.1 a c := by
  have hX := K.xr
  have hw := K.wf
  have hw1 := hw.1
  unfold f_X8_rest rstV
  rw [w_0_4095, pv_cap_some, bt1 ⟨nI_le (Nat.zero_le _) (by omega), nI_le (show row ≤ 4095 by omega) (by decide)⟩, K.settle hc, pv_cal_some, pv_nm_eq, hX.1, ite_eq0 (by omega)]
  by_cases hP : P = 0
  · rw [if_pos hP, if_pos hP]
    exact ⟨M, rfl, K, fun _ _ _ => rfl⟩
  · rw [if_neg hP, if_neg hP, x_told hX hw hr, pv_cap_some]
    unfold rst
    by_cases e : tlB P V row = true
    · obtain ⟨M1, e1, e2⟩ := x_rest hX hw (by omega) hr e
      rw [bt1 e, if_pos e, e1, pv_cal_some]
      refine ⟨M1, ?_, K.frB (fun k j q => e2 k j (by omega)) (K.ba.keep (fun a c q => e2 a c (by omega))), e2⟩
      by_cases e5 : rsB P V T U H (chR P V T U H row) = true
      · rw [bt1 e5, if_pos e5]
      · rw [bt0 e5, if_neg e5]
    · rw [bt0 e, if_neg e]
      exact ⟨M, rfl, K, fun _ _ _ => rfl⟩
theorem op_rest (a1 : Int32) : OP RIo (CAo BAo) (f_X8_rest a1) (f_X9_rest a1) := by
  by_cases g1 : nI 0 ≤ a1 ∧ a1 ≤ nI 4095
  · refine OP_of BAo_ok (fun M M1 e1 e2 _ => by unfold f_X8_rest; rw [w_0_4095, pv_cap_some, bt1 g1, e1, w_0_4095, pv_cap_some, bt1 g1, e2]) ?_
    intro c v M n b cn cf kn kf bn bf l d pu ra rb P V T U H K hc
    obtain ⟨row, hr, rfl⟩ := rng (by decide) g1
    obtain ⟨M1, e1, K1, -⟩ := xs_rest K (by omega) (show row < 4096 by omega)
    obtain ⟨M2, y1, y2, y3, y4⟩ := K1.readsT
    have K2 := K1.frM BAo_ok y2.M
    obtain ⟨M3, f1, f2⟩ := ms_rest K.wf y4 (show row < 4096 by omega)
    refine ⟨_, M1, M3, e1, ?_, (K2.frM BAo_ok (fun k j q => f2 k j (fun z => q (by unfold PM; omega)))).inv BAo_ok⟩
    unfold f_X9_rest
    rw [y1, pv_cal_some, i_0_4095, pv_cap_some, bt1 g1, f1, pv_cal_some]
  · intro c M hc hI
    obtain ⟨M2, e2, e3⟩ := reads_bad hI
    refine ⟨-2, M, M2, ?_, ?_, e3⟩
    · unfold f_X8_rest
      rw [w_0_4095, pv_cap_some, bt0 g1]
    · unfold f_X9_rest
      rw [e2, pv_cal_some, i_0_4095, pv_cap_some, bt0 g1]
end MR1
