def btp (D : Nat → Bool) : Nat → Nat
  | 0 => 0
  | p + 1 => btp D p ||| (if D p = true then 2 ^ p else 0)
theorem btp_bit (D : Nat → Bool) : ∀ n j, (btp D n).testBit j = (decide (j < n) && D j)
  | 0, j => by
    show (0 : Nat).testBit j = _
    rw [Nat.zero_testBit, decide_eq_false (by omega), Bool.false_and]
  | n + 1, j => by
    unfold btp
    rw [Nat.testBit_or, btp_bit D n j]
    by_cases e : j = n
    · subst e
      rw [decide_eq_false (by omega), decide_eq_true (by omega), Bool.false_and, Bool.false_or, Bool.true_and]
      by_cases h : D j = true
      · rw [if_pos h, Nat.testBit_two_pow, h]
        simp
      · rw [if_neg h, Nat.zero_testBit]
        simpa using h
    · have h2 : (if D n = true then 2 ^ n else 0).testBit j = false := by
        by_cases h : D n = true
        · rw [if_pos h, Nat.testBit_two_pow, decide_eq_false (by omega)]
        · rw [if_neg h, Nat.zero_testBit]
      rw [h2, Bool.or_false]
      by_cases e2 : j < n
      · rw [decide_eq_true e2, decide_eq_true (show j < n + 1 by omega)]
      · rw [decide_eq_false e2, decide_eq_false (show ¬ j < n + 1 by omega)]
theorem btp_lt {D : Nat → Bool} {n : Nat} (hn : n ≤ 4) : btp D n < 16 := by
  have : btp D n < 2 ^ 4 := Nat.lt_pow_two_of_testBit _ (fun i hi => by rw [btp_bit, decide_eq_false (by omega), Bool.false_and])
  omega
theorem bitp {b p : Nat} (hb : b < 16) (hp : p < 4) : ((nI b >>> (nI p &&& 31)) &&& 1 = 0) = (b.testBit p = false) := by
  have h := (show ∀ b, b < 16 → ∀ p, p < 4 → (decide ((nI b >>> (nI p &&& 31)) &&& 1 = 0) = decide (b.testBit p = false)) by decide +kernel) b hb p hp
  exact propext ⟨fun q => of_decide_eq_true (h ▸ decide_eq_true q), fun q => of_decide_eq_true (h.symm ▸ decide_eq_true q)⟩
section RR
variable {BA : pv_BA} {c v : Nat} {M : pv_M} {n : Nat → Nat} {b : Nat → Nat → Nat} {cn : Nat} {cf : Nat → Nat → Nat} {kn : Nat} {kf : Nat → Nat → Nat} {bn : Nat} {bf : Nat → Nat → Nat} {l d : Nat} {pu ra rb : Nat → Nat} {P V : Nat} {T : Nat → Nat → Nat → Nat} {U : Nat → Nat} {H : Nat → Int}
theorem x_rows (w : WF P V T U H) {C : Nat → Nat → Bool} : ∀ (k D i : Nat) (u : Nat → Nat) (M : pv_M), k < D → i + k = six V → XR M.1 P V T U H → (∀ j, j < six V → M.1 169 j = nI (btp (C j) P)) → (∀ p, p < P → M.1 161 p = nI (u p) ∧ u p ≤ 6) → ∃ M', f_X0_rowsFrom D (nI i) M = some (nI (rwf P (six V) C k u), M') ∧ ∀ a c, M'.1 a c = M.1 a c
  | k, 0, i, u, M, h, _, _, _, _ => absurd h (Nat.not_lt_zero _)
  | 0, D + 1, i, u, M, hD, hi, hX, hb, hu => by
    have h6 := six_le V
    refine ⟨M, ?_, fun _ _ => rfl⟩
    show f_X0_rowsFrom_B (f_X0_rowsFrom D) (nI i) M = _
    unfold f_X0_rowsFrom_B
    rw [x_players hX w, pv_cap_some, if_neg (nI_nlt (by omega) (by omega))]
    rfl
  | k + 1, D + 1, i, u, M, hD, hi, hX, hb, hu => by
    have h6 := six_le V
    have hw := w.1
    have him : i = six V - (k + 1) := by omega
    show ∃ M', f_X0_rowsFrom_B (f_X0_rowsFrom D) (nI i) M = some (nI (rwf P (six V) C (k + 1) u), M') ∧ ∀ a c, M'.1 a c = M.1 a c
    unfold f_X0_rowsFrom_B
    rw [x_players hX w, pv_cap_some, if_pos (nI_lt (show i < six V by omega) (by omega))]
    obtain ⟨F, hF⟩ : ∃ F : Nat → Nat, F = fun p => if 0 < u p ∧ C (six V - (k + 1)) p = true then rwf P (six V) C k (dcr u p) else 0 := ⟨_, rfl⟩
    rw [show rwf P (six V) C (k + 1) u = fb_sm F P by rw [hF]; rfl]
    refine for3b P (fun p (x : Int32) (S : pv_M) => x = nI (fb_sm F p) ∧ ∀ a c, S.1 a c = M.1 a c) (fun q => ∃ M' : pv_M, q = some (nI (fb_sm F P), M') ∧ ∀ a c, M'.1 a c = M.1 a c) ?_ ?_ pv_FU 0 0 M (Nat.zero_le _) (by show P - 0 < 5000; omega) ⟨rfl, fun _ _ => rfl⟩
    · rintro rec x S ⟨rfl, hS⟩
      unfold f_X0_rowsFrom_L14
      rw [pv_nm_eq, hS, hX.1, if_pos (nI_le (Nat.le_refl _) (by omega))]
      exact ⟨S, rfl, hS⟩
    · rintro rec p x S hp ⟨rfl, hS⟩ hrec
      obtain ⟨u1, u2⟩ := hu p hp
      unfold f_X0_rowsFrom_L14
      rw [pv_nm_eq, hS, hX.1, if_neg (nI_ge hp (by omega)), ld_161 (by omega), hS, u1, ite_eq0 (by omega), nI_1, ld_169 (by omega), hS, hb i (by omega)]
      have hno : ¬ (0 < u p ∧ C (six V - (k + 1)) p = true) → ∃ M', rec (nI (fb_sm F p)) (nI (p + 1)) S = some (nI (fb_sm F P), M') ∧ ∀ a c, M'.1 a c = M.1 a c := fun e => hrec _ _ ⟨by
        rw [fb_sm_succ, show F p = 0 by rw [hF]; exact if_neg e, Nat.add_zero], hS⟩
      by_cases e0 : u p = 0
      · rw [if_pos e0]
        exact hno (by omega)
      · rw [if_neg e0]
        simp only [bitp (btp_lt hw) (show p < 4 by omega), btp_bit, decide_eq_true hp, Bool.true_and]
        by_cases e1 : C i p = true
        · rw [if_neg (by rw [e1]; decide), ld_161 (by omega), hS, u1, show (1 : Int32) = nI 1 from rfl, pk_sub (by omega), st_161 (by omega), nI_add]
          have hX2 : XR (pv_u S.1 161 p (nI (u p - 1))) P V T U H := hX.fr (fun a c q => by rw [u_if, if_neg (by omega), hS])
          obtain ⟨M3, f1, f2⟩ := x_rows w (C := C) k D (i + 1) (dcr u p) (pv_u S.1 161 p (nI (u p - 1)), S.2) (by omega) (by omega) hX2 (fun j hj => by rw [fst_u, if_neg (by omega), hS]; exact hb j hj) (fun q hq => by
            rw [fst_u]
            unfold dcr
            by_cases e : q = p
            · rw [if_pos ⟨rfl, e⟩, if_pos e]
              exact ⟨rfl, by omega⟩
            · rw [if_neg (fun z => e z.2), if_neg e, hS]
              exact hu q hq)
          rw [f1, pv_cal_some, nI_add, pv_nm_eq, ld_161 (by omega), f2, fst_u, if_pos ⟨rfl, rfl⟩, nI_add, st_161 (by omega), show u p - 1 + 1 = u p by omega]
          refine hrec _ _ ⟨by rw [fb_sm_succ, show F p = rwf P (six V) C k (dcr u p) by rw [hF]; exact if_pos ⟨by omega, by rw [← him]; exact e1⟩], fun a c => ?_⟩
          rw [fst_u, f2, fst_u]
          by_cases e : a = 161 ∧ c = p
          · rw [if_pos e, e.1, e.2, u1]
          · rw [if_neg e, if_neg e]
            exact hS a c
        · rw [if_pos (by simpa using e1)]
          exact hno (fun q => e1 (by rw [him]; exact q.2))
theorem x_sums (w : WF P V T U H) (hP : 0 < P) {s : Nat → Nat} (hX : XR M.1 P V T U H) (ht : ∀ p, p < P → M.1 160 p = nI (s p + bas P V T U H p)) (hu : ∀ p, p < P → M.1 161 p = nI (s p) ∧ s p ≤ 6) (hg : ∀ v p, v < six V → p < P → M.1 (163 + v) p = iI (gn T U H 0 p v)) : ∃ M', f_X0_restsOfSums M = some (nI (Wsp P V T U H s), M') ∧ ∀ a c, a ≠ 169 → M'.1 a c = M.1 a c := by
  have h6 := six_le V
  have hw := w.1
  have hw2 := w.2.1
  have hbas : ∀ p, bas P V T U H p ≤ V := fun p => fa_cnt_le _ _
  unfold f_X0_restsOfSums
  rw [x_players hX w, pv_cap_some, pv_jn_eq]
  refine for2 (six V) (fun j (S : pv_M) => (∀ a c, a ≠ 169 → S.1 a c = M.1 a c) ∧ ∀ x, x < j → S.1 169 x = nI (btp (DsB P V T U H s x) P)) (fun q => ∃ M' : pv_M, q = some (nI (Wsp P V T U H s), M') ∧ ∀ a c, a ≠ 169 → M'.1 a c = M.1 a c) ?_ ?_ pv_FU 0 M (Nat.zero_le _) (by show six V - 0 < 5000; omega) ⟨fun _ _ _ => rfl, fun x hx => absurd hx (Nat.not_lt_zero _)⟩
  · rintro rec S ⟨s1, s2⟩
    unfold f_X0_restsOfSums_L7
    rw [if_pos (nI_le (Nat.le_refl _) (by omega))]
    dsimp only
    obtain ⟨M2, f1, f2⟩ := x_rows w (C := DsB P V T U H s) (six V) 10 0 s S (by omega) (by omega) (hX.fr (fun a c q => s1 a c (by omega))) s2 (fun p hp => by rw [s1 _ _ (by decide)]; exact hu p hp)
    rw [show f_X0_rowsFrom 10 0 S = _ from f1, pv_cal_some]
    exact ⟨M2, rfl, fun a c q => by rw [f2]; exact s1 a c q⟩
  · rintro rec j S hj ⟨s1, s2⟩ hrec
    unfold f_X0_restsOfSums_L7
    rw [if_neg (nI_ge hj (by omega)), pv_jn_eq]
    refine for3b P (fun p (x : Int32) (S' : pv_M) => x = nI (btp (DsB P V T U H s j) p) ∧ ∀ a c, S'.1 a c = S.1 a c) (fun q => ∃ M' : pv_M, q = some (nI (Wsp P V T U H s), M') ∧ ∀ a c, a ≠ 169 → M'.1 a c = M.1 a c) ?_ ?_ pv_FU 0 0 S (Nat.zero_le _) (by show P - 0 < 5000; omega) ⟨rfl, fun _ _ => rfl⟩
    · rintro rec2 x S' ⟨rfl, q1⟩
      unfold f_X0_restsOfSums_L17
      rw [pv_nm_eq, q1, s1 _ _ (by decide), hX.1, if_pos (nI_le (Nat.le_refl _) (by omega))]
      dsimp only
      rw [st_169 (by omega), nI_1]
      refine hrec _ ⟨fun a c q => by rw [fst_u, if_neg (by omega), q1]; exact s1 a c q, fun x hx => ?_⟩
      rw [fst_u]
      by_cases e : x = j
      · rw [if_pos ⟨rfl, e⟩, e]
      · rw [if_neg (fun z => e z.2), q1]
        exact s2 x (by omega)
    · rintro rec2 p x S' hp ⟨rfl, q1⟩ hrec2
      obtain ⟨u1, u2⟩ := hu p hp
      unfold f_X0_restsOfSums_L17
      rw [pv_nm_eq, q1, s1 _ _ (by decide), hX.1, if_neg (nI_ge hp (by omega)), ld_161 (by omega), q1, s1 _ _ (by decide), u1, show (0 : Int32) = nI 0 from rfl, ite_le (by omega) (by decide), nI_1]
      by_cases e0 : s p ≤ 0
      · rw [if_pos e0]
        refine hrec2 _ _ ⟨?_, q1⟩
        conv => rhs; unfold btp
        rw [if_neg, Nat.or_zero]
        unfold DsB
        rw [decide_eq_false (by omega), Bool.false_and]
        decide
      · rw [if_neg e0]
        have hX' : XR S'.1 P V T U H := hX.fr (fun a c q => by rw [q1]; exact s1 a c (by omega))
        obtain ⟨N, f1, f2⟩ := x_content hX' w (t := fun p => s p + bas P V T U H p) hj hp (fun q hq => by
          rw [q1, s1 _ _ (by decide)]
          exact ⟨ht q hq, by have := (hu q hq).2; have := hbas q; omega⟩) (by omega) (fun q hq => by rw [q1, s1 _ _ (by omega)]; exact hg j q hj hq)
        rw [f1, pv_cal_some, shl1 (by omega), fa_or, pv_nm_eq]
        have hD : DsB P V T U H s j p = ctb P T U H (fun p => s p + bas P V T U H p) j p := by
          unfold DsB
          rw [decide_eq_true (by omega), Bool.true_and]
        by_cases e : ctb P T U H (fun p => s p + bas P V T U H p) j p = true
        · rw [bn1 e]
          refine hrec2 _ _ ⟨?_, fun a c => by rw [f2]; exact q1 a c⟩
          conv => rhs; unfold btp
          rw [hD, if_pos e]
        · rw [bn0 e]
          refine hrec2 _ _ ⟨?_, fun a c => by rw [f2]; exact q1 a c⟩
          conv => rhs; unfold btp
          rw [hD, if_neg e, Nat.or_zero]
theorem x_spread (w : WF P V T U H) (hP : 0 < P) : ∀ (k D p left : Nat) (s : Nat → Nat) (M : pv_M), k < D → p + k = P → left ≤ 6 → XR M.1 P V T U H → (∀ q, q < P → M.1 160 q = nI ((if q < p then s q else 0) + bas P V T U H q)) → (∀ q, q < p → M.1 161 q = nI (s q) ∧ s q ≤ 6) → (∀ v q, v < six V → q < P → M.1 (163 + v) q = iI (gn T U H 0 q v)) → ∃ M', f_X0_restsOfSpread D (nI p) (nI left) M = some (nI (spd P (Wsp P V T U H) k left s), M') ∧ ∀ a c, ¬ (a = 169 ∨ (a = 161 ∧ p ≤ c)) → M'.1 a c = M.1 a c
  | k, 0, p, left, s, M, h, _, _, _, _, _, _ => absurd h (Nat.not_lt_zero _)
  | 0, D + 1, p, left, s, M, hD, hp, hl, hX, ht, hu, hg => by
    have hw := w.1
    have e : p = P := by omega
    subst e
    show ∃ M', f_X0_restsOfSpread_B (f_X0_restsOfSpread D) (nI p) (nI left) M = some (nI (if left = 0 then Wsp p V T U H s else 0), M') ∧ _
    unfold f_X0_restsOfSpread_B
    rw [pv_nm_eq, hX.1, if_neg (nI_nlt (Nat.le_refl _) (by omega)), ite_eq0 (by omega)]
    by_cases e0 : left = 0
    · obtain ⟨M2, f1, f2⟩ := x_sums w hP (s := s) hX (fun q hq => by rw [ht q hq, if_pos hq]) hu hg
      rw [if_pos e0, if_pos e0, f1, pv_cal_some]
      exact ⟨M2, rfl, fun a c q => f2 a c (by omega)⟩
    · rw [if_neg e0, if_neg e0]
      exact ⟨M, rfl, fun _ _ _ => rfl⟩
  | k + 1, D + 1, p, left, s, M, hD, hp, hl, hX, ht, hu, hg => by
    have hw := w.1
    have hpk : p = P - (k + 1) := by omega
    obtain ⟨F, hF⟩ : ∃ F : Nat → Nat, F = fun x => spd P (Wsp P V T U H) k (left - x) (upN s p x) := ⟨_, rfl⟩
    show ∃ M', f_X0_restsOfSpread_B (f_X0_restsOfSpread D) (nI p) (nI left) M = some (nI (fb_sm (fun x => spd P (Wsp P V T U H) k (left - x) (upN s (P - (k + 1)) x)) (left + 1)), M') ∧ _
    rw [← hpk, ← hF]
    unfold f_X0_restsOfSpread_B
    rw [pv_nm_eq, hX.1, if_pos (nI_lt (show p < P by omega) (by omega))]
    have tp := ht p (by omega)
    rw [if_neg (Nat.lt_irrefl _), Nat.zero_add] at tp
    refine for3b (left + 1) (fun x (y : Int32) (S : pv_M) => y = nI (fb_sm F x) ∧ ∀ a c, ¬ (a = 169 ∨ (a = 161 ∧ p ≤ c)) → S.1 a c = M.1 a c) (fun q => ∃ M' : pv_M, q = some (nI (fb_sm F (left + 1)), M') ∧ ∀ a c, ¬ (a = 169 ∨ (a = 161 ∧ p ≤ c)) → M'.1 a c = M.1 a c) ?_ ?_ pv_FU 0 0 M (Nat.zero_le _) (by show left + 1 - 0 < 5000; omega) ⟨rfl, fun _ _ _ => rfl⟩
    · rintro rec y S ⟨rfl, s1⟩
      unfold f_X0_restsOfSpread_L29
      rw [if_pos (nI_lt (Nat.lt_succ_self _) (by omega))]
      exact ⟨S, rfl, s1⟩
    · rintro rec x y S hx ⟨rfl, s1⟩ hrec
      unfold f_X0_restsOfSpread_L29
      rw [if_neg (nI_nlt (show x ≤ left by omega) (by omega)), ld_160 (by omega), s1 _ _ (by omega), tp, nI_add, st_160 (by omega), st_161 (by omega), nI_1, nI_1, pk_sub (show x ≤ left by omega)]
      obtain ⟨N, hN⟩ : ∃ N : pv_M, N = (pv_u (pv_u S.1 160 p (nI (bas P V T U H p + x))) 161 p (nI x), S.2) := ⟨_, rfl⟩
      have hNc : ∀ a c, N.1 a c = if a = 161 ∧ c = p then nI x else if a = 160 ∧ c = p then nI (bas P V T U H p + x) else S.1 a c := fun a c => by rw [hN, fst_u, u_if]
      obtain ⟨M4, f1, f2⟩ := x_spread w hP k D (p + 1) (left - x) (upN s p x) N (by omega) (by omega) (by omega) (hX.fr (fun a c q => by rw [hNc, if_neg (by omega), if_neg (by omega)]; exact s1 a c (by omega))) (fun q hq => by
        rw [hNc, if_neg (by omega)]
        unfold upN
        by_cases e : q = p
        · rw [if_pos ⟨rfl, e⟩, if_pos (by omega), if_pos e, e, Nat.add_comm]
        · rw [if_neg (fun z => e z.2), s1 _ _ (by omega), ht q hq, if_neg e]
          by_cases e2 : q < p
          · rw [if_pos e2, if_pos (by omega)]
          · rw [if_neg e2, if_neg (by omega)]) (fun q hq => by
        rw [hNc]
        unfold upN
        by_cases e : q = p
        · rw [if_pos ⟨rfl, e⟩, if_pos e]
          exact ⟨rfl, by omega⟩
        · rw [if_neg (fun z => e z.2), if_neg (by omega), s1 _ _ (by omega), if_neg e]
          exact hu q (by omega)) (fun v q hv hq => by
        have h6 := six_le V
        rw [hNc, if_neg (by omega), if_neg (by omega), s1 _ _ (by omega)]
        exact hg v q hv hq)
      dsimp only
      rw [← hN, f1, pv_cal_some, nI_add, pv_nm_eq, ld_160 (by omega), f2 _ _ (by omega), hNc, if_neg (by omega), if_pos ⟨rfl, rfl⟩, pk_sub (by omega), st_160 (by omega)]
      refine hrec _ _ ⟨by rw [fb_sm_succ, hF], fun a c q => ?_⟩
      rw [fst_u, show bas P V T U H p + x - x = bas P V T U H p by omega]
      by_cases e : a = 160 ∧ c = p
      · rw [if_pos e, e.1, e.2, tp]
      · rw [if_neg e, f2 _ _ (by omega), hNc, if_neg (by omega), if_neg e]
        exact s1 a c q
theorem x_restful (K : KS BAo c v M n b cn cf kn kf bn bf l d pu ra rb P V T U H) (hc : c < 900) : ∃ M', f_X0_restfulRows M = some (nI (if P = 0 then 0 else rsts P V T U H), M') ∧ KS BAo c v M' n b cn cf kn kf bn bf l d pu ra rb P V T U H ∧ ∀ a c, ¬ (158 ≤ a ∧ a ≤ 169) → M'.1 a c = M.1 a c := by
  have hX := K.xr
  have w := K.wf
  have hw := w.1
  obtain ⟨v1, v2, v3⟩ := K.ver
  have h6 := six_le V
  obtain ⟨⟨a, a1, a2, a3⟩, hwn⟩ := K.ba
  unfold f_X0_restfulRows
  rw [pv_nm_eq, hX.1, ite_eq0 (by omega)]
  by_cases hP : P = 0
  · rw [if_pos hP, if_pos hP]
    exact ⟨M, rfl, K, fun _ _ _ => rfl⟩
  · have hP0 : 0 < P := by omega
    rw [if_neg hP, if_neg hP, pv_nm_eq, a2, pv_nm_eq, v3, ite_eq (by omega) (by omega)]
    by_cases e : a = v
    · rw [if_pos e, pv_nm_eq, a3 e v2 hP0]
      exact ⟨M, rfl, K, fun _ _ _ => rfl⟩
    · rw [if_neg e, pv_nm_eq, pv_nm_eq]
      have hX1 : XR (pv_u M.1 158 11 (nI v)) P V T U H := hX.fr (fun x y q => by rw [u_if, if_neg (by omega)])
      obtain ⟨M2, e1, e2, e3, e4⟩ := x_prepare (M := (pv_u M.1 158 11 (nI v), M.2)) hX1 w hP0
      have hX2 : XR M2.1 P V T U H := hX1.fr (fun x y q => e2 x y (by omega))
      obtain ⟨M3, f1, f2⟩ := x_spread w hP0 P 10 0 (six V) (fun _ => 0) M2 (by omega) (by omega) h6.1 hX2 (fun q hq => by rw [if_neg (Nat.not_lt_zero _), Nat.zero_add]; exact e3 q (by omega)) (fun q hq => absurd hq (Nat.not_lt_zero _)) e4
      rw [rsts_eq hP0 hw] at f1
      rw [e1, pv_cal_some, x_players hX2 w, pv_cap_some, show f_X0_restsOfSpread 10 0 (nI (six V)) M2 = _ from f1, pv_cal_some, pv_nm_eq, pv_nm_eq, fst_u, if_pos ⟨rfl, rfl⟩]
      have hF : ∀ x y, ¬ (158 ≤ x ∧ x ≤ 169) → (pv_u M3.1 158 12 (nI (rsts P V T U H)), M3.2).1 x y = M.1 x y := fun x y q => by
        rw [fst_u, if_neg (by omega), f2 _ _ (by omega), e2 _ _ (by omega), fst_u, if_neg (by omega)]
      refine ⟨_, rfl, K.frB (fun k j q => hF k j (by omega)) ⟨⟨v, Nat.le_refl _, ?_, fun _ _ _ => ?_⟩, fun p hp => ?_⟩, hF⟩
      · rw [fst_u, if_neg (by omega), f2 _ _ (by omega), e2 _ _ (by omega), fst_u, if_pos ⟨rfl, rfl⟩]
      · rw [fst_u, if_pos ⟨rfl, rfl⟩]
      · obtain ⟨b', b1, b2, b3⟩ := hwn p hp
        exact ⟨b', b1, by rw [hF _ _ (by omega)]; exact b2, fun q1 q2 q3 => by rw [hF 172 _ (by omega), hF 173 _ (by omega)]; exact b3 q1 q2 q3⟩
theorem xs_rests (K : KS BAo c v M n b cn cf kn kf bn bf l d pu ra rb P V T U H) (hc : c < 900) : ∃ M', f_X8_rests M = some (nI (if P = 0 then 0 else rsts P V T U H), M') ∧ KS BAo c v M' n b cn cf kn kf bn bf l d pu ra rb P V T U H ∧ ∀ a c, ¬ (158 ≤ a ∧ a ≤ 169) → M'.1 a c = M.1 a c := by
  obtain ⟨M', e1, e2, e3⟩ := x_restful K hc
  refine ⟨M', ?_, e2, e3⟩
  unfold f_X8_rests
  rw [K.settle hc, pv_cal_some, e1, pv_cal_some]
theorem op_rests : OP RIo (CAo BAo) f_X8_rests f_X9_rests := by
  refine OP_of BAo_ok (fun M M1 e1 e2 _ => by unfold f_X8_rests; rw [e1, e2]) ?_
  intro c v M n b cn cf kn kf bn bf l d pu ra rb P V T U H K hc
  obtain ⟨M1, e1, K1, -⟩ := xs_rests K (by omega)
  obtain ⟨M2, y1, y2, y3, y4⟩ := K1.readsT
  have K2 := K1.frM BAo_ok y2.M
  obtain ⟨M3, f1, f2⟩ := m_rests K.wf y4
  refine ⟨_, M1, M3, e1, ?_, (K2.frM BAo_ok (fun k j q => f2 k j (fun z => q (by unfold PM; omega)))).inv BAo_ok⟩
  unfold f_X9_rests
  rw [y1, pv_cal_some, f1, pv_cal_some]
end RR
