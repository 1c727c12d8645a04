section RO
variable {BA : pv_BA} {c v : Nat} {M : pv_M} {n : Nat → Nat} {b : Nat → Nat → Nat} {cn : Nat} {cf : Nat → Nat → Nat} {kn : Nat} {kf : Nat → Nat → Nat} {bn : Nat} {bf : Nat → Nat → Nat} {l d : Nat} {pu ra rb : Nat → Nat} {P V : Nat} {T : Nat → Nat → Nat → Nat} {U : Nat → Nat} {H : Nat → Int}
theorem x_round (h7 : I7 M ra rb) : ∃ M', f_X6_findRound M = some ((), M') ∧ M'.1 183 0 = nI (upS ra (rnd ra rb 3) / Nat.gcd (upS ra (rnd ra rb 3)) (upS rb (rnd ra rb 3))) ∧ M'.1 183 1 = nI (upS rb (rnd ra rb 3) / Nat.gcd (upS ra (rnd ra rb 3)) (upS rb (rnd ra rb 3))) ∧ M'.1 183 2 = nI (lnS (rnd ra rb 3)) ∧ (∀ i, i < lnS (rnd ra rb 3) → M'.1 184 i = nI (twS (rnd ra rb 3) i)) ∧ ∀ a c, ¬ (183 ≤ a ∧ a ≤ 185) → M'.1 a c = M.1 a c := by
  have hr : RAg ra rb := ⟨fun k hk => ⟨(h7 k hk).1.1, (h7 k hk).1.2.1⟩, fun k hk => ⟨(h7 k hk).1.2.2.1, (h7 k hk).1.2.2.2⟩⟩
  unfold f_X6_findRound
  rw [pv_nm_eq, pv_nm_eq, pv_nm_eq, pv_jn_eq]
  generalize hN : ((pv_u (pv_u (pv_u M.1 183 0 1, M.2).1 183 1 1, (pv_u M.1 183 0 1, M.2).2).1 183 2 0, (pv_u (pv_u M.1 183 0 1, M.2).1 183 1 1, (pv_u M.1 183 0 1, M.2).2).2) : pv_M) = N
  have hNc : ∀ a c, N.1 a c = if a = 183 ∧ c = 2 then 0 else if a = 183 ∧ c = 1 then 1 else if a = 183 ∧ c = 0 then 1 else M.1 a c := fun a c => by rw [← hN, fst_u, fst_u, fst_u]
  refine for2 5 (fun L (S : pv_M) => 2 ≤ L ∧ CB S ra rb (rnd ra rb (L - 2)) ∧ ∀ a c, ¬ (183 ≤ a ∧ a ≤ 185) → S.1 a c = M.1 a c) (fun q => ∃ M' : pv_M, q = some ((), M') ∧ M'.1 183 0 = nI (upS ra (rnd ra rb 3) / Nat.gcd (upS ra (rnd ra rb 3)) (upS rb (rnd ra rb 3))) ∧ M'.1 183 1 = nI (upS rb (rnd ra rb 3) / Nat.gcd (upS ra (rnd ra rb 3)) (upS rb (rnd ra rb 3))) ∧ M'.1 183 2 = nI (lnS (rnd ra rb 3)) ∧ (∀ i, i < lnS (rnd ra rb 3) → M'.1 184 i = nI (twS (rnd ra rb 3) i)) ∧ ∀ a c, ¬ (183 ≤ a ∧ a ≤ 185) → M'.1 a c = M.1 a c) ?_ ?_ pv_FU 2 N (by decide) (by decide) ⟨Nat.le_refl _, ⟨?_, ?_, ?_, ?_, ?_⟩, fun a c q => by rw [hNc, if_neg (by omega), if_neg (by omega), if_neg (by omega)]⟩
  · rintro rec S ⟨-, s1, s2⟩
    obtain ⟨s, hs⟩ : ∃ s, s = rnd ra rb 3 := ⟨_, rfl⟩
    have hln : lnS s ≤ 4 := by rw [hs]; exact rnd_ln 3 (by decide)
    rw [show rnd ra rb (5 - 2) = s from hs.symm] at s1
    rw [← hs]
    obtain ⟨c1, c2, c3, c4, c5⟩ := s1
    have u1 := upS_rg hr.1 hln
    have u2 := upS_rg hr.2 hln
    have hg : 0 < Nat.gcd (upS ra s) (upS rb s) := Nat.gcd_pos_of_pos_left _ u1.1
    have hgl : Nat.gcd (upS ra s) (upS rb s) ≤ upS ra s := Nat.gcd_le_left _ u1.1
    unfold f_X6_findRound_L17
    rw [if_pos (by decide)]
    unfold f_X6_findRound_J56
    rw [pv_nm_eq, c1, pv_nm_eq, c2, nI_l (by omega), nI_l (by omega), x_cd (by omega) (by omega) u1.1, pv_cap_some, lN_i, pv_nm_eq, pv_nm_eq, decide_eq_true (nI_ne0 hg (by omega)), pv_ck_true, pv_nm_eq, pv_nm_eq, fst_u, if_neg (by omega), c2, pv_ck_true, pv_nm_eq, pk_div (by omega) hg (by omega), pk_div (by omega) hg (by omega)]
    refine ⟨_, rfl, ?_, ?_, ?_, fun i hi => ?_, fun a c q => ?_⟩
    · rw [fst_u, if_neg (by omega), fst_u, if_pos ⟨rfl, rfl⟩]
    · rw [fst_u, if_pos ⟨rfl, rfl⟩]
    · rw [fst_u, if_neg (by omega), fst_u, if_neg (by omega)]
      exact c3
    · rw [fst_u, if_neg (by omega), fst_u, if_neg (by omega)]
      exact c5 i hi
    · rw [fst_u, if_neg (by omega), fst_u, if_neg (by omega)]
      exact s2 a c q
  · rintro rec L S hL ⟨hL2, s1, s2⟩ hrec
    obtain ⟨k, rfl⟩ : ∃ k, L = k + 2 := ⟨L - 2, by omega⟩
    rw [show k + 2 - 2 = k by omega] at s1
    obtain ⟨w, hw⟩ : ∃ w, w = 4 ^ (k + 2 - 1) := ⟨_, rfl⟩
    have h4 : 4 ^ (k + 2) = 4 * w := by rw [hw, show k + 2 - 1 = k + 1 by omega, show k + 2 = k + 1 + 1 by omega, Nat.pow_succ, Nat.mul_comm]
    unfold f_X6_findRound_L17
    rw [show (4 : Int32) = nI 4 from rfl, if_neg (nI_nlt (show k + 2 ≤ 4 by omega) (by decide))]
    refine for2 4 (fun f (R : pv_M) => CB R ra rb (scn ra rb (k + 2) 0 (rnd ra rb k) (f * w)) ∧ ∀ a c, ¬ (183 ≤ a ∧ a ≤ 185) → R.1 a c = M.1 a c) (fun q => ∃ M' : pv_M, q = some ((), M') ∧ M'.1 183 0 = nI (upS ra (rnd ra rb 3) / Nat.gcd (upS ra (rnd ra rb 3)) (upS rb (rnd ra rb 3))) ∧ M'.1 183 1 = nI (upS rb (rnd ra rb 3) / Nat.gcd (upS ra (rnd ra rb 3)) (upS rb (rnd ra rb 3))) ∧ M'.1 183 2 = nI (lnS (rnd ra rb 3)) ∧ (∀ i, i < lnS (rnd ra rb 3) → M'.1 184 i = nI (twS (rnd ra rb 3) i)) ∧ ∀ a c, ¬ (183 ≤ a ∧ a ≤ 185) → M'.1 a c = M.1 a c) ?_ ?_ pv_FU 0 S (Nat.zero_le _) (by decide) ⟨by rw [Nat.zero_mul]; exact s1, s2⟩
    · rintro rec2 R ⟨r1, r2⟩
      unfold f_X6_findRound_L24
      rw [if_pos (by decide), nI_1]
      refine hrec _ ⟨by omega, ?_, r2⟩
      rw [show k + 2 + 1 - 2 = k + 1 by omega]
      show CB R ra rb (scn ra rb (k + 2) 0 (rnd ra rb k) (4 ^ (k + 2)))
      rw [h4]
      exact r1
    · rintro rec2 f R hf ⟨r1, r2⟩ hrec2
      have hd : dgt 1 f 0 = f := by
        unfold dgt
        rw [show 1 - 1 - 0 = 0 by omega, Nat.pow_zero]
        omega
      obtain ⟨S', g1, g2, g3⟩ := x_goOn hr (m := k + 2) (by omega) 10 1 f (scn ra rb (k + 2) 0 (rnd ra rb k) (f * w)) (pv_u R.1 185 0 (nI f), R.2) (by omega) (by omega) (by omega) (fun j hj => by
        rw [fst_u, if_neg (by omega), fst_u, if_neg (by omega), r2 _ _ (by omega), r2 _ _ (by omega)]
        exact ⟨(h7 j hj).2.1, (h7 j hj).2.2.1⟩) (by
        obtain ⟨c1, c2, c3, c4, c5⟩ := r1
        exact ⟨by rw [fst_u, if_neg (by omega)]; exact c1, by rw [fst_u, if_neg (by omega)]; exact c2, by rw [fst_u, if_neg (by omega)]; exact c3, c4, fun i hi => by rw [fst_u, if_neg (by omega)]; exact c5 i hi⟩) (fun i hi => by
        rw [show i = 0 by omega, fst_u, if_pos ⟨rfl, rfl⟩, hd]) (fun i hi => by
        rw [show i = 0 by omega]
        unfold tok
        rw [decide_eq_true (Nat.le_refl _)]
        rfl)
      unfold f_X6_findRound_L24
      rw [show (4 : Int32) = nI 4 from rfl, if_neg (nI_ge hf (by decide)), show pv_stI pv_T 185 0 (nI f) R = fun g => pv_stI pv_T 185 (nI 0) (nI f) R g from rfl]
      dsimp only
      rw [st_185 (by decide), show f_X6_goOn 10 1 (nI (k + 2)) 1 1 (pv_u R.1 185 0 (nI f), R.2) = _ from g1, pv_cal_some, nI_1]
      refine hrec2 _ ⟨?_, fun a c q => by rw [g3 a c (by omega), fst_u, if_neg (by omega)]; exact r2 a c q⟩
      rw [Nat.succ_mul, scn_add, Nat.zero_add, hw]
      rw [hw] at g2
      exact g2
  · rw [hNc, if_neg (by omega), if_neg (by omega), if_pos ⟨rfl, rfl⟩]
    rfl
  · rw [hNc, if_neg (by omega), if_pos ⟨rfl, rfl⟩]
    rfl
  · rw [hNc, if_pos ⟨rfl, rfl⟩]
    rfl
  · exact (show 0 ≤ 4 by decide)
  · intro i hi
    exact absurd (show i < 0 from hi) (Nat.not_lt_zero _)
/-! the model's search -/
theorem m_digit {n code i : Nat} (hn : n ≤ 4) (hi : i < n) (hc : code < 2 ^ 31) (M : pv_M) : f_X9_digit (nI code) (nI n) (nI i) M = some (nI (dgt n code i)) := by
  unfold f_X9_digit dgt
  rw [show nI n - 1 = nI (n - 1) from pk_sub (a := n) (b := 1) (by omega), pk_sub (by omega), m_tp hc (by omega)]
def hbt (n code : Nat) : Nat → Nat
  | 0 => 0
  | i + 1 => hbt n code i ||| 2 ^ dgt n code i
theorem hbt_bit (n code t : Nat) : ∀ i, (hbt n code i).testBit t = !al (fun j => decide (dgt n code j ≠ t)) i
  | 0 => by
    show (0 : Nat).testBit t = !true
    rw [Nat.zero_testBit]
    rfl
  | i + 1 => by
    unfold hbt al
    rw [Nat.testBit_or, hbt_bit n code t i, Nat.testBit_two_pow, Bool.not_and]
    congr 1
    by_cases e : dgt n code i = t
    · rw [decide_eq_true e, decide_eq_false (fun z => z e)]
      rfl
    · rw [decide_eq_false e, decide_eq_true e]
      rfl
theorem hbt_lt (n code : Nat) (i : Nat) : hbt n code i < 256 := by
  have : hbt n code i < 2 ^ 8 := Nat.lt_pow_two_of_testBit _ (fun t ht => by
    rw [hbt_bit, Bool.not_eq_false', al_iff]
    intro j _
    have := dgt_lt n code j
    exact decide_eq_true (by omega))
  omega
theorem m_tour {n code : Nat} (hn : n ≤ 4) (hn1 : 1 ≤ n) (hc : code < 256) (M : pv_M) : f_X9_isTour (nI code) (nI n) M = some (if tou n code = true then 1 else 0) := by
  unfold f_X9_isTour
  refine for3c n (fun i (h : Int32) (x : Int32) => h = nI (hbt n code i) ∧ x = (if al (tok n code) i = true then 1 else 0)) (fun q => q = some (if tou n code = true then 1 else 0)) ?_ ?_ pv_FU 0 _ _ (Nat.zero_le _) (by show n - 0 < 5000; omega) ⟨rfl, rfl⟩
  · rintro rec h x ⟨rfl, rfl⟩
    unfold f_X9_isTour_L7
    rw [if_pos (nI_le (Nat.le_refl _) (by omega)), bool_ck rfl]
    rfl
  · rintro rec i h x hi ⟨rfl, rfl⟩ hrec
    have hl := dgt_lt n code i
    have hl0 := dgt_lt n code 0
    unfold f_X9_isTour_L7
    rw [if_neg (nI_ge hi (by omega)), m_digit hn hi (by omega), pv_cap_some, pv_jn_eq, shl1 (by omega), fa_or, nI_1]
    have hnx : ∀ y : Int32, y = (if al (tok n code) (i + 1) = true then 1 else 0) → (pv_nm (nI (hbt n code i ||| 2 ^ dgt n code i)) (fun x6 => rec x6 y (nI (i + 1)))) = some (if tou n code = true then 1 else 0) := by
      rintro y rfl
      rw [pv_nm_eq]
      exact hrec _ _ ⟨rfl, rfl⟩
    have hal : al (tok n code) (i + 1) = (al (tok n code) i && tok n code i) := rfl
    by_cases e : al (tok n code) i = true
    · rw [bt1 e, isIn8 (hbt_lt n code i) (by omega), pv_cap_some, hbt_bit]
      by_cases e2 : al (fun j => decide (dgt n code j ≠ dgt n code i)) i = true
      · rw [bt0 (by rw [e2]; decide), show f_X9_digit (nI code) (nI n) 0 M = some (nI (dgt n code 0)) from m_digit hn (show 0 < n by omega) (by omega) M, pv_cap_some, ite_lt (by omega) (by omega)]
        by_cases e3 : dgt n code i < dgt n code 0
        · rw [if_pos e3]
          refine hnx _ ?_
          rw [hal, e, if_neg]
          unfold tok
          rw [decide_eq_false (by omega)]
          simp
        · rw [if_neg e3]
          refine hnx _ ?_
          rw [hal, e, if_pos]
          unfold tok
          rw [decide_eq_true (by omega), e2]
          rfl
      · rw [bt1 (by rw [show al (fun j => decide (dgt n code j ≠ dgt n code i)) i = false by simpa using e2]; rfl)]
        refine hnx _ ?_
        rw [hal, e, if_neg]
        unfold tok
        rw [show al (fun j => decide (dgt n code j ≠ dgt n code i)) i = false by simpa using e2]
        simp
    · rw [bt0 e]
      refine hnx _ ?_
      rw [hal, show al (tok n code) i = false by simpa using e, Bool.false_and, if_neg (show ¬ (false = true) by decide)]
def MB (S : pv_M) (ra rb : Nat → Nat) (s : Option (Nat × Nat)) : Prop := S.1 196 29 = nI (lnS s) ∧ S.1 196 30 = nI (upS ra s) ∧ S.1 196 31 = nI (upS rb s) ∧ lnS s ≤ 4 ∧ ∀ i, i < lnS s → S.1 220 i = nI (twS s i)
def FrO (M S : pv_M) : Prop := ∀ a c, ¬ ((a = 196 ∧ 29 ≤ c ∧ c ≤ 31) ∨ a = 220) → S.1 a c = M.1 a c
theorem m_round (h7 : I7 M ra rb) : ∃ M', f_X9_findRound M = some ((), M') ∧ MB M' ra rb (rnd ra rb 3) ∧ FrO M M' := by
  have hr : RAg ra rb := ⟨fun k hk => ⟨(h7 k hk).1.1, (h7 k hk).1.2.1⟩, fun k hk => ⟨(h7 k hk).1.2.2.1, (h7 k hk).1.2.2.2⟩⟩
  unfold f_X9_findRound
  rw [pv_nm_eq, pv_nm_eq, pv_nm_eq]
  generalize hN : ((pv_u (pv_u (pv_u M.1 196 29 0, M.2).1 196 30 1, (pv_u M.1 196 29 0, M.2).2).1 196 31 1, (pv_u (pv_u M.1 196 29 0, M.2).1 196 30 1, (pv_u M.1 196 29 0, M.2).2).2) : pv_M) = N
  have hNc : ∀ a c, N.1 a c = if a = 196 ∧ c = 31 then 1 else if a = 196 ∧ c = 30 then 1 else if a = 196 ∧ c = 29 then 0 else M.1 a c := fun a c => by rw [← hN, fst_u, fst_u, fst_u]
  refine for2 5 (fun L (S : pv_M) => 2 ≤ L ∧ MB S ra rb (rnd ra rb (L - 2)) ∧ FrO M S) (fun q => ∃ M' : pv_M, q = some ((), M') ∧ MB M' ra rb (rnd ra rb 3) ∧ FrO M M') ?_ ?_ pv_FU 2 N (by decide) (by decide) ⟨Nat.le_refl _, ⟨?_, ?_, ?_, ?_, ?_⟩, fun a c q => by rw [hNc, if_neg (by omega), if_neg (by omega), if_neg (by omega)]⟩
  · rintro rec S ⟨-, s1, s2⟩
    unfold f_X9_findRound_L17
    rw [if_pos (by decide)]
    exact ⟨S, rfl, s1, s2⟩
  · rintro rec L S hL ⟨hL2, s1, s2⟩ hrec
    obtain ⟨k, rfl⟩ : ∃ k, L = k + 2 := ⟨L - 2, by omega⟩
    rw [show k + 2 - 2 = k by omega] at s1
    have h256 : 4 ^ (k + 2) ≤ 256 := Nat.le_trans (Nat.pow_le_pow_right (by decide) (show k + 2 ≤ 4 by omega)) (by decide)
    have hsh : (1 : Int32) <<< ((2 * nI (k + 2)) &&& 31) = nI (4 ^ (k + 2)) := (show ∀ s, s ≤ 4 → (1 : Int32) <<< ((2 * nI s) &&& 31) = nI (4 ^ s) by decide +kernel) _ (by omega)
    unfold f_X9_findRound_L17
    rw [show (5 : Int32) = nI 5 from rfl, if_neg (nI_ge hL (by decide))]
    refine for2 (4 ^ (k + 2)) (fun x (R : pv_M) => MB R ra rb (scn ra rb (k + 2) 0 (rnd ra rb k) x) ∧ FrO M R) (fun q => ∃ M' : pv_M, q = some ((), M') ∧ MB M' ra rb (rnd ra rb 3) ∧ FrO M M') ?_ ?_ pv_FU 0 S (Nat.zero_le _) (by show 4 ^ (k + 2) - 0 < 5000; omega) ⟨s1, s2⟩
    · rintro rec2 R ⟨r1, r2⟩
      unfold f_X9_findRound_L24
      rw [hsh, if_pos (nI_le (Nat.le_refl _) (by omega)), nI_1]
      refine hrec _ ⟨by omega, ?_, r2⟩
      rw [show k + 2 + 1 - 2 = k + 1 by omega]
      exact r1
    · rintro rec2 code R hc ⟨r1, r2⟩ hrec2
      have hst : scn ra rb (k + 2) 0 (rnd ra rb k) (code + 1) = stp ra rb (k + 2) code (scn ra rb (k + 2) 0 (rnd ra rb k) code) := by
        show stp ra rb (k + 2) (0 + code) _ = _
        rw [Nat.zero_add]
      obtain ⟨s, hs⟩ : ∃ s, s = scn ra rb (k + 2) 0 (rnd ra rb k) code := ⟨_, rfl⟩
      rw [← hs] at r1 hst
      obtain ⟨c1, c2, c3, c4, c5⟩ := r1
      have u1 := upS_rg hr.1 c4
      have u2 := upS_rg hr.2 c4
      have p1 := cpr_rg hr.1 (n := k + 2) (code := code) (by omega)
      have p2 := cpr_rg hr.2 (n := k + 2) (code := code) (by omega)
      have hRr : ∀ j, j < 16 → R.1 219 (2 * j) = nI (ra j) ∧ R.1 219 (2 * j + 1) = nI (rb j) := fun j hj => by
        rw [r2 _ _ (by omega), r2 _ _ (by omega)]
        exact (h7 j hj).2.2.2
      unfold f_X9_findRound_L24
      rw [hsh, if_neg (nI_ge hc (by omega)), pv_jn_eq]
      obtain ⟨Q, hQ⟩ : ∃ Q : (Nat → Nat) → Nat → Nat, Q = fun r i => if i < k + 2 then prF r (dgt (k + 2) code) i else cpr r (k + 2) code := ⟨_, rfl⟩
      refine for3c (k + 2) (fun i (x : Int32) (y : Int32) => x = nI (Q ra i) ∧ y = nI (Q rb i)) (fun q => ∃ M' : pv_M, q = some ((), M') ∧ MB M' ra rb (rnd ra rb 3) ∧ FrO M M') ?_ ?_ pv_FU 0 _ _ (Nat.zero_le _) (by show k + 2 - 0 < 5000; omega) ⟨by rw [hQ]; dsimp only; rw [if_pos (by omega)]; rfl, by rw [hQ]; dsimp only; rw [if_pos (by omega)]; rfl⟩
      · rintro rec3 x y ⟨rfl, rfl⟩
        unfold f_X9_findRound_L41
        rw [if_pos (nI_le (Nat.le_refl _) (by omega)), show Q ra (k + 2) = cpr ra (k + 2) code by rw [hQ]; exact if_neg (Nat.lt_irrefl _), show Q rb (k + 2) = cpr rb (k + 2) code by rw [hQ]; exact if_neg (Nat.lt_irrefl _)]
        unfold f_X9_findRound_J102
        rw [m_tour (by omega) (by omega) (by omega), pv_cap_some, nI_1]
        have hsame : ¬ (tou (k + 2) code = true ∧ upS ra s * cpr rb (k + 2) code < cpr ra (k + 2) code * upS rb s) → ∃ M' : pv_M, rec2 (nI (code + 1)) R = some ((), M') ∧ MB M' ra rb (rnd ra rb 3) ∧ FrO M M' := fun z => hrec2 _ ⟨by rw [hst]; unfold stp; rw [if_neg z]; exact ⟨c1, c2, c3, c4, c5⟩, r2⟩
        by_cases et : tou (k + 2) code = true
        · rw [bt1 et, pv_nm_eq, c3, pv_nm_eq, c2, pk_mul, pk_mul, ite_le (mul_sm p1.2 u2.2) (mul_sm u1.2 p2.2)]
          by_cases eg : upS ra s * cpr rb (k + 2) code < cpr ra (k + 2) code * upS rb s
          · rw [if_neg (by omega), pv_nm_eq, pv_nm_eq, pv_nm_eq]
            generalize hW : ((pv_u (pv_u (pv_u R.1 196 29 (nI (k + 2)), R.2).1 196 30 (nI (cpr ra (k + 2) code)), (pv_u R.1 196 29 (nI (k + 2)), R.2).2).1 196 31 (nI (cpr rb (k + 2) code)), (pv_u (pv_u R.1 196 29 (nI (k + 2)), R.2).1 196 30 (nI (cpr ra (k + 2) code)), (pv_u R.1 196 29 (nI (k + 2)), R.2).2).2) : pv_M) = W
            have hWc : ∀ a c, W.1 a c = if a = 196 ∧ c = 31 then nI (cpr rb (k + 2) code) else if a = 196 ∧ c = 30 then nI (cpr ra (k + 2) code) else if a = 196 ∧ c = 29 then nI (k + 2) else R.1 a c := fun a c => by rw [← hW, fst_u, fst_u, fst_u]
            refine for2 (k + 2) (fun i (B : pv_M) => (∀ a c, a ≠ 220 → B.1 a c = W.1 a c) ∧ ∀ j, j < i → B.1 220 j = nI (dgt (k + 2) code j)) (fun q => ∃ M' : pv_M, q = some ((), M') ∧ MB M' ra rb (rnd ra rb 3) ∧ FrO M M') ?_ ?_ pv_FU 0 W (Nat.zero_le _) (by show k + 2 - 0 < 5000; omega) ⟨fun _ _ _ => rfl, fun j hj => absurd hj (Nat.not_lt_zero _)⟩
            · rintro rec4 B ⟨b1, b2⟩
              unfold f_X9_findRound_L145
              rw [if_pos (nI_le (Nat.le_refl _) (by omega)), nI_1]
              refine hrec2 _ ⟨?_, fun a c q => by rw [b1 _ _ (by omega), hWc, if_neg (by omega), if_neg (by omega), if_neg (by omega)]; exact r2 a c q⟩
              rw [hst]
              unfold stp
              rw [if_pos ⟨et, eg⟩]
              refine ⟨?_, ?_, ?_, show k + 2 ≤ 4 by omega, fun i hi => b2 i hi⟩
              · rw [b1 _ _ (by decide), hWc, if_neg (by omega), if_neg (by omega), if_pos ⟨rfl, rfl⟩]
                rfl
              · rw [b1 _ _ (by decide), hWc, if_neg (by omega), if_pos ⟨rfl, rfl⟩]
                rfl
              · rw [b1 _ _ (by decide), hWc, if_pos ⟨rfl, rfl⟩]
                rfl
            · rintro rec4 i B hi ⟨b1, b2⟩ hrec4
              unfold f_X9_findRound_L145
              rw [if_neg (nI_ge hi (by omega)), m_digit (by omega) hi (by omega), pv_cap_some, st_220 (by omega), nI_1]
              refine hrec4 _ ⟨fun a c q => by rw [fst_u, if_neg (by omega)]; exact b1 a c q, fun j hj => ?_⟩
              rw [fst_u]
              by_cases ej : j = i
              · rw [if_pos ⟨rfl, ej⟩, ej]
              · rw [if_neg (fun z => ej z.2)]
                exact b2 j (by omega)
          · rw [if_pos (by omega)]
            exact hsame (fun z => eg z.2)
        · rw [bt0 et]
          exact hsame (fun z => et z.1)
      · rintro rec3 i x y hi ⟨rfl, rfl⟩ hrec3
        have l1 := dgt_lt (k + 2) code i
        have l2 := dgt_lt (k + 2) code ((i + 1) % (k + 2))
        obtain ⟨k1, k2⟩ := hRr (4 * dgt (k + 2) code i + dgt (k + 2) code ((i + 1) % (k + 2))) (by omega)
        unfold f_X9_findRound_L41
        rw [if_neg (nI_ge hi (by omega)), m_digit (by omega) hi (by omega), pv_cap_some, decide_eq_true (nI_ne0 (show 0 < k + 2 by omega) (by omega)), pv_ck_true, nI_1, pk_rem (by omega) (by omega) (by omega), m_digit (by omega) (Nat.mod_lt _ (by omega)) (by omega), pv_cap_some, show (2 : Int32) = nI 2 from rfl, show (4 : Int32) = nI 4 from rfl, show (1 : Int32) = nI 1 from rfl, pk_mul, nI_add, pk_mul, pv_nm_eq, ld_219 (by omega), k1, pk_mul, pv_nm_eq, nI_add, ld_219 (by omega), k2, pk_mul, pv_nm_eq]
        have hq : ∀ r : Nat → Nat, Q r i * r (4 * dgt (k + 2) code i + dgt (k + 2) code ((i + 1) % (k + 2))) = Q r (i + 1) := fun r => by
          rw [hQ]
          dsimp only
          rw [if_pos hi]
          by_cases ei : i + 1 < k + 2
          · rw [if_pos ei, Nat.mod_eq_of_lt ei]
            rfl
          · rw [if_neg ei, show i + 1 = k + 2 by omega, Nat.mod_self]
            unfold cpr
            rw [show k + 2 - 1 = i by omega]
        rw [hq, hq]
        exact hrec3 _ _ ⟨rfl, rfl⟩
  · rw [hNc, if_neg (by omega), if_neg (by omega), if_pos ⟨rfl, rfl⟩]
    rfl
  · rw [hNc, if_neg (by omega), if_pos ⟨rfl, rfl⟩]
    rfl
  · rw [hNc, if_pos ⟨rfl, rfl⟩]
    rfl
  · exact (show 0 ≤ 4 by decide)
  · intro i hi
    exact absurd (show i < 0 from hi) (Nat.not_lt_zero _)
/-- what round tells: i runs from -2 on, told as i + 2 -/
def rdV (ra rb : Nat → Nat) (j : Nat) : Int32 := if j = 0 then nI (upS ra (rnd ra rb 3) / Nat.gcd (upS ra (rnd ra rb 3)) (upS rb (rnd ra rb 3))) else if j = 1 then nI (upS rb (rnd ra rb 3) / Nat.gcd (upS ra (rnd ra rb 3)) (upS rb (rnd ra rb 3))) else if j - 2 < lnS (rnd ra rb 3) then nI (twS (rnd ra rb 3) (j - 2)) else -1
def rdI (j : Nat) : Int32 := if j = 0 then -2 else if j = 1 then -1 else nI (j - 2)
theorem m_tellsR (hr : RAg ra rb) (hM : MB M ra rb (rnd ra rb 3)) {j : Nat} (hj : j < 6) : f_X9_tellsRound (rdI j) M = some (rdV ra rb j) := by
  obtain ⟨s, hs⟩ : ∃ s, s = rnd ra rb 3 := ⟨_, rfl⟩
  unfold rdV
  rw [← hs] at hM ⊢
  obtain ⟨c1, c2, c3, c4, c5⟩ := hM
  have u1 := upS_rg hr.1 c4
  have u2 := upS_rg hr.2 c4
  have hg : 0 < Nat.gcd (upS ra s) (upS rb s) := Nat.gcd_pos_of_pos_left _ u1.1
  have hgl : Nat.gcd (upS ra s) (upS rb s) ≤ upS ra s := Nat.gcd_le_left _ u1.1
  unfold f_X9_tellsRound
  rw [pv_nm_eq, c2, pv_nm_eq, c3, nI_l (by omega), nI_l (by omega), m_cd (by omega) (by omega), pv_cap_some, lN_i, pv_nm_eq]
  by_cases j0 : j = 0
  · rw [show rdI j = -2 by unfold rdI; rw [if_pos j0], if_pos rfl, pv_nm_eq, decide_eq_true (nI_ne0 hg (by omega)), pv_ck_true, pk_div (by omega) hg (by omega), if_pos j0]
  · by_cases j1 : j = 1
    · rw [show rdI j = -1 by unfold rdI; rw [if_neg j0, if_pos j1], if_neg (by decide), if_pos rfl, pv_nm_eq, decide_eq_true (nI_ne0 hg (by omega)), pv_ck_true, pk_div (by omega) hg (by omega), if_neg j0, if_pos j1]
    · rw [show rdI j = nI (j - 2) by unfold rdI; rw [if_neg j0, if_neg j1], if_neg (show ¬ nI (j - 2) = -2 from fun q => by
        have := congrArg Int32.toInt q
        rw [nI_toInt (by omega), show ((-2 : Int32)).toInt = -2 by decide] at this
        omega), if_neg (m1_ne (by omega)), pv_nm_eq, c1, ite_le (by omega) (by omega), if_neg j0, if_neg j1]
      by_cases e : j - 2 < lnS s
      · rw [if_neg (by omega), if_pos e, ld_220 (by omega), c5 _ e]
      · rw [if_pos (by omega), if_neg e]
theorem rdI_in {j : Nat} (hj : j < 6) : (-2 : Int32) ≤ rdI j ∧ rdI j ≤ nI 3 := (show ∀ j, j < 6 → (-2 : Int32) ≤ rdI j ∧ rdI j ≤ nI 3 by decide +kernel) j hj
theorem rdI_of {a : Int32} (h : (-2 : Int32) ≤ a ∧ a ≤ nI 3) : ∃ j, j < 6 ∧ a = rdI j := by
  have h1 := h.1
  have h2 := h.2
  rw [fa_le, show ((-2 : Int32)).toInt = -2 by decide] at h1
  rw [fa_le, nI_toInt (by decide)] at h2
  by_cases e0 : a.toInt = -2
  · exact ⟨0, by decide, by rw [fa_eq]; exact e0⟩
  · by_cases e1 : a.toInt = -1
    · exact ⟨1, by decide, by rw [fa_eq]; exact e1⟩
    · obtain ⟨i, hi, rfl⟩ := nI_of (x := a) (fun q => by
        rw [fa_lt] at q
        have : ((0 : Int32)).toInt = 0 := by decide
        omega)
      rw [nI_toInt hi] at h2
      refine ⟨i + 2, by omega, ?_⟩
      unfold rdI
      rw [if_neg (by omega), if_neg (by omega), Nat.add_sub_cancel]
theorem xs_round (h7 : I7 M ra rb) {j : Nat} (hj : j < 6) : ∃ M', f_X8_round (rdI j) M = some (rdV ra rb j, M') ∧ ∀ a c, ¬ (183 ≤ a ∧ a ≤ 185) → M'.1 a c = M.1 a c := by
  obtain ⟨M1, e1, e2, e3, e4, e5, e6⟩ := x_round h7
  have hln : lnS (rnd ra rb 3) ≤ 4 := rnd_ln 3 (by decide)
  refine ⟨M1, ?_, e6⟩
  unfold f_X8_round rdV
  rw [w_m2_3, pv_cap_some, bt1 (rdI_in hj), e1, pv_cal_some]
  obtain ⟨s, hs⟩ : ∃ s, s = rnd ra rb 3 := ⟨_, rfl⟩
  rw [← hs] at e2 e3 e4 e5 hln ⊢
  by_cases j0 : j = 0
  · rw [show rdI j = -2 by unfold rdI; rw [if_pos j0], if_pos rfl, pv_nm_eq, e2, if_pos j0]
  · by_cases j1 : j = 1
    · rw [show rdI j = -1 by unfold rdI; rw [if_neg j0, if_pos j1], if_neg (by decide), if_pos rfl, pv_nm_eq, e3, if_neg j0, if_pos j1]
    · unfold f_X6_bestTown
      rw [show rdI j = nI (j - 2) by unfold rdI; rw [if_neg j0, if_neg j1], if_neg (show ¬ nI (j - 2) = -2 from fun q => by
        have := congrArg Int32.toInt q
        rw [nI_toInt (by omega), show ((-2 : Int32)).toInt = -2 by decide] at this
        omega), if_neg (m1_ne (by omega)), pv_nm_eq, e4, ite_le (by omega) (by omega), if_neg j0, if_neg j1]
      by_cases e : j - 2 < lnS s
      · rw [if_neg (by omega), if_pos e, ld_184 (by omega), e5 _ e, pv_cap_some]
      · rw [if_pos (by omega), if_neg e, pv_cap_some]
theorem I7.rag (h7 : I7 M ra rb) : RAg ra rb := ⟨fun k hk => ⟨(h7 k hk).1.1, (h7 k hk).1.2.1⟩, fun k hk => ⟨(h7 k hk).1.2.2.1, (h7 k hk).1.2.2.2⟩⟩
theorem op_round (a1 : Int32) : OP RIo (CAo BA) (f_X8_round a1) (f_X9_round a1) := by
  intro c M hc hI
  by_cases g1 : (-2 : Int32) ≤ a1 ∧ a1 ≤ nI 3
  · obtain ⟨j, hj, rfl⟩ := rdI_of g1
    obtain ⟨n, b, cn, cf, kn, kf, bn, bf, l, d, pu, ra, rb, h1, h2, h3, h4, h5, h6, h7, h8, h9⟩ := id hI
    obtain ⟨M1, e1, e2⟩ := xs_round h7 hj
    have h7' : I7 M1 ra rb := h7.fr (fun a c q => e2 a c (by omega))
    obtain ⟨M2, f1, f2, f3⟩ := m_round h7'
    refine ⟨rdV ra rb j, M1, M2, e1, ?_, (hI.frM (fun k j q => ?_)).more⟩
    · unfold f_X9_round
      rw [i_m2_3, pv_cap_some, bt1 g1, f1, pv_cal_some, m_tellsR h7.rag f2 hj, pv_cap_some]
    · rw [f3 k j (fun z => q (Or.inl (by unfold PM; omega))), e2 k j (fun z => q (Or.inr (by unfold PX; omega)))]
  · refine ⟨-2, M, M, ?_, ?_, hI.more⟩
    · unfold f_X8_round
      rw [w_m2_3, pv_cap_some, bt0 g1]
    · unfold f_X9_round
      rw [i_m2_3, pv_cap_some, bt0 g1]
end RO
