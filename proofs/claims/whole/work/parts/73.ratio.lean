def RA (b : Nat → Nat) (i : Nat) : Nat := b (4 * i) - 97
def RB (b : Nat → Nat) (i : Nat) : Nat := b (4 * i + 1) - 97
def RT (b : Nat → Nat) (i : Nat) : Nat := b (4 * i + 2) - 48
theorem fit2 {n : Nat} {b : Nat → Nat} {i : Nat} (hi : i < itm 2 n b) : (97 ≤ b (4 * i) ∧ b (4 * i) ≤ 102) ∧ (97 ≤ b (4 * i + 1) ∧ b (4 * i + 1) ≤ 102) ∧ 49 ≤ b (4 * i + 2) ∧ b (4 * i + 2) ≤ 57 := by
  have f0 := (ok_fit hi (show 0 < 3 by decide)).2
  have f1 := (ok_fit hi (show 1 < 3 by decide)).2
  have f2 := (ok_fit hi (show 2 < 3 by decide)).2
  rw [Nat.add_zero] at f0
  unfold fit at f0 f1 f2
  rw [if_neg (by omega), if_neg (by omega), if_neg (by decide)] at f0 f1
  rw [if_neg (by omega), if_pos (by omega)] at f2
  exact ⟨⟨f0.1, f0.2.1⟩, ⟨f1.1, f1.2.1⟩, f2⟩
theorem rat_rg {n : Nat} {b : Nat → Nat} : ∀ r, r < itm 2 n b → RA b r < 6 ∧ RB b r < 6 ∧ 1 ≤ RT b r ∧ RT b r ≤ 9 := fun r hr => by
  obtain ⟨f0, f1, f2⟩ := fit2 hr
  unfold RA RB RT
  omega
def WX (S : pv_M) (s : pv_WS) : Prop := ∀ k, k < 6 → S.1 180 k = nI (s.1 k) ∧ S.2 181 k = lN (s.2.1 k) ∧ S.2 182 k = lN (s.2.2 k)
def WM (S : pv_M) (s : pv_WS) : Prop := ∀ k, k < 6 → S.1 216 k = nI (s.1 k) ∧ S.2 217 k = lN (s.2.1 k) ∧ S.2 218 k = lN (s.2.2 k)
theorem snd_u (f : Nat → Nat → Int32) (m : Nat → Nat → Int64) (k j a b : Nat) (v : Int64) : ((f, pv_u m k j v) : pv_M).2 a b = if a = k ∧ b = j then v else m a b := rfl
theorem WI.X {s : pv_WS} (h : WI s) {a b t k : Nat} (ha : a < 6) (hb : b < 6) (hk : k < 6) (ht : 1 ≤ t ∧ t ≤ 9) : (0 < wX s a b t k ∧ wX s a b t k < 2 ^ 62) ∧ 0 < wY s a b k ∧ wY s a b k < 2 ^ 62 := by
  have la := h.le ha
  have lb := h.le hb
  have lk := h.le hk
  obtain ⟨-, a2, a3, -⟩ := h.1 a ha
  obtain ⟨-, b2, b3, -⟩ := h.1 b hb
  obtain ⟨-, k2, k3, -⟩ := h.1 k hk
  refine ⟨⟨Nat.mul_pos k2 (Nat.mul_pos (Nat.mul_pos ht.1 b2) a3), ?_⟩, Nat.mul_pos k3 (Nat.mul_pos b3 a2), ?_⟩
  · exact Nat.lt_of_le_of_lt (Nat.mul_le_mul lk.1 (Nat.mul_le_mul (Nat.mul_le_mul ht.2 lb.1) la.2)) (by decide)
  · exact Nat.lt_of_le_of_lt (Nat.mul_le_mul lk.2 (Nat.mul_le_mul lb.2 la.1)) (by decide)
theorem x_start (M : pv_M) : ∃ M', f_X7_startAnew M = some ((), M') ∧ WX M' (fun k => k, fun _ => 1, fun _ => 1) ∧ ∀ a c, a ≠ 180 → M'.1 a c = M.1 a c := by
  unfold f_X7_startAnew
  refine for2 6 (fun i (S : pv_M) => (∀ k, k < i → S.1 180 k = nI k ∧ S.2 181 k = lN 1 ∧ S.2 182 k = lN 1) ∧ ∀ a c, a ≠ 180 → S.1 a c = M.1 a c) (fun q => ∃ M' : pv_M, q = some ((), M') ∧ WX M' (fun k => k, fun _ => 1, fun _ => 1) ∧ ∀ a c, a ≠ 180 → M'.1 a c = M.1 a c) ?_ ?_ pv_FU 0 M (Nat.zero_le _) (by decide) ⟨fun k hk => absurd hk (Nat.not_lt_zero _), fun _ _ _ => rfl⟩
  · rintro rec S ⟨s1, s2⟩
    unfold f_X7_startAnew_L2
    rw [if_pos (by decide)]
    exact ⟨S, rfl, s1, s2⟩
  · rintro rec i S hi ⟨s1, s2⟩ hrec
    unfold f_X7_startAnew_L2
    rw [show (6 : Int32) = nI 6 from rfl, if_neg (nI_ge hi (by decide)), st_180 hi, stL_n sa_181 hi, stL_n sa_182 hi, nI_1]
    refine hrec _ ⟨fun k hk => ?_, fun a c q => ?_⟩
    · show pv_u S.1 180 i (nI i) 180 k = nI k ∧ pv_u (pv_u S.2 181 i 1) 182 i 1 181 k = lN 1 ∧ pv_u (pv_u S.2 181 i 1) 182 i 1 182 k = lN 1
      rw [u_if, u_if, u_if, u_if, u_if]
      by_cases e : k = i
      · rw [if_pos ⟨rfl, e⟩, if_neg (by omega), if_pos ⟨rfl, e⟩, if_pos ⟨rfl, e⟩, e]
        exact ⟨rfl, rfl, rfl⟩
      · rw [if_neg (by omega), if_neg (by omega), if_neg (by omega), if_neg (by omega), if_neg (by omega)]
        exact s1 k (by omega)
    · show pv_u S.1 180 i (nI i) a c = M.1 a c
      rw [u_if, if_neg (by omega)]
      exact s2 a c q
theorem x_joinW {s : pv_WS} (h : WI s) {S : pv_M} (hS : WX S s) {a b t : Nat} (ha : a < 6) (hb : b < 6) (ht : 1 ≤ t ∧ t ≤ 9) (hne : s.1 a ≠ s.1 b) : ∃ S', f_X7_join (nI a) (nI b) (lN t) S = some ((), S') ∧ WX S' (wJ s a b t) ∧ ∀ x c, x ≠ 180 → S'.1 x c = S.1 x c := by
  obtain ⟨a1, a2, a3⟩ := hS a ha
  obtain ⟨b1, b2, b3⟩ := hS b hb
  have h1 := h.1
  obtain ⟨N, hN⟩ : ∃ N, N = wJ s a b t := ⟨_, rfl⟩
  have hNb : N.1 b = s.1 b := by rw [hN]; exact if_neg (fun z => hne z.symm)
  unfold f_X7_join
  rw [ld_180 ha, a1, ldL_n sa_181 hb, b2, ldL_n sa_182 ha, a3, lN_mul, lN_mul, pv_nm_eq, ldL_n sa_182 hb, b3, ldL_n sa_181 ha, a2, lN_mul, pv_nm_eq, ← hN]
  refine for2 6 (fun i (R : pv_M) => (∀ k, k < 6 → R.1 180 k = nI (if k < i then N.1 k else s.1 k) ∧ R.2 181 k = lN (if k < i then N.2.1 k else s.2.1 k) ∧ R.2 182 k = lN (if k < i then N.2.2 k else s.2.2 k)) ∧ ∀ x c, x ≠ 180 → R.1 x c = S.1 x c) (fun q => ∃ S' : pv_M, q = some ((), S') ∧ WX S' N ∧ ∀ x c, x ≠ 180 → S'.1 x c = S.1 x c) ?_ ?_ pv_FU 0 S (Nat.zero_le _) (by decide) ⟨fun k hk => by rw [if_neg (Nat.not_lt_zero _), if_neg (Nat.not_lt_zero _), if_neg (Nat.not_lt_zero _)]; exact hS k hk, fun _ _ _ => rfl⟩
  · rintro rec R ⟨r1, r2⟩
    unfold f_X7_join_L43
    rw [if_pos (by decide)]
    refine ⟨R, rfl, fun k hk => ?_, r2⟩
    have := r1 k hk
    rw [if_pos hk, if_pos hk, if_pos hk] at this
    exact this
  · rintro rec i R hi ⟨r1, r2⟩ hrec
    have ri := r1 i hi
    rw [if_neg (Nat.lt_irrefl _), if_neg (Nat.lt_irrefl _), if_neg (Nat.lt_irrefl _)] at ri
    obtain ⟨i1, i2, i3⟩ := ri
    have rb : R.1 180 b = nI (s.1 b) := by
      rw [(r1 b hb).1]
      split
      · rw [hNb]
      · rfl
    have gi := (h1 i hi).1
    have gA := (h1 a ha).1
    obtain ⟨⟨x1, x2⟩, y1, y2⟩ := h.X ha hb hi ht
    have e62 : (2 : Nat) ^ 62 < 2 ^ 63 := by decide
    unfold f_X7_join_L43
    rw [show (6 : Int32) = nI 6 from rfl, if_neg (nI_ge hi (by decide)), ld_180 hi, i1, ite_eq (by omega) (by omega), nI_1]
    by_cases e : s.1 i = s.1 a
    · have hg : 0 < Nat.gcd (wX s a b t i) (wY s a b i) := Nat.gcd_pos_of_pos_left _ x1
      have hgl : Nat.gcd (wX s a b t i) (wY s a b i) ≤ wX s a b t i := Nat.gcd_le_left _ x1
      rw [if_pos e, ld_180 hb, rb, st_180 hi, ldL_n sa_181 hi]
      dsimp only
      rw [i2, lN_mul, pv_nm_eq, ldL_n sa_182 hi]
      dsimp only
      rw [i3, lN_mul, pv_nm_eq, show s.2.1 i * (t * s.2.1 b * s.2.2 a) = wX s a b t i from rfl, show s.2.2 i * (s.2.2 b * s.2.1 a) = wY s a b i from rfl, x_cd x2 y2 x1, pv_cap_some, decide_eq_true (lN_ne0 hg (by omega)), pv_ck_true, stL_n sa_181 hi, pv_ck_true, stL_n sa_182 hi, pk_lDiv (by omega) hg (by omega), pk_lDiv (by omega) hg (by omega)]
      refine hrec _ ⟨fun k hk => ?_, fun x c q => ?_⟩
      · show pv_u R.1 180 i (nI (s.1 b)) 180 k = _ ∧ pv_u (pv_u R.2 181 i (lN (wX s a b t i / Nat.gcd (wX s a b t i) (wY s a b i)))) 182 i (lN (wY s a b i / Nat.gcd (wX s a b t i) (wY s a b i))) 181 k = _ ∧ pv_u (pv_u R.2 181 i (lN (wX s a b t i / Nat.gcd (wX s a b t i) (wY s a b i)))) 182 i (lN (wY s a b i / Nat.gcd (wX s a b t i) (wY s a b i))) 182 k = _
        by_cases ek : k = i
        · subst ek
          have n1 : N.1 k = s.1 b := by rw [hN]; exact if_pos e
          have n2 : N.2.1 k = wX s a b t k / Nat.gcd (wX s a b t k) (wY s a b k) := by rw [hN]; exact if_pos e
          have n3 : N.2.2 k = wY s a b k / Nat.gcd (wX s a b t k) (wY s a b k) := by rw [hN]; exact if_pos e
          exact ⟨by rw [uu_same, if_pos (Nat.lt_succ_self _), n1], by rw [uu_k _ _ (by decide), uu_same, if_pos (Nat.lt_succ_self _), n2], by rw [uu_same, if_pos (Nat.lt_succ_self _), n3]⟩
        · rw [uu_j _ _ ek, uu_k _ _ (show (181 : Nat) ≠ 182 by decide), uu_j _ _ ek, uu_j _ _ ek, uu_k _ _ (show (182 : Nat) ≠ 181 by decide)]
          have := r1 k hk
          by_cases e2 : k < i
          · rw [if_pos e2, if_pos e2, if_pos e2] at this
            rw [if_pos (by omega), if_pos (by omega), if_pos (by omega)]
            exact this
          · rw [if_neg e2, if_neg e2, if_neg e2] at this
            rw [if_neg (by omega), if_neg (by omega), if_neg (by omega)]
            exact this
      · show pv_u R.1 180 i (nI (s.1 b)) x c = _
        rw [u_if, if_neg (by omega)]
        exact r2 x c q
    · rw [if_neg e]
      refine hrec _ ⟨fun k hk => ?_, r2⟩
      have := r1 k hk
      by_cases ek : k = i
      · subst ek
        have n1 : N.1 k = s.1 k := by rw [hN]; exact if_neg e
        have n2 : N.2.1 k = s.2.1 k := by rw [hN]; exact if_neg e
        have n3 : N.2.2 k = s.2.2 k := by rw [hN]; exact if_neg e
        rw [if_pos (by omega), if_pos (by omega), if_pos (by omega), n1, n2, n3]
        exact ⟨i1, i2, i3⟩
      · by_cases e2 : k < i
        · rw [if_pos e2, if_pos e2, if_pos e2] at this
          rw [if_pos (by omega), if_pos (by omega), if_pos (by omega)]
          exact this
        · rw [if_neg e2, if_neg e2, if_neg e2] at this
          rw [if_neg (by omega), if_neg (by omega), if_neg (by omega)]
          exact this
theorem m_joinW {s : pv_WS} (h : WI s) {S : pv_M} (hS : WM S s) {a b t : Nat} (ha : a < 6) (hb : b < 6) (ht : 1 ≤ t ∧ t ≤ 9) : ∃ S', f_X9_joins (nI (s.1 a)) (nI (s.1 b)) (lN (t * s.2.1 b * s.2.2 a)) (lN (s.2.2 b * s.2.1 a)) S = some ((), S') ∧ WM S' (wJ s a b t) ∧ ∀ x c, x ≠ 216 → S'.1 x c = S.1 x c := by
  have h1 := h.1
  obtain ⟨N, hN⟩ : ∃ N, N = wJ s a b t := ⟨_, rfl⟩
  unfold f_X9_joins
  rw [← hN]
  refine for2 6 (fun i (R : pv_M) => (∀ k, k < 6 → R.1 216 k = nI (if k < i then N.1 k else s.1 k) ∧ R.2 217 k = lN (if k < i then N.2.1 k else s.2.1 k) ∧ R.2 218 k = lN (if k < i then N.2.2 k else s.2.2 k)) ∧ ∀ x c, x ≠ 216 → R.1 x c = S.1 x c) (fun q => ∃ S' : pv_M, q = some ((), S') ∧ WM S' N ∧ ∀ x c, x ≠ 216 → S'.1 x c = S.1 x c) ?_ ?_ pv_FU 0 S (Nat.zero_le _) (by decide) ⟨fun k hk => by rw [if_neg (Nat.not_lt_zero _), if_neg (Nat.not_lt_zero _), if_neg (Nat.not_lt_zero _)]; exact hS k hk, fun _ _ _ => rfl⟩
  · rintro rec R ⟨r1, r2⟩
    unfold f_X9_joins_L3
    rw [if_pos (by decide)]
    refine ⟨R, rfl, fun k hk => ?_, r2⟩
    have := r1 k hk
    rw [if_pos hk, if_pos hk, if_pos hk] at this
    exact this
  · rintro rec i R hi ⟨r1, r2⟩ hrec
    have ri := r1 i hi
    rw [if_neg (Nat.lt_irrefl _), if_neg (Nat.lt_irrefl _), if_neg (Nat.lt_irrefl _)] at ri
    obtain ⟨i1, i2, i3⟩ := ri
    have gi := (h1 i hi).1
    have gA := (h1 a ha).1
    obtain ⟨⟨x1, x2⟩, y1, y2⟩ := h.X ha hb hi ht
    have e62 : (2 : Nat) ^ 62 < 2 ^ 63 := by decide
    unfold f_X9_joins_L3
    rw [show (6 : Int32) = nI 6 from rfl, if_neg (nI_ge hi (by decide)), ld_216 hi, i1, ite_eq (by omega) (by omega), nI_1]
    by_cases e : s.1 i = s.1 a
    · have hg : 0 < Nat.gcd (wX s a b t i) (wY s a b i) := Nat.gcd_pos_of_pos_left _ x1
      have hgl : Nat.gcd (wX s a b t i) (wY s a b i) ≤ wX s a b t i := Nat.gcd_le_left _ x1
      rw [if_pos e, st_216 hi, ldL_n sa_217 hi]
      dsimp only
      rw [i2, lN_mul, pv_nm_eq, ldL_n sa_218 hi]
      dsimp only
      rw [i3, lN_mul, pv_nm_eq, show s.2.1 i * (t * s.2.1 b * s.2.2 a) = wX s a b t i from rfl, show s.2.2 i * (s.2.2 b * s.2.1 a) = wY s a b i from rfl, m_cd x2 y2, pv_cap_some, decide_eq_true (lN_ne0 hg (by omega)), pv_ck_true, stL_n sa_217 hi, pv_ck_true, stL_n sa_218 hi, pk_lDiv (by omega) hg (by omega), pk_lDiv (by omega) hg (by omega)]
      refine hrec _ ⟨fun k hk => ?_, fun x c q => ?_⟩
      · show pv_u R.1 216 i (nI (s.1 b)) 216 k = _ ∧ pv_u (pv_u R.2 217 i (lN (wX s a b t i / Nat.gcd (wX s a b t i) (wY s a b i)))) 218 i (lN (wY s a b i / Nat.gcd (wX s a b t i) (wY s a b i))) 217 k = _ ∧ pv_u (pv_u R.2 217 i (lN (wX s a b t i / Nat.gcd (wX s a b t i) (wY s a b i)))) 218 i (lN (wY s a b i / Nat.gcd (wX s a b t i) (wY s a b i))) 218 k = _
        by_cases ek : k = i
        · subst ek
          have n1 : N.1 k = s.1 b := by rw [hN]; exact if_pos e
          have n2 : N.2.1 k = wX s a b t k / Nat.gcd (wX s a b t k) (wY s a b k) := by rw [hN]; exact if_pos e
          have n3 : N.2.2 k = wY s a b k / Nat.gcd (wX s a b t k) (wY s a b k) := by rw [hN]; exact if_pos e
          exact ⟨by rw [uu_same, if_pos (Nat.lt_succ_self _), n1], by rw [uu_k _ _ (by decide), uu_same, if_pos (Nat.lt_succ_self _), n2], by rw [uu_same, if_pos (Nat.lt_succ_self _), n3]⟩
        · rw [uu_j _ _ ek, uu_k _ _ (show (217 : Nat) ≠ 218 by decide), uu_j _ _ ek, uu_j _ _ ek, uu_k _ _ (show (218 : Nat) ≠ 217 by decide)]
          have := r1 k hk
          by_cases e2 : k < i
          · rw [if_pos e2, if_pos e2, if_pos e2] at this
            rw [if_pos (by omega), if_pos (by omega), if_pos (by omega)]
            exact this
          · rw [if_neg e2, if_neg e2, if_neg e2] at this
            rw [if_neg (by omega), if_neg (by omega), if_neg (by omega)]
            exact this
      · show pv_u R.1 216 i (nI (s.1 b)) x c = _
        rw [u_if, if_neg (by omega)]
        exact r2 x c q
    · rw [if_neg e]
      refine hrec _ ⟨fun k hk => ?_, r2⟩
      have := r1 k hk
      by_cases ek : k = i
      · subst ek
        have n1 : N.1 k = s.1 k := by rw [hN]; exact if_neg e
        have n2 : N.2.1 k = s.2.1 k := by rw [hN]; exact if_neg e
        have n3 : N.2.2 k = s.2.2 k := by rw [hN]; exact if_neg e
        rw [if_pos (by omega), if_pos (by omega), if_pos (by omega), n1, n2, n3]
        exact ⟨i1, i2, i3⟩
      · by_cases e2 : k < i
        · rw [if_pos e2, if_pos e2, if_pos e2] at this
          rw [if_pos (by omega), if_pos (by omega), if_pos (by omega)]
          exact this
        · rw [if_neg e2, if_neg e2, if_neg e2] at this
          rw [if_neg (by omega), if_neg (by omega), if_neg (by omega)]
          exact this
theorem WI.cmp {s : pv_WS} (h : WI s) {a b t : Nat} (ha : a < 6) (hb : b < 6) (ht : 1 ≤ t ∧ t ≤ 9) : (lg_cmp (lN (s.2.1 a * s.2.2 b)) (lN (t * s.2.1 b * s.2.2 a)) = 0) = (agr s a b t = true) := by
  have la := h.le ha
  have lb := h.le hb
  have h1 : s.2.1 a * s.2.2 b < 2 ^ 63 := Nat.lt_of_le_of_lt (Nat.mul_le_mul la.1 lb.2) (by decide)
  have h2 : t * s.2.1 b * s.2.2 a < 2 ^ 63 := Nat.lt_of_le_of_lt (Nat.mul_le_mul (Nat.mul_le_mul ht.2 lb.1) la.2) (by decide)
  rw [lg_cmp_eq, pk_lEQ h1 h2]
  unfold agr
  rw [decide_eq_true_eq]
def fcI (p : Nat → Bool) (r : Nat) : Int32 := if fa_first p r < r then nI (fa_first p r) else -1
theorem fc_no {p : Nat → Bool} {r : Nat} (h : p r = false) : fcI p (r + 1) = fcI p r := by
  have hle := fa_first_le p r
  unfold fcI
  have e : fa_first p (r + 1) = if fa_first p r < r then fa_first p r else if p r then r else r + 1 := rfl
  rw [e, h]
  by_cases q : fa_first p r < r
  · rw [if_pos q, if_pos q, if_pos (by omega)]
  · rw [if_neg q, if_neg q, if_neg (show ¬ (false = true) by decide), if_neg (by omega)]
theorem fc_yes {p : Nat → Bool} {r : Nat} (h : p r = true) (hr : r < 100) : fcI p (r + 1) = if fcI p r = -1 then nI r else fcI p r := by
  have hle := fa_first_le p r
  unfold fcI
  have e : fa_first p (r + 1) = if fa_first p r < r then fa_first p r else if p r then r else r + 1 := rfl
  rw [e, h]
  by_cases q : fa_first p r < r
  · rw [if_pos q, if_pos q, if_pos (by omega), if_neg (m1_ne (by omega))]
  · rw [if_neg q, if_neg q, if_pos (show (true = true) from rfl), if_pos (by omega), if_pos rfl]
theorem fc_m1 {p : Nat → Bool} {r : Nat} (hr : r < 100) : (fcI p r = -1) = ¬ fa_first p r < r := by
  unfold fcI
  by_cases q : fa_first p r < r
  · rw [if_pos q]
    exact propext ⟨fun z => absurd z (m1_ne (by omega)), fun z => absurd q z⟩
  · rw [if_neg q]
    exact propext ⟨fun _ => q, fun _ => rfl⟩
theorem bit8 {b p : Nat} (hb : b < 256) (hp : p < 8) : ((nI b >>> (nI p &&& 31)) &&& 1 = 0) = (b.testBit p = false) := by
  have h := (show ∀ b, b < 256 → ∀ p, p < 8 → (decide ((nI b >>> (nI p &&& 31)) &&& 1 = 0) = decide (b.testBit p = false)) by decide +kernel) b hb p hp
  exact propext ⟨fun q => of_decide_eq_true (h ▸ decide_eq_true q), fun q => of_decide_eq_true (h.symm ▸ decide_eq_true q)⟩
theorem isIn8 {b p : Nat} (hb : b < 256) (hp : p < 8) (M : pv_M) : f_X9_isIn (nI b) (nI p) M = some (if b.testBit p = true then 1 else 0) := by
  have h := (show ∀ b, b < 256 → ∀ p, p < 8 → (decide ((nI b >>> (nI p &&& 31)) &&& 1 = 1) = decide (b.testBit p = true)) by decide +kernel) b hb p hp
  unfold f_X9_isIn
  by_cases e : b.testBit p = true
  · rw [if_pos (of_decide_eq_true (h.symm ▸ decide_eq_true e)), if_pos e]
  · rw [if_neg (fun q => e (of_decide_eq_true (h ▸ decide_eq_true q))), if_neg e]
section RW
variable {BA : pv_BA} {c v : Nat} {M : pv_M} {n : Nat → Nat} {b : Nat → Nat → Nat} {cn : Nat} {cf : Nat → Nat → Nat} {kn : Nat} {kf : Nat → Nat → Nat} {bn : Nat} {bf : Nat → Nat → Nat} {l d : Nat} {pu ra rb : Nat → Nat} {P V : Nat} {T : Nat → Nat → Nat → Nat} {U : Nat → Nat} {H : Nat → Int}
theorem x_takes (h1 : I1 M n b) {bt r : Nat} (hr : r < itm 2 (n 2) (b 2)) {S : pv_M} (hF : ∀ a c, a ≠ 180 → S.1 a c = M.1 a c) (hW : WX S (wS (RA (b 2)) (RB (b 2)) (RT (b 2)) bt r)) (hbit : bt.testBit r = false) : ∃ S', f_X7_takes 5 (nI r) S = some ((if cls (RA (b 2)) (RB (b 2)) (RT (b 2)) bt r = true then 0 else 1), S') ∧ WX S' (wS (RA (b 2)) (RB (b 2)) (RT (b 2)) bt (r + 1)) ∧ ∀ a c, a ≠ 180 → S'.1 a c = M.1 a c := by
  have hWI := wS_inv (bt := bt) (rat_rg (n := n 2) (b := b 2)) r (by omega)
  obtain ⟨q1, q2, q3⟩ := rat_rg r hr
  obtain ⟨f0, f1, f2⟩ := fit2 hr
  obtain ⟨s, hs⟩ : ∃ s, s = wS (RA (b 2)) (RB (b 2)) (RT (b 2)) bt r := ⟨_, rfl⟩
  have hstep : wS (RA (b 2)) (RB (b 2)) (RT (b 2)) bt (r + 1) = if bt.testBit r = true ∨ s.1 (RA (b 2) r) = s.1 (RB (b 2) r) then s else wJ s (RA (b 2) r) (RB (b 2) r) (RT (b 2) r) := by rw [hs]; rfl
  have hcl : cls (RA (b 2)) (RB (b 2)) (RT (b 2)) bt r = (!bt.testBit r && (decide (s.1 (RA (b 2) r) = s.1 (RB (b 2) r)) && !agr s (RA (b 2) r) (RB (b 2) r) (RT (b 2) r))) := by rw [hs]; rfl
  rw [hbit] at hstep hcl
  rw [hstep, hcl]
  rw [← hs] at hW hWI
  have hc := tcap_le 2
  have hn := (h1 2 (by decide)).1.1
  have hX2 : txX S 2 (n 2) (b 2) := (h1 2 (by decide)).2.fr (by decide) (fun a c q => hF a c (by omega))
  have hy := fun {k : Nat} (hk : k < 3) => x_byte (t := 2) (by decide) hX2 hn (ok_fit hr hk).1
  have y0 : f_X5_byteOf 5 (nI r) 0 S = some (nI (b 2 (4 * r))) := hy (k := 0) (by decide)
  have y1 : f_X5_byteOf 5 (nI r) 1 S = some (nI (b 2 (4 * r + 1))) := hy (k := 1) (by decide)
  have y2 : f_X5_byteOf 5 (nI r) 2 S = some (nI (b 2 (4 * r + 2))) := hy (k := 2) (by decide)
  obtain ⟨a1, a2, a3⟩ := hW _ q1
  obtain ⟨b1, b2', b3⟩ := hW _ q2
  have g1 := (hWI.1 _ q1).1
  have g2 := (hWI.1 _ q2).1
  unfold f_X7_takes f_X7_isTold
  rw [show pv_isT 5 = true from rfl, pv_ck_true, y0, pv_cap_some, show (97 : Int32) = nI 97 from rfl, pk_sub (by omega), pv_nm_eq, y1, pv_cap_some, pk_sub (by omega), pv_nm_eq, y2, pv_cap_some, show (48 : Int32) = nI 48 from rfl, pk_sub (by omega), nI_l (by omega), pv_nm_eq, show b 2 (4 * r) - 97 = RA (b 2) r from rfl, show b 2 (4 * r + 1) - 97 = RB (b 2) r from rfl, show b 2 (4 * r + 2) - 48 = RT (b 2) r from rfl, ld_180 q1, a1, ld_180 q2, b1, ite_eq (by omega) (by omega)]
  by_cases e : s.1 (RA (b 2) r) = s.1 (RB (b 2) r)
  · rw [if_pos e, pv_cap_some, if_neg (by decide), ldL_n sa_181 q1, a2, ldL_n sa_182 q2, b3, ldL_n sa_181 q2, b2', ldL_n sa_182 q1, a3, lN_mul, lN_mul, lN_mul, if_pos (Or.inr e), decide_eq_true e]
    simp only [hWI.cmp q1 q2 q3, Bool.not_false, Bool.true_and]
    refine ⟨S, ?_, hW, hF⟩
    cases agr s (RA (b 2) r) (RB (b 2) r) (RT (b 2) r) <;> rfl
  · obtain ⟨S', j1, j2, j3⟩ := x_joinW hWI hW q1 q2 q3 e
    rw [if_neg e, pv_cap_some, if_pos rfl, j1, pv_cal_some, if_neg (show ¬ (false = true ∨ s.1 (RA (b 2) r) = s.1 (RB (b 2) r)) from fun z => z.elim (by decide) e), decide_eq_false e]
    exact ⟨S', rfl, j2, fun a c q => by rw [j3 a c q]; exact hF a c q⟩
theorem x_clash (h1 : I1 M n b) : ∃ M', f_X7_firstClash 5 M = some (fcI (cls (RA (b 2)) (RB (b 2)) (RT (b 2)) 0) (itm 2 (n 2) (b 2)), M') ∧ WX M' (wS (RA (b 2)) (RB (b 2)) (RT (b 2)) 0 (itm 2 (n 2) (b 2))) ∧ ∀ a c, a ≠ 180 → M'.1 a c = M.1 a c := by
  have hle := (itm_le (b := b 2) (h1 2 (by decide)).1.1).1
  obtain ⟨M1, e1, e2, e3⟩ := x_start M
  obtain ⟨p, hp⟩ : ∃ p, p = cls (RA (b 2)) (RB (b 2)) (RT (b 2)) 0 := ⟨_, rfl⟩
  unfold f_X7_firstClash
  rw [show pv_isT 5 = true from rfl, pv_ck_true, show f_X5_items 5 M = some (nI (itm 2 (n 2) (b 2))) from x_it h1 (show 2 < 3 by decide), pv_cap_some, e1, pv_cal_some, ← hp]
  refine for3b (itm 2 (n 2) (b 2)) (fun r (x : Int32) (S : pv_M) => x = fcI p r ∧ WX S (wS (RA (b 2)) (RB (b 2)) (RT (b 2)) 0 r) ∧ ∀ a c, a ≠ 180 → S.1 a c = M.1 a c) (fun q => ∃ M' : pv_M, q = some (fcI p (itm 2 (n 2) (b 2)), M') ∧ WX M' (wS (RA (b 2)) (RB (b 2)) (RT (b 2)) 0 (itm 2 (n 2) (b 2))) ∧ ∀ a c, a ≠ 180 → M'.1 a c = M.1 a c) ?_ ?_ pv_FU 0 _ M1 (Nat.zero_le _) (by show itm 2 (n 2) (b 2) - 0 < 5000; omega) ⟨rfl, e2, e3⟩
  · rintro rec x S ⟨rfl, s1, s2⟩
    unfold f_X7_firstClash_L14
    rw [if_pos (nI_le (Nat.le_refl _) (by omega))]
    exact ⟨S, rfl, s1, s2⟩
  · rintro rec r x S hr ⟨rfl, s1, s2⟩ hrec
    obtain ⟨S', f1, f2, f3⟩ := x_takes h1 hr s2 s1 (Nat.zero_testBit r)
    rw [← hp] at f1
    unfold f_X7_firstClash_L14
    rw [if_neg (nI_ge hr (by omega)), f1, pv_cal_some, nI_1]
    by_cases e : p r = true
    · rw [if_pos e, if_pos rfl]
      have := fc_yes e (by omega)
      by_cases e2 : fcI p r = -1
      · rw [if_pos e2] at this ⊢
        exact hrec _ _ ⟨this.symm, f2, f3⟩
      · rw [if_neg e2] at this ⊢
        exact hrec _ _ ⟨this.symm, f2, f3⟩
    · rw [if_neg e, if_neg (by decide)]
      exact hrec _ _ ⟨(fc_no (by simpa using e)).symm, f2, f3⟩
theorem x_agrees (h1 : I1 M n b) {bt : Nat} : bt < 256 → ∃ M', f_X7_agreesWithout 5 (nI (itm 2 (n 2) (b 2))) (nI bt) M = some ((if fa_first (cls (RA (b 2)) (RB (b 2)) (RT (b 2)) bt) (itm 2 (n 2) (b 2)) < itm 2 (n 2) (b 2) then 0 else 1), M') ∧ ∀ a c, a ≠ 180 → M'.1 a c = M.1 a c := by
  intro hbt
  have hle := (itm_le (b := b 2) (h1 2 (by decide)).1.1).1
  obtain ⟨M1, e1, e2, e3⟩ := x_start M
  obtain ⟨p, hp⟩ : ∃ p, p = cls (RA (b 2)) (RB (b 2)) (RT (b 2)) bt := ⟨_, rfl⟩
  unfold f_X7_agreesWithout
  rw [show pv_isT 5 = true from rfl, pv_ck_true, e1, pv_cal_some, ← hp]
  refine for2 (itm 2 (n 2) (b 2)) (fun r (S : pv_M) => (∀ k, k < r → p k = false) ∧ WX S (wS (RA (b 2)) (RB (b 2)) (RT (b 2)) bt r) ∧ ∀ a c, a ≠ 180 → S.1 a c = M.1 a c) (fun q => ∃ M' : pv_M, q = some ((if fa_first p (itm 2 (n 2) (b 2)) < itm 2 (n 2) (b 2) then 0 else 1), M') ∧ ∀ a c, a ≠ 180 → M'.1 a c = M.1 a c) ?_ ?_ pv_FU 0 M1 (Nat.zero_le _) (by show itm 2 (n 2) (b 2) - 0 < 5000; omega) ⟨fun k hk => absurd hk (Nat.not_lt_zero _), e2, e3⟩
  · rintro rec S ⟨s0, s1, s2⟩
    unfold f_X7_agreesWithout_L7
    rw [if_pos (nI_le (Nat.le_refl _) (by omega)), first_none s0, if_neg (Nat.lt_irrefl _)]
    exact ⟨S, rfl, s2⟩
  · rintro rec r S hr ⟨s0, s1, s2⟩ hrec
    unfold f_X7_agreesWithout_L7
    rw [if_neg (nI_ge hr (by omega)), nI_1]
    simp only [bit8 hbt (show r < 8 by omega)]
    by_cases e : bt.testBit r = false
    · obtain ⟨S', f1, f2, f3⟩ := x_takes h1 hr s2 s1 e
      rw [← hp] at f1
      rw [if_pos e, f1, pv_cal_some]
      by_cases e2 : p r = true
      · rw [if_pos e2, if_pos rfl, first_is s0 e2 hr, if_pos hr]
        exact ⟨S', rfl, f3⟩
      · rw [if_neg e2, if_neg (by decide)]
        exact hrec _ ⟨fun k hk => by
          by_cases ek : k = r
          · rw [ek]; simpa using e2
          · exact s0 k (by omega), f2, f3⟩
    · have et : bt.testBit r = true := by simpa using e
      rw [if_neg e]
      refine hrec _ ⟨fun k hk => ?_, ?_, s2⟩
      · by_cases ek : k = r
        · rw [ek, hp]
          unfold cls
          rw [et]
          rfl
        · exact s0 k (by omega)
      · have : wS (RA (b 2)) (RB (b 2)) (RT (b 2)) bt (r + 1) = wS (RA (b 2)) (RB (b 2)) (RT (b 2)) bt r := if_pos (Or.inl et)
        rw [this]
        exact s1
theorem m_finds (h1 : I1 M n b) (hT : Told M n b) {bt : Nat} (hbt : bt < 256) : ∃ M', f_X9_finds (nI bt) M = some ((if fa_first (cls (RA (b 2)) (RB (b 2)) (RT (b 2)) bt) (itm 2 (n 2) (b 2)) < itm 2 (n 2) (b 2) then 0 else 1), M') ∧ WM M' (wS (RA (b 2)) (RB (b 2)) (RT (b 2)) bt (itm 2 (n 2) (b 2))) ∧ M'.1 196 26 = fcI (cls (RA (b 2)) (RB (b 2)) (RT (b 2)) bt) (itm 2 (n 2) (b 2)) ∧ ∀ a c, ¬ (a = 216 ∨ (a = 196 ∧ c = 26)) → M'.1 a c = M.1 a c := by
  have hle := (itm_le (b := b 2) (h1 2 (by decide)).1.1).1
  obtain ⟨p, hp⟩ : ∃ p, p = cls (RA (b 2)) (RB (b 2)) (RT (b 2)) bt := ⟨_, rfl⟩
  obtain ⟨t1, t2⟩ := hT 2 (by decide)
  rw [← hp]
  unfold f_X9_finds
  rw [pv_jn_eq]
  refine for2 6 (fun i (S : pv_M) => (∀ k, k < i → S.1 216 k = nI k ∧ S.2 217 k = lN 1 ∧ S.2 218 k = lN 1) ∧ ∀ a c, a ≠ 216 → S.1 a c = M.1 a c) (fun q => ∃ M' : pv_M, q = some ((if fa_first p (itm 2 (n 2) (b 2)) < itm 2 (n 2) (b 2) then 0 else 1), M') ∧ WM M' (wS (RA (b 2)) (RB (b 2)) (RT (b 2)) bt (itm 2 (n 2) (b 2))) ∧ M'.1 196 26 = fcI p (itm 2 (n 2) (b 2)) ∧ ∀ a c, ¬ (a = 216 ∨ (a = 196 ∧ c = 26)) → M'.1 a c = M.1 a c) ?_ ?_ pv_FU 0 M (Nat.zero_le _) (by decide) ⟨fun k hk => absurd hk (Nat.not_lt_zero _), fun _ _ _ => rfl⟩
  · rintro rec S ⟨s1, s2⟩
    unfold f_X9_finds_L2
    rw [if_pos (by decide)]
    dsimp only
    rw [pv_nm_eq, pv_jn_eq]
    refine for2 (itm 2 (n 2) (b 2)) (fun r (R : pv_M) => WM R (wS (RA (b 2)) (RB (b 2)) (RT (b 2)) bt r) ∧ R.1 196 26 = fcI p r ∧ ∀ a c, ¬ (a = 216 ∨ (a = 196 ∧ c = 26)) → R.1 a c = M.1 a c) (fun q => ∃ M' : pv_M, q = some ((if fa_first p (itm 2 (n 2) (b 2)) < itm 2 (n 2) (b 2) then 0 else 1), M') ∧ WM M' (wS (RA (b 2)) (RB (b 2)) (RT (b 2)) bt (itm 2 (n 2) (b 2))) ∧ M'.1 196 26 = fcI p (itm 2 (n 2) (b 2)) ∧ ∀ a c, ¬ (a = 216 ∨ (a = 196 ∧ c = 26)) → M'.1 a c = M.1 a c) ?_ ?_ pv_FU 0 _ (Nat.zero_le _) (by show itm 2 (n 2) (b 2) - 0 < 5000; omega) ⟨fun k hk => ?_, ?_, fun a c q => ?_⟩
    · rintro rec2 R ⟨r1, r2, r3⟩
      unfold f_X9_finds_L42
      rw [show (2 : Int32) = nI 2 from rfl, ld_203 (by decide), r3 _ _ (by omega), t1, if_pos (nI_le (Nat.le_refl _) (by omega))]
      dsimp only
      rw [pv_nm_eq, r2]
      simp only [fc_m1 (p := p) (show itm 2 (n 2) (b 2) < 100 by omega)]
      refine ⟨R, ?_, r1, r2, r3⟩
      by_cases e : fa_first p (itm 2 (n 2) (b 2)) < itm 2 (n 2) (b 2)
      · rw [if_neg (fun z => z e), if_pos e]
      · rw [if_pos e, if_neg e]
    · rintro rec2 r R hr ⟨r1, r2, r3⟩ hrec2
      obtain ⟨q1, q2, q3⟩ := rat_rg r hr
      have hWI := wS_inv (bt := bt) (rat_rg (n := n 2) (b := b 2)) r (by omega)
      obtain ⟨s, hs⟩ : ∃ s, s = wS (RA (b 2)) (RB (b 2)) (RT (b 2)) bt r := ⟨_, rfl⟩
      have hstep : wS (RA (b 2)) (RB (b 2)) (RT (b 2)) bt (r + 1) = if bt.testBit r = true ∨ s.1 (RA (b 2) r) = s.1 (RB (b 2) r) then s else wJ s (RA (b 2) r) (RB (b 2) r) (RT (b 2) r) := by rw [hs]; rfl
      have hcl : p r = (!bt.testBit r && (decide (s.1 (RA (b 2) r) = s.1 (RB (b 2) r)) && !agr s (RA (b 2) r) (RB (b 2) r) (RT (b 2) r))) := by rw [hp, hs]; rfl
      rw [← hs] at r1 hWI
      have u0 : R.1 204 (48 + 3 * r) = nI (RA (b 2) r) := by
        rw [r3 _ _ (by omega)]
        have := t2 r hr 0 (by decide)
        rw [show 24 * 2 + 3 * r + 0 = 48 + 3 * r by omega, Nat.add_zero] at this
        exact this
      have u1 : R.1 204 (49 + 3 * r) = nI (RB (b 2) r) := by
        rw [r3 _ _ (by omega)]
        have := t2 r hr 1 (by decide)
        rw [show 24 * 2 + 3 * r + 1 = 49 + 3 * r by omega] at this
        exact this
      have u2 : R.1 204 (50 + 3 * r) = nI (RT (b 2) r) := by
        rw [r3 _ _ (by omega)]
        have := t2 r hr 2 (by decide)
        rw [show 24 * 2 + 3 * r + 2 = 50 + 3 * r by omega] at this
        exact this
      obtain ⟨a1, a2, a3⟩ := r1 _ q1
      obtain ⟨b1, b2', b3⟩ := r1 _ q2
      have g1 := (hWI.1 _ q1).1
      have g2 := (hWI.1 _ q2).1
      unfold f_X9_finds_L42
      rw [show (2 : Int32) = nI 2 from rfl, ld_203 (by decide), r3 _ _ (by omega), t1, if_neg (nI_ge hr (by omega)), show (48 : Int32) = nI 48 from rfl, show (49 : Int32) = nI 49 from rfl, show (50 : Int32) = nI 50 from rfl, show (3 : Int32) = nI 3 from rfl, pk_mul, nI_add, nI_add, nI_add, ld_204 (by omega), u0, ld_204 (by omega), u1, ld_204 (by omega), u2, nI_l (by omega), pv_nm_eq, isIn8 hbt (by omega), pv_cap_some, pv_jn_eq, nI_1]
      have hkeep : p r = false → wS (RA (b 2)) (RB (b 2)) (RT (b 2)) bt (r + 1) = s → ∃ M' : pv_M, rec2 (nI (r + 1)) R = some ((if fa_first p (itm 2 (n 2) (b 2)) < itm 2 (n 2) (b 2) then 0 else 1), M') ∧ WM M' (wS (RA (b 2)) (RB (b 2)) (RT (b 2)) bt (itm 2 (n 2) (b 2))) ∧ M'.1 196 26 = fcI p (itm 2 (n 2) (b 2)) ∧ ∀ a c, ¬ (a = 216 ∨ (a = 196 ∧ c = 26)) → M'.1 a c = M.1 a c := fun z1 z2 => hrec2 _ ⟨by rw [z2]; exact r1, by rw [fc_no z1]; exact r2, r3⟩
      by_cases et : bt.testBit r = true
      · rw [bt1 et]
        unfold f_X9_finds_J185
        rw [isIn8 hbt (by omega), pv_cap_some, bt1 et, nI_1]
        exact hkeep (by rw [hcl, et]; rfl) (by rw [hstep, if_pos (Or.inl et)])
      · have ef : bt.testBit r = false := by simpa using et
        rw [bt0 et, ld_216 q1, a1, ld_216 q2, b1, ite_eq (by omega) (by omega)]
        by_cases e : s.1 (RA (b 2) r) = s.1 (RB (b 2) r)
        · have hst : wS (RA (b 2)) (RB (b 2)) (RT (b 2)) bt (r + 1) = s := by rw [hstep, if_pos (Or.inr e)]
          have hput : ∀ z, z = fcI p (r + 1) → ∃ M' : pv_M, rec2 (nI (r + 1)) (pv_u R.1 196 26 z, R.2) = some ((if fa_first p (itm 2 (n 2) (b 2)) < itm 2 (n 2) (b 2) then 0 else 1), M') ∧ WM M' (wS (RA (b 2)) (RB (b 2)) (RT (b 2)) bt (itm 2 (n 2) (b 2))) ∧ M'.1 196 26 = fcI p (itm 2 (n 2) (b 2)) ∧ ∀ a c, ¬ (a = 216 ∨ (a = 196 ∧ c = 26)) → M'.1 a c = M.1 a c := by
            rintro z rfl
            refine hrec2 _ ⟨fun k hk => ?_, ?_, fun a c q => ?_⟩
            · rw [hst]
              show pv_u R.1 196 26 (fcI p (r + 1)) 216 k = _ ∧ R.2 217 k = _ ∧ R.2 218 k = _
              rw [uu_k _ _ (by decide)]
              exact r1 k hk
            · rw [fst_u, if_pos ⟨rfl, rfl⟩]
            · rw [fst_u, if_neg (by omega)]
              exact r3 a c q
          rw [if_pos e, ldL_n sa_217 q1, a2, ldL_n sa_218 q2, b3, ldL_n sa_217 q2, b2', ldL_n sa_218 q1, a3, lN_mul, lN_mul, lN_mul, pv_jn_eq]
          simp only [hWI.cmp q1 q2 q3]
          by_cases eg : agr s (RA (b 2) r) (RB (b 2) r) (RT (b 2) r) = true
          · have hpr : p r = false := by rw [hcl, eg]; simp
            rw [if_pos eg]
            simp only [pv_jn_eq, pv_nm_eq, r2, if_neg (show ¬ (1 : Int32) = 0 by decide)]
            exact hput _ (fc_no hpr).symm
          · have hpr : p r = true := by rw [hcl, ef, decide_eq_true e, show agr s (RA (b 2) r) (RB (b 2) r) (RT (b 2) r) = false by simpa using eg]; rfl
            have hy := fc_yes hpr (by omega)
            rw [if_neg eg]
            simp only [pv_jn_eq, pv_nm_eq, r2, if_true]
            by_cases em : fcI p r = -1
            · rw [if_pos em] at hy ⊢
              exact hput _ hy.symm
            · rw [if_neg em] at hy ⊢
              exact hput _ hy.symm
        · rw [if_neg e]
          unfold f_X9_finds_J185
          obtain ⟨S', j1, j2, j3⟩ := m_joinW hWI r1 q1 q2 q3
          rw [isIn8 hbt (by omega), pv_cap_some, bt0 et, ld_216 q1, a1, ld_216 q2, b1, ldL_n sa_217 q2, b2', ldL_n sa_218 q1, a3, ldL_n sa_218 q2, b3, ldL_n sa_217 q1, a2, lN_mul, lN_mul, lN_mul, j1, pv_cal_some, nI_1]
          refine hrec2 _ ⟨?_, ?_, fun a c q => by rw [j3 a c (by omega)]; exact r3 a c q⟩
          · rw [hstep, if_neg (fun z => z.elim et e)]
            exact j2
          · rw [j3 _ _ (by decide), fc_no (by rw [hcl, decide_eq_false e]; simp)]
            exact r2
    · show pv_u S.1 196 26 (-1) 216 k = nI k ∧ S.2 217 k = lN 1 ∧ S.2 218 k = lN 1
      rw [uu_k _ _ (by decide)]
      exact s1 k hk
    · rw [fst_u, if_pos ⟨rfl, rfl⟩]
      rfl
    · rw [fst_u, if_neg (by omega)]
      exact s2 a c (by omega)
  · rintro rec i S hi ⟨s1, s2⟩ hrec
    unfold f_X9_finds_L2
    rw [show (6 : Int32) = nI 6 from rfl, if_neg (nI_ge hi (by decide)), st_216 hi, stL_n sa_217 hi, stL_n sa_218 hi, nI_1]
    refine hrec _ ⟨fun k hk => ?_, fun a c q => ?_⟩
    · show pv_u S.1 216 i (nI i) 216 k = nI k ∧ pv_u (pv_u S.2 217 i 1) 218 i 1 217 k = lN 1 ∧ pv_u (pv_u S.2 217 i 1) 218 i 1 218 k = lN 1
      by_cases e : k = i
      · subst e
        exact ⟨uu_same _ _ _ _, by rw [uu_k _ _ (by decide), uu_same]; rfl, by rw [uu_same]; rfl⟩
      · rw [uu_j _ _ e, uu_k _ _ (show (217 : Nat) ≠ 218 by decide), uu_j _ _ e, uu_j _ _ e, uu_k _ _ (show (218 : Nat) ≠ 217 by decide)]
        exact s1 k (by omega)
    · show pv_u S.1 216 i (nI i) a c = M.1 a c
      rw [u_if, if_neg (by omega)]
      exact s2 a c q
end RW
