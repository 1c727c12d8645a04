/-! the greatest common divisor, by both -/
theorem mod_half {b r : Nat} (h0 : 0 < r) (h : r < b) : 2 * (b % r) < b := by
  have h1 := Nat.mod_lt b h0
  have h2 := Nat.div_add_mod b r
  have h3 : 1 ≤ b / r := Nat.div_pos (Nat.le_of_lt h) h0
  have h4 : r * 1 ≤ r * (b / r) := Nat.mul_le_mul_left r h3
  omega
theorem gcd_st (a b : Nat) : Nat.gcd a b = Nat.gcd b (a % b) := by
  rw [Nat.gcd_comm a b, Nat.gcd_rec b a, Nat.gcd_comm]
theorem cmp0 (b : Nat) (hb : b < 2 ^ 63) : (lg_cmp (lN b) 0 = 0) = (b = 0) := by
  rw [lg_cmp_eq, show (0 : Int64) = lN 0 from rfl, pk_lEQ hb (by decide)]
theorem lN_ne0 {b : Nat} (h0 : 0 < b) (hb : b < 2 ^ 63) : ¬ lN b = 0 := by
  intro e
  have := (pk_lEQ hb (show 0 < 2 ^ 63 by decide)).mp e
  omega
theorem x_cdL {j1 : Int64 → Option Int64} : ∀ (k F a b i : Nat), b < 2 ^ k → k ≤ 62 → 2 * k + 1 ≤ F → i + 2 * k ≤ 200 → a < 2 ^ 63 → pv_lp3 (f_X8_commonDivisor_L9 j1) F (lN a) (lN b) (nI i) = j1 (lN (Nat.gcd a b))
  | 0, 0, a, b, i, _, _, h, _, _ => by omega
  | 0, F + 1, a, b, i, hb, _, _, hi, ha => by
    have : b = 0 := by
      have : b < 1 := hb
      omega
    subst this
    show f_X8_commonDivisor_L9 j1 (pv_lp3 (f_X8_commonDivisor_L9 j1) F) (lN a) (lN 0) (nI i) = _
    unfold f_X8_commonDivisor_L9
    rw [Nat.gcd_zero_right]
    split
    · rfl
    · rw [if_pos (by decide)]
  | k + 1, F, a, b, i, hb, hk, hF, hi, ha => by
    obtain ⟨F', rfl⟩ : ∃ F', F = F' + 1 := ⟨F - 1, by omega⟩
    obtain ⟨F'', rfl⟩ : ∃ F'', F' = F'' + 1 := ⟨F' - 1, by omega⟩
    have h62 : (2 : Nat) ^ (k + 1) ≤ 2 ^ 62 := Nat.pow_le_pow_right (by decide) hk
    have e62 : (2 : Nat) ^ 62 < 2 ^ 63 := by decide
    have hb63 : b < 2 ^ 63 := by omega
    show f_X8_commonDivisor_L9 j1 (pv_lp3 (f_X8_commonDivisor_L9 j1) (F'' + 1)) (lN a) (lN b) (nI i) = _
    conv => lhs; unfold f_X8_commonDivisor_L9
    rw [show (200 : Int32) = nI 200 from rfl, if_neg (nI_ge (show i < 200 by omega) (by decide))]
    simp only [cmp0 b hb63]
    by_cases e : b = 0
    · rw [if_pos e, e, Nat.gcd_zero_right]
    · have hm : a % b < b := Nat.mod_lt _ (by omega)
      rw [if_neg e, decide_eq_true (lN_ne0 (by omega) hb63), pv_ck_true, pv_nm_eq, pk_lRem ha (by omega) hb63, nI_1, gcd_st]
      show f_X8_commonDivisor_L9 j1 (pv_lp3 (f_X8_commonDivisor_L9 j1) F'') (lN b) (lN (a % b)) (nI (i + 1)) = _
      conv => lhs; unfold f_X8_commonDivisor_L9
      rw [show (200 : Int32) = nI 200 from rfl, ite_le (by decide) (by omega)]
      simp only [cmp0 (a % b) (by omega)]
      by_cases e2 : a % b = 0
      · rw [e2, Nat.gcd_zero_right, if_pos rfl]
        split <;> rfl
      · rw [if_neg (by omega), if_neg e2, decide_eq_true (lN_ne0 (by omega) (by omega)), pv_ck_true, pv_nm_eq, pk_lRem hb63 (by omega) (by omega), nI_1, gcd_st b]
        have hh := mod_half (b := b) (r := a % b) (by omega) hm
        have h2 : (2 : Nat) ^ (k + 1) = 2 * 2 ^ k := by rw [Nat.pow_succ, Nat.mul_comm]
        exact x_cdL k F'' (a % b) (b % (a % b)) (i + 2) (by omega) (by omega) (by omega) (by omega) (by omega)
theorem m_cdL : ∀ (k F a b : Nat), b < 2 ^ k → k ≤ 62 → 2 * k + 1 ≤ F → a < 2 ^ 63 → pv_lp2 f_X9_common_L6 F (lN a) (lN b) = some (lN (Nat.gcd a b))
  | 0, 0, a, b, _, _, h, _ => by omega
  | 0, F + 1, a, b, hb, _, _, ha => by
    have : b = 0 := by
      have : b < 1 := hb
      omega
    subst this
    show f_X9_common_L6 (pv_lp2 f_X9_common_L6 F) (lN a) (lN 0) = _
    unfold f_X9_common_L6
    rw [Nat.gcd_zero_right, if_pos (by decide)]
  | k + 1, F, a, b, hb, hk, hF, ha => by
    obtain ⟨F', rfl⟩ : ∃ F', F = F' + 1 := ⟨F - 1, by omega⟩
    obtain ⟨F'', rfl⟩ : ∃ F'', F' = F'' + 1 := ⟨F' - 1, by omega⟩
    have h62 : (2 : Nat) ^ (k + 1) ≤ 2 ^ 62 := Nat.pow_le_pow_right (by decide) hk
    have e62 : (2 : Nat) ^ 62 < 2 ^ 63 := by decide
    have hb63 : b < 2 ^ 63 := by omega
    show f_X9_common_L6 (pv_lp2 f_X9_common_L6 (F'' + 1)) (lN a) (lN b) = _
    conv => lhs; unfold f_X9_common_L6
    simp only [cmp0 b hb63]
    by_cases e : b = 0
    · rw [if_pos e, e, Nat.gcd_zero_right]
    · have hm : a % b < b := Nat.mod_lt _ (by omega)
      rw [if_neg e, decide_eq_true (lN_ne0 (by omega) hb63), pv_ck_true, pv_nm_eq, pk_lRem ha (by omega) hb63, gcd_st]
      show f_X9_common_L6 (pv_lp2 f_X9_common_L6 F'') (lN b) (lN (a % b)) = _
      conv => lhs; unfold f_X9_common_L6
      simp only [cmp0 (a % b) (by omega)]
      by_cases e2 : a % b = 0
      · rw [e2, Nat.gcd_zero_right, if_pos rfl]
      · rw [if_neg e2, decide_eq_true (lN_ne0 (by omega) (by omega)), pv_ck_true, pv_nm_eq, pk_lRem hb63 (by omega) (by omega), gcd_st b]
        have hh := mod_half (b := b) (r := a % b) (by omega) hm
        have h2 : (2 : Nat) ^ (k + 1) = 2 * 2 ^ k := by rw [Nat.pow_succ, Nat.mul_comm]
        exact m_cdL k F'' (a % b) (b % (a % b)) (by omega) (by omega) (by omega) (by omega)
theorem x_cd {a b : Nat} (ha : a < 2 ^ 62) (hb : b < 2 ^ 62) (h0 : 0 < a) (M : pv_M) : f_X8_commonDivisor (lN a) (lN b) M = some (lN (Nat.gcd a b)) := by
  have e62 : (2 : Nat) ^ 62 < 2 ^ 63 := by decide
  unfold f_X8_commonDivisor
  rw [pv_jn_eq, show (0 : Int32) = nI 0 from rfl, x_cdL 62 pv_FU a b 0 hb (by decide) (by decide) (by decide) (by omega)]
  have hg : 0 < Nat.gcd a b := Nat.gcd_pos_of_pos_left _ h0
  have hle : Nat.gcd a b ≤ a := Nat.gcd_le_left _ h0
  rw [if_pos]
  show nI 0 ≤ lg_cmp (lN (Nat.gcd a b)) 1
  rw [show nI 0 = (0 : Int32) from rfl, lg_cmp_ge, show (1 : Int64) = lN 1 from rfl, pk_lLE (by decide) (by omega)]
  exact hg
theorem m_cd {a b : Nat} (ha : a < 2 ^ 62) (hb : b < 2 ^ 62) (M : pv_M) : f_X9_common (lN a) (lN b) M = some (lN (Nat.gcd a b)) := by
  have e62 : (2 : Nat) ^ 62 < 2 ^ 63 := by decide
  unfold f_X9_common
  exact m_cdL 62 pv_FU a b hb (by decide) (by decide) (by omega)
/-! what a to f are worth, plainly -/
abbrev pv_WS : Type := (Nat → Nat) × (Nat → Nat) × (Nat → Nat)
def wX (s : pv_WS) (a b t k : Nat) : Nat := s.2.1 k * (t * s.2.1 b * s.2.2 a)
def wY (s : pv_WS) (a b k : Nat) : Nat := s.2.2 k * (s.2.2 b * s.2.1 a)
def wJ (s : pv_WS) (a b t : Nat) : pv_WS := (fun k => if s.1 k = s.1 a then s.1 b else s.1 k, fun k => if s.1 k = s.1 a then wX s a b t k / Nat.gcd (wX s a b t k) (wY s a b k) else s.2.1 k, fun k => if s.1 k = s.1 a then wY s a b k / Nat.gcd (wX s a b t k) (wY s a b k) else s.2.2 k)
def szg (g : Nat → Nat) (r : Nat) : Nat := fb_ct (fun k => decide (g k = r)) 6
def wRl (s : pv_WS) (i j E : Nat) : Prop := ∃ p q, 1 ≤ p ∧ 1 ≤ q ∧ p * q ≤ 9 ^ E ∧ s.2.1 i * s.2.2 j * q = s.2.2 i * s.2.1 j * p
def WI (s : pv_WS) : Prop := (∀ k, k < 6 → s.1 k < 6 ∧ 1 ≤ s.2.1 k ∧ 1 ≤ s.2.2 k ∧ Nat.gcd (s.2.1 k) (s.2.2 k) = 1) ∧ (∀ i j, i < 6 → j < 6 → s.1 i = s.1 j → wRl s i j (szg s.1 (s.1 i) - 1)) ∧ ∀ k, k < 6 → s.1 (s.1 k) = s.1 k ∧ s.2.1 (s.1 k) = 1 ∧ s.2.2 (s.1 k) = 1
theorem szg_pos {g : Nat → Nat} {k : Nat} (hk : k < 6) : 1 ≤ szg g (g k) := fb_ct_pos.mpr ⟨k, hk, decide_eq_true rfl⟩
theorem wRl_mono {s : pv_WS} {i j E E' : Nat} (h : wRl s i j E) (hE : E ≤ E') : wRl s i j E' := by
  obtain ⟨p, q, h1, h2, h3, h4⟩ := h
  exact ⟨p, q, h1, h2, Nat.le_trans h3 (Nat.pow_le_pow_right (by decide) hE), h4⟩
/-- no part is above 9^5 -/
theorem WI.le {s : pv_WS} (h : WI s) {k : Nat} (hk : k < 6) : s.2.1 k ≤ 59049 ∧ s.2.2 k ≤ 59049 := by
  obtain ⟨h1, h2, h3⟩ := h
  obtain ⟨a1, a2, a3, a4⟩ := h1 k hk
  obtain ⟨b1, b2, b3⟩ := h3 k hk
  obtain ⟨p, q, p1, q1, pq, e⟩ := h2 k (s.1 k) hk a1 b1.symm
  rw [b2, b3, Nat.mul_one, Nat.mul_one] at e
  have hsz : szg s.1 (s.1 k) ≤ 6 := fb_ct_le _ _
  have h5 : p * q ≤ 59049 := Nat.le_trans pq (Nat.le_trans (Nat.pow_le_pow_right (by decide) (show szg s.1 (s.1 k) - 1 ≤ 5 by omega)) (by decide))
  have d1 : s.2.1 k ∣ p := Nat.Coprime.dvd_of_dvd_mul_left (show Nat.Coprime (s.2.1 k) (s.2.2 k) from a4) ⟨q, e.symm⟩
  have d2 : s.2.2 k ∣ q := Nat.Coprime.dvd_of_dvd_mul_left (show Nat.Coprime (s.2.2 k) (s.2.1 k) from by rw [Nat.Coprime, Nat.gcd_comm]; exact a4) ⟨p, e⟩
  have l1 := Nat.le_of_dvd p1 d1
  have l2 := Nat.le_of_dvd q1 d2
  have l3 : p * 1 ≤ p * q := Nat.mul_le_mul_left p q1
  have l4 : 1 * q ≤ p * q := Nat.mul_le_mul_right q p1
  omega
theorem cancel2 {c d x y : Nat} (hc : 0 < c) (hd : 0 < d) (h : x * (c * d) = y * (c * d)) : x = y := Nat.eq_of_mul_eq_mul_right (Nat.mul_pos hc hd) h
theorem WI.join {s : pv_WS} (h : WI s) {a b t : Nat} (ha : a < 6) (hb : b < 6) (ht : 1 ≤ t ∧ t ≤ 9) (hne : s.1 a ≠ s.1 b) : WI (wJ s a b t) := by
  have hle := fun {k : Nat} (hk : k < 6) => h.le hk
  obtain ⟨h1, h2, h3⟩ := h
  obtain ⟨ga, a2, a3, a4⟩ := h1 a ha
  obtain ⟨gb, b2, b3, b4⟩ := h1 b hb
  have hx : ∀ k, k < 6 → 0 < wX s a b t k ∧ 0 < wY s a b k := fun k hk => by
    obtain ⟨k1, k2, k3, k4⟩ := h1 k hk
    exact ⟨Nat.mul_pos k2 (Nat.mul_pos (Nat.mul_pos ht.1 b2) a3), Nat.mul_pos k3 (Nat.mul_pos b3 a2)⟩
  have hc : ∀ k, k < 6 → 0 < Nat.gcd (wX s a b t k) (wY s a b k) := fun k hk => Nat.gcd_pos_of_pos_left _ (hx k hk).1
  have dX : ∀ k, wX s a b t k / Nat.gcd (wX s a b t k) (wY s a b k) * Nat.gcd (wX s a b t k) (wY s a b k) = wX s a b t k := fun k => Nat.div_mul_cancel (Nat.gcd_dvd_left _ _)
  have dY : ∀ k, wY s a b k / Nat.gcd (wX s a b t k) (wY s a b k) * Nat.gcd (wX s a b t k) (wY s a b k) = wY s a b k := fun k => Nat.div_mul_cancel (Nat.gcd_dvd_right _ _)
  -- sizes
  have sz1 : szg (wJ s a b t).1 (s.1 b) = szg s.1 (s.1 a) + szg s.1 (s.1 b) := by
    unfold szg
    rw [← fb_ct_or (p := fun k => decide (s.1 k = s.1 a)) (q := fun k => decide (s.1 k = s.1 b)) (fun k _ => by
      rintro ⟨q1, q2⟩
      exact hne ((of_decide_eq_true q1).symm.trans (of_decide_eq_true q2)))]
    refine fb_ct_cong (fun k _ => ?_)
    show decide ((if s.1 k = s.1 a then s.1 b else s.1 k) = s.1 b) = _
    by_cases e : s.1 k = s.1 a
    · rw [if_pos e, decide_eq_true rfl, decide_eq_true e, Bool.true_or]
    · rw [if_neg e, decide_eq_false e, Bool.false_or]
  have sz2 : ∀ r, r ≠ s.1 a → r ≠ s.1 b → szg (wJ s a b t).1 r = szg s.1 r := fun r q1 q2 => by
    unfold szg
    refine fb_ct_cong (fun k _ => ?_)
    show decide ((if s.1 k = s.1 a then s.1 b else s.1 k) = r) = _
    by_cases e : s.1 k = s.1 a
    · rw [if_pos e, decide_eq_false (fun z => q2 z.symm), decide_eq_false (fun z => q1 (by rw [← z, e]))]
    · rw [if_neg e]
  have pa := szg_pos (g := s.1) ha
  have pb := szg_pos (g := s.1) hb
  have gG : ∀ k, (wJ s a b t).1 k = if s.1 k = s.1 a then s.1 b else s.1 k := fun _ => rfl
  have gA : ∀ k, (wJ s a b t).2.1 k = if s.1 k = s.1 a then wX s a b t k / Nat.gcd (wX s a b t k) (wY s a b k) else s.2.1 k := fun _ => rfl
  have gB : ∀ k, (wJ s a b t).2.2 k = if s.1 k = s.1 a then wY s a b k / Nat.gcd (wX s a b t k) (wY s a b k) else s.2.2 k := fun _ => rfl
  -- one of the joined group against one of the other
  have cross : ∀ i j, i < 6 → j < 6 → s.1 i = s.1 a → s.1 j = s.1 b → ∃ p q, 1 ≤ p ∧ 1 ≤ q ∧ p * q ≤ 9 ^ (szg s.1 (s.1 a) + szg s.1 (s.1 b) - 1) ∧ (wX s a b t i / Nat.gcd (wX s a b t i) (wY s a b i)) * s.2.2 j * q = (wY s a b i / Nat.gcd (wX s a b t i) (wY s a b i)) * s.2.1 j * p := by
    intro i j hi hj ei ej
    obtain ⟨p1, q1, e1, e2, e3, e4⟩ := h2 i a hi ha ei
    obtain ⟨p2, q2, f1, f2, f3, f4⟩ := h2 b j hb hj ej.symm
    rw [ei] at e3
    refine ⟨p1 * t * p2, q1 * q2, Nat.mul_pos (Nat.mul_pos e1 ht.1) f1, Nat.mul_pos e2 f2, ?_, ?_⟩
    · have m1 : p1 * t * p2 * (q1 * q2) = (p1 * q1) * (p2 * q2) * t := by ac_rfl
      have m2 : (p1 * q1) * (p2 * q2) * t ≤ 9 ^ (szg s.1 (s.1 a) - 1) * 9 ^ (szg s.1 (s.1 b) - 1) * 9 := Nat.mul_le_mul (Nat.mul_le_mul e3 f3) ht.2
      have m3 : 9 ^ (szg s.1 (s.1 a) - 1) * 9 ^ (szg s.1 (s.1 b) - 1) * 9 = 9 ^ (szg s.1 (s.1 a) + szg s.1 (s.1 b) - 1) := by
        rw [← Nat.pow_add, ← Nat.pow_succ]
        congr 1
        omega
      rw [m1]
      omega
    · refine Nat.eq_of_mul_eq_mul_right (hc i hi) ?_
      have l1 : (wX s a b t i / Nat.gcd (wX s a b t i) (wY s a b i)) * s.2.2 j * (q1 * q2) * Nat.gcd (wX s a b t i) (wY s a b i) = (wX s a b t i / Nat.gcd (wX s a b t i) (wY s a b i) * Nat.gcd (wX s a b t i) (wY s a b i)) * s.2.2 j * (q1 * q2) := by ac_rfl
      have l2 : (wY s a b i / Nat.gcd (wX s a b t i) (wY s a b i)) * s.2.1 j * (p1 * t * p2) * Nat.gcd (wX s a b t i) (wY s a b i) = (wY s a b i / Nat.gcd (wX s a b t i) (wY s a b i) * Nat.gcd (wX s a b t i) (wY s a b i)) * s.2.1 j * (p1 * t * p2) := by ac_rfl
      rw [l1, l2, dX, dY]
      have l3 : wX s a b t i * s.2.2 j * (q1 * q2) = t * (s.2.1 i * s.2.2 a * q1) * (s.2.1 b * s.2.2 j * q2) := by unfold wX; ac_rfl
      have l4 : wY s a b i * s.2.1 j * (p1 * t * p2) = t * (s.2.2 i * s.2.1 a * p1) * (s.2.2 b * s.2.1 j * p2) := by unfold wY; ac_rfl
      rw [l3, l4, e4, f4]
  refine ⟨fun k hk => ?_, fun i j hi hj hij => ?_, fun k hk => ?_⟩
  · obtain ⟨k1, k2, k3, k4⟩ := h1 k hk
    rw [gG, gA, gB]
    by_cases e : s.1 k = s.1 a
    · rw [if_pos e, if_pos e, if_pos e]
      refine ⟨gb, Nat.div_pos (Nat.le_of_dvd (hx k hk).1 (Nat.gcd_dvd_left _ _)) (hc k hk), Nat.div_pos (Nat.le_of_dvd (hx k hk).2 (Nat.gcd_dvd_right _ _)) (hc k hk), ?_⟩
      rw [Nat.gcd_div (Nat.gcd_dvd_left _ _) (Nat.gcd_dvd_right _ _), Nat.div_self (hc k hk)]
    · rw [if_neg e, if_neg e, if_neg e]
      exact ⟨k1, k2, k3, k4⟩
  · rw [gG, gG] at hij
    unfold wRl
    rw [gA, gB, gA, gB, gG]
    by_cases ei : s.1 i = s.1 a
    · rw [if_pos ei] at hij
      rw [if_pos ei, if_pos ei, if_pos ei, sz1]
      by_cases ej : s.1 j = s.1 a
      · rw [if_pos ej, if_pos ej]
        obtain ⟨p, q, e1, e2, e3, e4⟩ := h2 i j hi hj (ei.trans ej.symm)
        rw [ei] at e3
        refine ⟨p, q, e1, e2, Nat.le_trans e3 (Nat.pow_le_pow_right (by decide) (by omega)), ?_⟩
        refine cancel2 (hc i hi) (hc j hj) ?_
        have l1 : (wX s a b t i / Nat.gcd (wX s a b t i) (wY s a b i)) * (wY s a b j / Nat.gcd (wX s a b t j) (wY s a b j)) * q * (Nat.gcd (wX s a b t i) (wY s a b i) * Nat.gcd (wX s a b t j) (wY s a b j)) = (wX s a b t i / Nat.gcd (wX s a b t i) (wY s a b i) * Nat.gcd (wX s a b t i) (wY s a b i)) * (wY s a b j / Nat.gcd (wX s a b t j) (wY s a b j) * Nat.gcd (wX s a b t j) (wY s a b j)) * q := by ac_rfl
        have l2 : (wY s a b i / Nat.gcd (wX s a b t i) (wY s a b i)) * (wX s a b t j / Nat.gcd (wX s a b t j) (wY s a b j)) * p * (Nat.gcd (wX s a b t i) (wY s a b i) * Nat.gcd (wX s a b t j) (wY s a b j)) = (wY s a b i / Nat.gcd (wX s a b t i) (wY s a b i) * Nat.gcd (wX s a b t i) (wY s a b i)) * (wX s a b t j / Nat.gcd (wX s a b t j) (wY s a b j) * Nat.gcd (wX s a b t j) (wY s a b j)) * p := by ac_rfl
        rw [l1, l2, dX, dX, dY, dY]
        have l3 : wX s a b t i * wY s a b j * q = (s.2.1 i * s.2.2 j * q) * ((t * s.2.1 b * s.2.2 a) * (s.2.2 b * s.2.1 a)) := by unfold wX wY; ac_rfl
        have l4 : wY s a b i * wX s a b t j * p = (s.2.2 i * s.2.1 j * p) * ((t * s.2.1 b * s.2.2 a) * (s.2.2 b * s.2.1 a)) := by unfold wX wY; ac_rfl
        rw [l3, l4, e4]
      · rw [if_neg ej] at hij
        rw [if_neg ej, if_neg ej]
        exact cross i j hi hj ei hij.symm
    · rw [if_neg ei] at hij
      rw [if_neg ei, if_neg ei, if_neg ei]
      by_cases ej : s.1 j = s.1 a
      · rw [if_pos ej] at hij
        rw [if_pos ej, if_pos ej, hij, sz1]
        obtain ⟨p, q, e1, e2, e3, e4⟩ := cross j i hj hi ej hij
        refine ⟨q, p, e2, e1, by rw [Nat.mul_comm]; exact e3, ?_⟩
        rw [Nat.mul_comm (s.2.1 i), Nat.mul_comm (s.2.2 i), ← e4]
      · rw [if_neg ej] at hij
        rw [if_neg ej, if_neg ej]
        have := h2 i j hi hj hij
        by_cases eb : s.1 i = s.1 b
        · rw [eb, sz1]
          rw [eb] at this
          exact wRl_mono this (by omega)
        · rw [sz2 _ ei eb]
          exact this
  · obtain ⟨k1, k2, k3⟩ := h3 k hk
    rw [gG k]
    by_cases e : s.1 k = s.1 a
    · obtain ⟨r1, r2, r3⟩ := h3 b hb
      rw [if_pos e, gG, gA, gB, if_neg (by rw [r1]; exact fun z => hne z.symm), if_neg (by rw [r1]; exact fun z => hne z.symm), if_neg (by rw [r1]; exact fun z => hne z.symm)]
      exact ⟨r1, r2, r3⟩
    · rw [if_neg e, gG, gA, gB, if_neg (by rw [k1]; exact e), if_neg (by rw [k1]; exact e), if_neg (by rw [k1]; exact e)]
      exact ⟨k1, k2, k3⟩
section WW
variable (ra rb rt : Nat → Nat) (bt : Nat)
def wS : Nat → pv_WS
  | 0 => (fun k => k, fun _ => 1, fun _ => 1)
  | r + 1 => if bt.testBit r = true ∨ (wS r).1 (ra r) = (wS r).1 (rb r) then wS r else wJ (wS r) (ra r) (rb r) (rt r)
def agr (s : pv_WS) (a b t : Nat) : Bool := decide (s.2.1 a * s.2.2 b = t * s.2.1 b * s.2.2 a)
def cls (r : Nat) : Bool := !bt.testBit r && (decide ((wS ra rb rt bt r).1 (ra r) = (wS ra rb rt bt r).1 (rb r)) && !agr (wS ra rb rt bt r) (ra r) (rb r) (rt r))
end WW
theorem wS_inv {ra rb rt : Nat → Nat} {bt n : Nat} (h : ∀ r, r < n → ra r < 6 ∧ rb r < 6 ∧ 1 ≤ rt r ∧ rt r ≤ 9) : ∀ r, r ≤ n → WI (wS ra rb rt bt r)
  | 0, _ => by
    refine ⟨fun k hk => ⟨hk, Nat.le_refl _, Nat.le_refl _, Nat.gcd_one_left 1⟩, fun i j hi hj hij => ?_, fun k hk => ⟨rfl, rfl, rfl⟩⟩
    exact ⟨1, 1, Nat.le_refl _, Nat.le_refl _, Nat.pow_pos (by decide), rfl⟩
  | r + 1, hr => by
    have ih := wS_inv (bt := bt) h r (by omega)
    obtain ⟨z1, z2, z3⟩ := h r (by omega)
    unfold wS
    by_cases e : bt.testBit r = true ∨ (wS ra rb rt bt r).1 (ra r) = (wS ra rb rt bt r).1 (rb r)
    · rw [if_pos e]
      exact ih
    · rw [if_neg e]
      exact ih.join z1 z2 z3 (fun q => e (Or.inr q))
