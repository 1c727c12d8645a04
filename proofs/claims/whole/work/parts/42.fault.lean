theorem u_if {α : Type} (f : Nat → Nat → α) (k j a b : Nat) (v : α) : pv_u f k j v a b = if a = k ∧ b = j then v else f a b := rfl
theorem fst_u (f : Nat → Nat → Int32) (m : Nat → Nat → Int64) (k j a b : Nat) (v : Int32) : ((pv_u f k j v, m) : pv_M).1 a b = if a = k ∧ b = j then v else f a b := rfl
/-- r is the fault of the text, as both tell it -/
def FltIs (t n : Nat) (b : Nat → Nat) (r : Int32) : Prop :=
  (∃ i, i < n ∧ (∀ k, k < i → fit t b k) ∧ ¬ fit t b i ∧ r = nI i) ∨ ((∀ k, k < n → fit t b k) ∧ (n = 0 ∨ n % 4 = 3) ∧ r = (-1)) ∨ ((∀ k, k < n → fit t b k) ∧ ¬ (n = 0 ∨ n % 4 = 3) ∧ r = nI n)
theorem FltIs.one {t n : Nat} {b : Nat → Nat} {r s : Int32} (h : FltIs t n b r) (h' : FltIs t n b s) : r = s := by
  rcases h with ⟨i, hi, h1, h2, rfl⟩ | ⟨h1, h2, rfl⟩ | ⟨h1, h2, rfl⟩ <;> rcases h' with ⟨j, hj, g1, g2, rfl⟩ | ⟨g1, g2, rfl⟩ | ⟨g1, g2, rfl⟩
  · have : i = j := by
      rcases Nat.lt_trichotomy i j with q | q | q
      · exact absurd (g1 i q) h2
      · exact q
      · exact absurd (h1 j q) g2
    rw [this]
  · exact absurd (g1 i hi) h2
  · exact absurd (g1 i hi) h2
  · exact absurd (h1 j hj) g2
  · rfl
  · exact absurd h2 g2
  · exact absurd (h1 j hj) g2
  · exact absurd g2 h2
  · rfl
theorem m1_ne {i : Nat} (h : i < 2 ^ 31) : ¬ nI i = (-1) := by
  intro e
  have h1 := congrArg Int32.toInt e
  rw [nI_toInt h, show ((-1 : Int32)).toInt = -1 by decide] at h1
  omega
theorem FltIs.ok {t n : Nat} {b : Nat → Nat} {r : Int32} (hn : n ≤ 31) (h : FltIs t n b r) : r = (-1) ↔ okT t n b := by
  constructor
  · intro e
    rcases h with ⟨i, hi, h1, h2, h3⟩ | ⟨h1, h2, h3⟩ | ⟨h1, h2, h3⟩
    · exact absurd (h3.symm.trans e) (m1_ne (by omega))
    · exact ⟨h1, h2⟩
    · exact absurd (h3.symm.trans e) (m1_ne (by omega))
  · intro e
    rcases h with ⟨i, hi, h1, h2, h3⟩ | ⟨h1, h2, h3⟩ | ⟨h1, h2, h3⟩
    · exact absurd (e.1 i hi) h2
    · exact h3
    · exact absurd e.2 h2
noncomputable def itm (t n : Nat) (b : Nat → Nat) : Nat := @ite _ (okT t n b) (Classical.propDecidable _) ((n + 1) / 4) 0
theorem itm_ok {t n : Nat} {b : Nat → Nat} (h : okT t n b) : itm t n b = (n + 1) / 4 := @if_pos _ (Classical.propDecidable _) h _ _ _
theorem itm_no {t n : Nat} {b : Nat → Nat} (h : ¬ okT t n b) : itm t n b = 0 := @if_neg _ (Classical.propDecidable _) h _ _ _
theorem x_fault {M : pv_M} {t n : Nat} {b : Nat → Nat} (ht : t < 3) (hX : txX M t n b) (hn : n ≤ tcap t) (hb : ∀ i, i < n → b i < 256) : ∃ r, f_X5_faultPlace (2 * t + 1) M = some r ∧ FltIs t n b r := by
  have hc := tcap_le t
  unfold f_X5_faultPlace
  rw [isT_tx ht, pv_ck_true, pv_jn_eq]
  simp only [pv_nm_eq, hX.2.1]
  rw [show (0 : Int32) = nI 0 from rfl]
  refine for1 n (fun i => ∀ k, k < i → fit t b k) (fun q => ∃ r, q = some r ∧ FltIs t n b r) ?_ ?_ pv_FU 0 (Nat.zero_le _) (by show n - 0 < 5000; omega) (fun k h => absurd h (Nat.not_lt_zero _))
  · intro rec hI
    unfold f_X5_faultPlace_L2
    simp only [pv_nm_eq, hX.2.1]
    rw [if_pos (nI_le (Nat.le_refl n) (by omega)), rem4 (by omega), ite_eq (by omega) (by omega), show (3 : Int32) = nI 3 from rfl, ite_eq (by omega) (by omega)]
    by_cases h0 : n = 0
    · exact ⟨_, by rw [if_pos h0], Or.inr (Or.inl ⟨hI, Or.inl h0, rfl⟩)⟩
    · by_cases h3 : n % 4 = 3
      · exact ⟨_, by rw [if_neg h0, if_pos h3], Or.inr (Or.inl ⟨hI, Or.inr h3, rfl⟩)⟩
      · exact ⟨_, by rw [if_neg h0, if_neg h3], Or.inr (Or.inr ⟨hI, fun q => q.elim h0 h3, rfl⟩)⟩
  · intro rec i hi hI hr
    unfold f_X5_faultPlace_L2
    simp only [pv_nm_eq, hX.2.1]
    rw [if_neg (nI_ge hi (by omega))]
    obtain ⟨h1, h2⟩ := x_fits ht hX hn hb hi
    by_cases h : fit t b i
    · rw [h1 h, pv_cap_some, if_neg (by decide), nI_1]
      exact hr (lt_s hI h)
    · rw [h2 h, pv_cap_some, if_pos rfl]
      exact ⟨_, rfl, Or.inl ⟨i, hi, hI, h, rfl⟩⟩
theorem x_items {M : pv_M} {t n : Nat} {b : Nat → Nat} (ht : t < 3) (hX : txX M t n b) (hn : n ≤ tcap t) (hb : ∀ i, i < n → b i < 256) : f_X5_items (2 * t + 1) M = some (nI (itm t n b)) := by
  have hc := tcap_le t
  obtain ⟨r, h1, h2⟩ := x_fault ht hX hn hb
  unfold f_X5_items
  rw [isT_tx ht, pv_ck_true, h1, pv_cap_some]
  by_cases h : r = (-1)
  · rw [if_pos h, itm_ok ((h2.ok (by omega)).mp h), pv_nm_eq, hX.2.1, nI_1, show (4 : Int32) = nI 4 from rfl, pk_div (by omega) (by decide) (by decide)]
  · rw [if_neg h, itm_no (fun q => h ((h2.ok (by omega)).mpr q))]
    rfl
/-! the model's reader -/
def val (t k x : Nat) : Nat := if t = 0 ∨ k = 2 then x - 48 else if t = 1 ∧ k = 1 then (if x = 43 then 1 else 0) else x - 97
/-- what reading text t writes -/
def FrT (t : Nat) (M M' : pv_M) : Prop := ∀ k j, ¬ ((k = 196 ∧ j = 7) ∨ (k = 203 ∧ j = t) ∨ (k = 204 ∧ 24 * t ≤ j ∧ j < 24 * t + 24)) → M'.1 k j = M.1 k j
theorem FrT.rf {t : Nat} {M : pv_M} : FrT t M M := fun _ _ _ => rfl
theorem FrT.tr {t : Nat} {M M' M'' : pv_M} (h : FrT t M M') (h' : FrT t M' M'') : FrT t M M'' := fun k j q => (h' k j q).trans (h k j q)
theorem FrT.at_ {t : Nat} {M M' : pv_M} (h : FrT t M M') (v : Int32) : FrT t M (pv_u M'.1 196 7 v, M'.2) := fun k j q => by
  show pv_u M'.1 196 7 v k j = _
  rw [uu_other _ _ (by by_cases e : k = 196
                       · exact Or.inr (fun e2 => q (Or.inl ⟨e, e2⟩))
                       · exact Or.inl e)]
  exact h k j q
theorem FrT.many {t : Nat} {M M' : pv_M} (h : FrT t M M') (v : Int32) : FrT t M (pv_u M'.1 203 t v, M'.2) := fun k j q => by
  show pv_u M'.1 203 t v k j = _
  rw [uu_other _ _ (by by_cases e : k = 203
                       · exact Or.inr (fun e2 => q (Or.inr (Or.inl ⟨e, e2⟩)))
                       · exact Or.inl e)]
  exact h k j q
theorem FrT.told {t i : Nat} {M M' : pv_M} (h : FrT t M M') (v : Int32) (h1 : 24 * t ≤ i) (h2 : i < 24 * t + 24) : FrT t M (pv_u M'.1 204 i v, M'.2) := fun k j q => by
  show pv_u M'.1 204 i v k j = _
  rw [uu_other _ _ (by by_cases e : k = 204
                       · exact Or.inr (fun e2 => q (Or.inr (Or.inr ⟨e, by omega, by omega⟩)))
                       · exact Or.inl e)]
  exact h k j q
theorem txM.fr {M M' : pv_M} {t u n : Nat} {b : Nat → Nat} (h : txM M u n b) (hF : FrT t M M') : txM M' u n b :=
  ⟨h.1, by rw [hF 202 u (by omega)]; exact h.2.1, fun i hi => ⟨(h.2.2 i hi).1, by rw [hF 201 _ (by omega)]; exact (h.2.2 i hi).2⟩⟩
theorem m_here {M : pv_M} {t n a : Nat} {b : Nat → Nat} (ht : t < 3) (hM : txM M t n b) (ha : M.1 196 7 = nI a) (ha2 : a < 1000) : f_X9_here (nI t) M = some (if a < n then nI (b a) else (-1)) := by
  have hc := tcap_le t
  have hn := hM.1
  unfold f_X9_here
  simp only [pv_nm_eq, ha]
  rw [ldI_n sa_202 ht, hM.2.1, ite_le (by omega) (by omega)]
  by_cases h : n ≤ a
  · rw [if_pos h, if_neg (by omega)]
  · rw [if_neg h, if_pos (by omega), show (40 : Int32) = nI 40 from rfl, pk_mul, nI_add, ldI_n sa_201 (by omega), (hM.2.2 a (by omega)).2]
theorem in_b {x lo hi : Nat} (hx : x < 1000) (hl : lo < 1000) (hh : hi < 1000) (M : pv_M) {l h : Int64} (e1 : l = (nI lo).toInt64) (e2 : h = (nI hi).toInt64) : f_X9_in (nI x).toInt64 l h M = some (if lo ≤ x ∧ x ≤ hi then 1 else 0) := by
  rw [in_l _ (nI lo) (nI hi) e1 e2]
  simp only [len' (show lo < 2 ^ 31 by omega) (show x < 2 ^ 31 by omega), len' (show x < 2 ^ 31 by omega) (show hi < 2 ^ 31 by omega)]
theorem in_m1 {lo hi : Nat} (hl : lo < 1000) (M : pv_M) {l h : Int64} (e1 : l = (nI lo).toInt64) (e2 : h = (nI hi).toInt64) : f_X9_in ((-1 : Int32)).toInt64 l h M = some 0 := by
  rw [in_l _ (nI lo) (nI hi) e1 e2, if_neg]
  rintro ⟨q, -⟩
  rw [fa_le, nI_toInt (by omega), show ((-1 : Int32)).toInt = -1 by decide] at q
  omega
theorem bitn {c : Prop} {inst : Decidable c} : ((if c then nI 1 else nI 0) = nI 0) = ¬ c := by
  by_cases h : c
  · simp only [if_pos h, eqn (show 1 < 2 ^ 31 by decide) (show 0 < 2 ^ 31 by decide)]
    simp [h]
  · simp [if_neg h, h]
theorem m_tells {M : pv_M} {t n m k : Nat} {b : Nat → Nat} (ht : t < 3) (hM : txM M t n b) (hk : k < 3) (hm : m < 8) (ha : M.1 196 7 = nI (4 * m + k)) (hq : t = 2 → k = 1 → 97 ≤ b (4 * m) ∧ b (4 * m) < 256 ∧ M.1 204 (24 * t + 3 * m) = nI (b (4 * m) - 97)) :
    (4 * m + k < n ∧ fit t b (4 * m + k) → f_X9_tells (nI t) (nI k) (nI (24 * t + 3 * m)) M = some (nI (val t k (b (4 * m + k))))) ∧ (¬ (4 * m + k < n ∧ fit t b (4 * m + k)) → f_X9_tells (nI t) (nI k) (nI (24 * t + 3 * m)) M = some (-1)) := by
  have hc := tcap_le t
  have hn := hM.1
  have hmod : (4 * m + k) % 4 = k := by omega
  unfold f_X9_tells
  rw [m_here ht hM ha (by omega), pv_cap_some]
  by_cases hlt : 4 * m + k < n
  · have hb := (hM.2.2 _ hlt).1
    rw [if_pos hlt, in_b (lo := 49) (hi := 57) (by omega) (by decide) (by decide) M (by decide) (by decide), pv_cap_some, pv_jn_eq]
    unfold f_X9_tells_J31 fit val
    rw [hmod]
    generalize hx : b (4 * m + k) = x at hb ⊢
    simp only [hlt, true_and]
    rw [in_b (lo := 97) (hi := 99) (by omega) (by decide) (by decide) M (by decide) (by decide), in_b (lo := 97) (hi := 102) (by omega) (by decide) (by decide) M (by decide) (by decide)]
    simp only [pv_cap_some, pv_jn_eq, lit_eq, eqn (show t < 2 ^ 31 by omega) (show 0 < 2 ^ 31 by decide), eqn (show t < 2 ^ 31 by omega) (show 1 < 2 ^ 31 by decide), eqn (show k < 2 ^ 31 by omega) (show 0 < 2 ^ 31 by decide), eqn (show k < 2 ^ 31 by omega) (show 2 < 2 ^ 31 by decide), eqn (show x < 2 ^ 31 by omega) (show 43 < 2 ^ 31 by decide), eqn (show x < 2 ^ 31 by omega) (show 45 < 2 ^ 31 by decide)]
    have k3 : ¬ k = 3 := by omega
    simp only [bitn, ite_not]
    by_cases hf : t = 0 ∨ k = 2
    · have e1 : ∀ y : Option Int32, (if t = 0 then some (nI x - nI 48) else if k = 2 then some (nI x - nI 48) else y) = some (nI x - nI 48) := fun y => by
        rcases hf with h | h
        · rw [if_pos h]
        · by_cases h0 : t = 0
          · rw [if_pos h0]
          · rw [if_neg h0, if_pos h]
      have e2 : ∀ y : Option Int32, (if t = 0 then some (-nI 1) else if k = 2 then some (-nI 1) else y) = some (-nI 1) := fun y => by
        rcases hf with h | h
        · rw [if_pos h]
        · by_cases h0 : t = 0
          · rw [if_pos h0]
          · rw [if_neg h0, if_pos h]
      have hf' : k = 2 ∨ t = 0 := hf.symm
      simp only [k3, hf, hf', if_true, if_false, e1, e2]
      by_cases hp : 49 ≤ x ∧ x ≤ 57
      · simp only [hp, and_self, if_true, not_true, false_implies, and_true]
        intro _
        rw [pk_sub (by omega)]
      · simp only [hp, if_false, false_implies, true_and]
        intro _
        trivial
    · have h0 : ¬ t = 0 := fun q => hf (Or.inl q)
      have h2 : ¬ k = 2 := fun q => hf (Or.inr q)
      simp only [k3, h0, h2, if_false, or_self, ite_self]
      by_cases h1 : t = 1
      · simp only [h1, if_true, true_and]
        by_cases hk0 : k = 0
        · simp only [hk0, if_true, show ¬ (0 : Nat) = 1 by decide, if_false]
          by_cases hp : 97 ≤ x ∧ x ≤ 99
          · simp only [hp, and_self, if_true, not_true, false_implies, and_true, ite_self]
            intro _
            rw [pk_sub (by omega)]
          · simp only [hp, if_false, false_implies, true_and, ite_self]
            intro _
            trivial
        · have hk1 : k = 1 := by omega
          simp only [hk0, hk1, if_true, if_false, show ¬ (1 : Nat) = 0 by decide]
          by_cases p1 : x = 43
          · simp [p1]
          · by_cases p2 : x = 45
            · simp [p1, p2]
            · simp [p1, p2]
      · have t2 : t = 2 := by omega
        simp only [h1, if_false, false_and]
        by_cases hp : 97 ≤ x ∧ x ≤ 102
        · by_cases hk0 : k = 0
          · simp only [hk0, hp, and_self, if_true, true_or, not_true, false_implies, and_true, ite_self]
            intro _
            rw [pk_sub (by omega)]
          · have hk1 : k = 1 := by omega
            obtain ⟨q1, q2, q3⟩ := hq t2 hk1
            rw [ldI_n sa_204 (show 24 * t + 3 * m < 72 by omega), q3, pk_sub (show 97 ≤ x by omega)]
            simp only [hk0, hp, if_true, if_false, false_or, true_and, ite_self, eqn (show x - 97 < 2 ^ 31 by omega) (show b (4 * m) - 97 < 2 ^ 31 by omega)]
            rw [show 4 * m + k - 1 = 4 * m by omega]
            by_cases p3 : x = b (4 * m)
            · rw [if_pos (by rw [p3])]
              simp [p3]
            · rw [if_neg (by omega)]
              simp [p3]
        · have hp' : ¬ (97 ≤ x ∧ x ≤ 102 ∧ (k = 0 ∨ ¬ x = b (4 * m + k - 1))) := fun q => hp ⟨q.1, q.2.1⟩
          simp only [hp, hp', if_false, false_implies, true_and, ne_eq, not_false_eq_true, ite_self]
          intro _
          trivial
  · rw [if_neg hlt, in_m1 (lo := 49) (hi := 57) (by decide) M (by decide) (by decide), pv_cap_some, pv_jn_eq]
    refine ⟨fun q => absurd q.1 hlt, fun _ => ?_⟩
    rw [if_pos rfl]
    unfold f_X9_tells_J31
    rw [in_m1 (lo := 97) (hi := 99) (by decide) M (by decide) (by decide), in_m1 (lo := 97) (hi := 102) (by decide) M (by decide) (by decide), pv_cap_some, pv_cap_some, if_pos rfl, if_pos rfl]
    rw [if_neg (show ¬ (-1 : Int32) = 43 by decide), if_neg (show ¬ (-1 : Int32) = 45 by decide)]
    simp only [ite_self]
