def tcap (t : Nat) : Nat := if t = 0 then 15 else 31
/-- the model's text t: n bytes b -/
def txM (M : pv_M) (t n : Nat) (b : Nat → Nat) : Prop := n ≤ tcap t ∧ M.1 202 t = nI n ∧ ∀ i, i < n → b i < 256 ∧ M.1 201 (40 * t + i) = nI (b i)
/-- the class's text t -/
def txX (M : pv_M) (t n : Nat) (b : Nat → Nat) : Prop := M.1 (2 * t + 1) 0 = nI t ∧ M.1 (2 * t + 1) 2 = nI n ∧ ∀ i, i < n → M.1 (2 * t + 2) i = nI (b i)
def fit (t : Nat) (b : Nat → Nat) (i : Nat) : Prop :=
  if i % 4 = 3 then b i = 59 else if i % 4 = 2 ∨ t = 0 then 49 ≤ b i ∧ b i ≤ 57 else if t = 1 then (if i % 4 = 0 then 97 ≤ b i ∧ b i ≤ 99 else b i = 43 ∨ b i = 45) else 97 ≤ b i ∧ b i ≤ 102 ∧ (i % 4 = 0 ∨ b i ≠ b (i - 1))
noncomputable def unfit (t : Nat) (b : Nat → Nat) (i : Nat) : Bool := @decide (¬ fit t b i) (Classical.propDecidable _)
noncomputable def fstF (t n : Nat) (b : Nat → Nat) : Nat := fa_first (unfit t b) n
def okT (t n : Nat) (b : Nat → Nat) : Prop := (∀ i, i < n → fit t b i) ∧ (n = 0 ∨ n % 4 = 3)
theorem tcap_le (t : Nat) : tcap t ≤ 31 := by unfold tcap; split <;> decide
theorem sa_tx {t : Nat} (h : t < 3) : pv_SH (2 * t + 2) = (0, tcap t) := by
  rcases (show t = 0 ∨ t = 1 ∨ t = 2 by omega) with rfl | rfl | rfl <;> decide +kernel
theorem isT_tx {t : Nat} (h : t < 3) : pv_isT (2 * t + 1) = true := by
  rcases (show t = 0 ∨ t = 1 ∨ t = 2 by omega) with rfl | rfl | rfl <;> rfl
theorem nI_lit0 : (0 : Int32) = nI 0 := rfl
theorem lit_eq (n : Nat) : (OfNat.ofNat n : Int32) = nI n := fa_lit n
theorem rem4 {i : Nat} (h : i < 2 ^ 31) : nI i - nI i / 4 * 4 = nI (i % 4) := by
  rw [show (4 : Int32) = nI 4 from rfl]
  exact pk_rem h (by decide) (by decide)
theorem eqn {a b : Nat} (ha : a < 2 ^ 31) (hb : b < 2 ^ 31) : (nI a = nI b) = (a = b) := propext (nI_eq ha hb)
theorem len' {a b : Nat} (ha : a < 2 ^ 31) (hb : b < 2 ^ 31) : (nI a ≤ nI b) = (a ≤ b) := propext (nI_leI ha hb)
theorem ltn {a b : Nat} (ha : a < 2 ^ 31) (hb : b < 2 ^ 31) : (nI a < nI b) = (a < b) := propext (nI_ltI ha hb)
theorem ite_le {α : Type} {a b : Nat} (ha : a < 2 ^ 31) (hb : b < 2 ^ 31) (x y : α) : (if nI a ≤ nI b then x else y) = if a ≤ b then x else y := by simp only [len' ha hb]
theorem ite_lt {α : Type} {a b : Nat} (ha : a < 2 ^ 31) (hb : b < 2 ^ 31) (x y : α) : (if nI a < nI b then x else y) = if a < b then x else y := by simp only [ltn ha hb]
theorem ite_eq {α : Type} {a b : Nat} (ha : a < 2 ^ 31) (hb : b < 2 ^ 31) (x y : α) : (if nI a = nI b then x else y) = if a = b then x else y := by simp only [eqn ha hb]
theorem ite_eq0 {α : Type} {a : Nat} (ha : a < 2 ^ 31) (x y : α) : (if nI a = 0 then x else y) = if a = 0 then x else y := ite_eq ha (by decide) x y
theorem x_fits {M : pv_M} {t n : Nat} {b : Nat → Nat} (ht : t < 3) (hX : txX M t n b) (hn : n ≤ tcap t) (hb : ∀ i, i < n → b i < 256) {i : Nat} (hi : i < n) : (fit t b i → f_X5_fits (2 * t + 1) (nI i) M = some 1) ∧ (¬ fit t b i → f_X5_fits (2 * t + 1) (nI i) M = some 0) := by
  have hc := tcap_le t
  have hbi := hb i hi
  have hk : M.1 (2 * t + 1) 0 = nI t := hX.1
  have e1 : ∀ f : Int32 → Option Int32, pv_ldI pv_T (2 * t + 1 + 1) (nI i) M f = f (nI (b i)) := fun f => by
    rw [show 2 * t + 1 + 1 = 2 * t + 2 by omega, ldI_n (sa_tx ht) (by omega), hX.2.2 i hi]
  have e2 : i % 4 ≠ 0 → ∀ f : Int32 → Option Int32, pv_ldI pv_T (2 * t + 1 + 1) (nI i - 1) M f = f (nI (b (i - 1))) := fun h f => by
    rw [show 2 * t + 1 + 1 = 2 * t + 2 by omega, show (1 : Int32) = nI 1 from rfl, pk_sub (by omega), ldI_n (sa_tx ht) (by omega), hX.2.2 (i - 1) (by omega)]
  have hb1 : i % 4 ≠ 0 → b (i - 1) < 256 := fun h => hb (i - 1) (by omega)
  unfold f_X5_fits fit
  rw [isT_tx ht, pv_ck_true, e1]
  simp only [pv_nm_eq, pv_jn_eq, hk]
  rw [rem4 (by omega)]
  have m4 : i % 4 < 4 := Nat.mod_lt _ (by decide)
  simp only [lit_eq]
  simp only [eqn (show i % 4 < 2 ^ 31 by omega) (show 3 < 2 ^ 31 by decide), eqn (show i % 4 < 2 ^ 31 by omega) (show 2 < 2 ^ 31 by decide), eqn (show i % 4 < 2 ^ 31 by omega) (show 0 < 2 ^ 31 by decide), eqn (show b i < 2 ^ 31 by omega) (show 59 < 2 ^ 31 by decide), eqn (show b i < 2 ^ 31 by omega) (show 43 < 2 ^ 31 by decide), eqn (show b i < 2 ^ 31 by omega) (show 45 < 2 ^ 31 by decide), eqn (show t < 2 ^ 31 by omega) (show 0 < 2 ^ 31 by decide), eqn (show t < 2 ^ 31 by omega) (show 1 < 2 ^ 31 by decide), ltn (show b i < 2 ^ 31 by omega) (show 49 < 2 ^ 31 by decide), ltn (show 57 < 2 ^ 31 by decide) (show b i < 2 ^ 31 by omega), ltn (show b i < 2 ^ 31 by omega) (show 97 < 2 ^ 31 by decide), ltn (show 99 < 2 ^ 31 by decide) (show b i < 2 ^ 31 by omega), ltn (show 102 < 2 ^ 31 by decide) (show b i < 2 ^ 31 by omega)]
  by_cases h3 : i % 4 = 3
  · simp only [h3, if_true, if_false]
    by_cases h : b i = 59 <;> simp [h]
  · by_cases h2 : i % 4 = 2
    · simp only [h2, if_true, if_false, true_or, show ¬ (2 : Nat) = 3 by decide]
      by_cases p1 : b i < 49
      · simp [p1, show ¬ 49 ≤ b i by omega]
      · by_cases p2 : 57 < b i
        · simp [p1, p2, show ¬ b i ≤ 57 by omega]
        · simp [p1, p2, show 49 ≤ b i by omega, show b i ≤ 57 by omega]
    · by_cases t0 : t = 0
      · simp only [h3, h2, t0, if_true, if_false, or_true]
        by_cases p1 : b i < 49
        · simp [p1, show ¬ 49 ≤ b i by omega]
        · by_cases p2 : 57 < b i
          · simp [p1, p2, show ¬ b i ≤ 57 by omega]
          · simp [p1, p2, show 49 ≤ b i by omega, show b i ≤ 57 by omega]
      · by_cases t1 : t = 1
        · simp only [h3, h2, t1, if_true, if_false, or_self, show ¬ (1 : Nat) = 0 by decide]
          by_cases h0 : i % 4 = 0
          · simp only [h0, if_true]
            by_cases p1 : b i < 97
            · simp [p1, show ¬ 97 ≤ b i by omega]
            · by_cases p2 : 99 < b i
              · simp [p1, p2, show ¬ b i ≤ 99 by omega]
              · simp [p1, p2, show 97 ≤ b i by omega, show b i ≤ 99 by omega]
          · simp only [h0, if_false]
            by_cases p1 : b i = 43
            · simp [p1]
            · by_cases p2 : b i = 45 <;> simp [p1, p2]
        · simp only [h3, h2, t0, t1, if_false, or_self]
          by_cases p1 : b i < 97
          · simp [p1, show ¬ 97 ≤ b i by omega]
          · by_cases p2 : 102 < b i
            · simp [p1, p2, show ¬ b i ≤ 102 by omega]
            · by_cases h0 : i % 4 = 0
              · simp [p1, p2, h0, show 97 ≤ b i by omega, show b i ≤ 102 by omega]
              · have hq := hb1 h0
                rw [show nI 1 = (1 : Int32) from rfl, e2 h0]
                simp only [eqn (show b i < 2 ^ 31 by omega) (show b (i - 1) < 2 ^ 31 by omega)]
                by_cases p3 : b i = b (i - 1) <;> simp [p1, p2, h0, p3, show 97 ≤ b i by omega, show b i ≤ 102 by omega]
