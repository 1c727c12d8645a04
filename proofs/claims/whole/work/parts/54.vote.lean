/-- the place of the greatest, where o stood before -/
def bst (g : Nat → Int) (o : Nat) : Nat → Nat
  | 0 => o
  | i + 1 => if g (bst g o i) < g i then i else bst g o i
theorem bst_lt (g : Nat → Int) {o P : Nat} (ho : o < P) : ∀ i, i ≤ P → bst g o i < P
  | 0, _ => ho
  | i + 1, h => by
    unfold bst
    split
    · omega
    · exact bst_lt g ho i (by omega)
theorem bst_or (g : Nat → Int) (o : Nat) : ∀ i, bst g o i = o ∨ bst g o i < i
  | 0 => Or.inl rfl
  | i + 1 => by
    unfold bst
    split
    · right; omega
    · rcases bst_or g o i with h | h
      · exact Or.inl h
      · right; omega
theorem bst_cong {g g' : Nat → Int} {o P : Nat} (ho : o < P) (h : ∀ i, i < P → g i = g' i) : ∀ i, i ≤ P → bst g o i = bst g' o i
  | 0, _ => rfl
  | i + 1, hi => by
    have e := bst_cong ho h i (by omega)
    have hb := bst_lt g ho i (by omega)
    unfold bst
    rw [← e, h i (by omega), h _ hb]
def oldI (o : Option Nat) : Int32 := match o with
  | none => -1
  | some k => nI k
def okO (P : Nat) (o : Option Nat) : Prop := ∀ k, o = some k → k < P
abbrev sml (z : Int) : Prop := -1000000 ≤ z ∧ z ≤ 1000000
theorem x_greatest {M : pv_M} {r w s n : Nat} {g : Nat → Int} {o : Option Nat} (hr : pv_SH r = (0, w)) (hw : s + n ≤ w) (hn : 0 < n) (hc : ∀ i, i < n → M.1 r (s + i) = iI (g i)) (hb : ∀ i, i < n → sml (g i)) (ho : okO n o) : f_X8_greatest r (nI s) (nI n) (oldI o) M = some (nI (bst g (o.getD 0) n)) := by
  have hw2 := (pv_SH_bd hr (by decide)).2
  have hog : o.getD 0 < n := by
    cases o with
    | none => exact hn
    | some k => exact ho k rfl
  unfold f_X8_greatest
  refine for2b n (fun i (x : Int32) => x = nI (bst g (o.getD 0) i) ∨ (o = none ∧ i = 0 ∧ x = -1)) (fun q => q = some (nI (bst g (o.getD 0) n))) ?_ ?_ pv_FU 0 _ (Nat.zero_le _) (by show n - 0 < 5000; omega) ?_
  · rintro rec x (rfl | ⟨_, h0, _⟩)
    · unfold f_X8_greatest_L6
      rw [if_pos (nI_le (Nat.le_refl _) (by omega))]
    · omega
  · intro rec i x hi hx hrec
    unfold f_X8_greatest_L6
    rw [if_neg (nI_ge hi (by omega)), nI_1]
    rcases hx with rfl | ⟨h1, h2, h3⟩
    · have hb1 := bst_lt g hog i (by omega)
      rw [if_neg (m1_ne (by omega)), nI_add, nI_add, ldI_n hr (by omega), hc i hi, ldI_n hr (by omega), hc _ hb1, iIf_le (by have := hb i hi; omega) (by have := hb i hi; omega) (by have := hb _ hb1; omega) (by have := hb _ hb1; omega)]
      by_cases e : g (bst g (o.getD 0) i) < g i
      · rw [if_neg (by omega)]
        exact hrec _ (Or.inl (by conv => rhs; unfold bst
                                 rw [if_pos e]))
      · rw [if_pos (by omega)]
        exact hrec _ (Or.inl (by conv => rhs; unfold bst
                                 rw [if_neg e]))
    · subst h1 h2 h3
      rw [if_pos rfl]
      refine hrec _ (Or.inl ?_)
      show nI 0 = nI (if g 0 < g 0 then 0 else 0)
      rw [ite_self]
  · cases o with
    | none => exact Or.inr ⟨rfl, rfl, rfl⟩
    | some k => exact Or.inl rfl
section VOTE
variable (P V : Nat) (T : Nat → Nat → Nat → Nat) (U : Nat → Nat) (H : Nat → Int)
def gn (y p v : Nat) : Int := H v * (T y p (U v) : Nat)
def cho (y v : Nat) (o : Option Nat) : Nat := bst (fun p => gn T U H y p v) (o.getD 0) P
def sumI (f : Nat → Int) : Nat → Int
  | 0 => 0
  | i + 1 => sumI f i + f i
def apv (y v p : Nat) (o : Option Nat) : Bool := match o with
  | none => decide (sumI (fun q => gn T U H y q v) P ≤ gn T U H y p v * (P : Int))
  | some k => decide (gn T U H y k v ≤ gn T U H y p v)
def vts (l y u : Nat) (o : Option Nat) (p v : Nat) : Bool := if l = 2 then apv P T U H y v p o else decide ((l = 0 ∨ U v = u) ∧ cho P T U H y v o = p)
def tly (l y u : Nat) (o : Option Nat) (p : Nat) : Nat := fa_cnt (vts P T U H l y u o p) V
def win (l u : Nat) : Nat → Nat
  | 0 => bst (fun p => (tly P V T U H l 0 u none p : Nat)) 0 P
  | y + 1 => bst (fun p => (tly P V T U H l (y + 1) u (some (win l u y)) p : Nat)) (win l u y) P
def olds (l u y : Nat) : Option Nat := if y = 0 then none else some (win P V T U H l u (y - 1))
end VOTE
theorem win_eq (P V : Nat) (T : Nat → Nat → Nat → Nat) (U : Nat → Nat) (H : Nat → Int) (l u y : Nat) : win P V T U H l u y = bst (fun p => (tly P V T U H l y u (olds P V T U H l u y) p : Nat)) ((olds P V T U H l u y).getD 0) P := by
  cases y with
  | zero => rfl
  | succ y => rfl
theorem win_lt {P V : Nat} {T : Nat → Nat → Nat → Nat} {U : Nat → Nat} {H : Nat → Int} {l u : Nat} (hP : 0 < P) : ∀ y, win P V T U H l u y < P
  | 0 => bst_lt _ hP P (Nat.le_refl _)
  | y + 1 => bst_lt _ (win_lt hP y) P (Nat.le_refl _)
theorem olds_ok {P V : Nat} {T : Nat → Nat → Nat → Nat} {U : Nat → Nat} {H : Nat → Int} {l u y : Nat} (hP : 0 < P) : okO P (olds P V T U H l u y) := by
  intro k e
  unfold olds at e
  by_cases h : y = 0
  · rw [if_pos h] at e
    cases e
  · rw [if_neg h] at e
    cases e
    exact win_lt hP _
theorem win_u {P V : Nat} {T : Nat → Nat → Nat → Nat} {U : Nat → Nat} {H : Nat → Int} {l : Nat} (u : Nat) (hl : l = 0 ∨ l = 2) : ∀ y, win P V T U H l u y = win P V T U H l 0 y := by
  have ht : ∀ y o p, tly P V T U H l y u o p = tly P V T U H l y 0 o p := fun y o p => by
    unfold tly
    congr 1
    funext v
    unfold vts
    rcases hl with rfl | rfl
    · rw [if_neg (by decide), if_neg (by decide)]
      simp only [true_or, true_and]
    · rw [if_pos rfl, if_pos rfl]
  intro y
  induction y with
  | zero =>
    unfold win
    simp only [ht]
  | succ y ih =>
    unfold win
    simp only [ht, ih]
theorem tly_u {P V : Nat} {T : Nat → Nat → Nat → Nat} {U : Nat → Nat} {H : Nat → Int} {l : Nat} (u : Nat) (hl : l = 0 ∨ l = 2) (y : Nat) (o : Option Nat) (p : Nat) : tly P V T U H l y u o p = tly P V T U H l y 0 o p := by
  unfold tly
  congr 1
  funext v
  unfold vts
  rcases hl with rfl | rfl
  · rw [if_neg (by decide), if_neg (by decide)]
    simp only [true_or, true_and]
  · rw [if_pos rfl, if_pos rfl]
theorem olds_u {P V : Nat} {T : Nat → Nat → Nat → Nat} {U : Nat → Nat} {H : Nat → Int} {l : Nat} (u : Nat) (hl : l = 0 ∨ l = 2) (y : Nat) : olds P V T U H l u y = olds P V T U H l 0 y := by
  unfold olds
  rw [win_u u hl]
theorem gn_sml {P V : Nat} {T : Nat → Nat → Nat → Nat} {U : Nat → Nat} {H : Nat → Int} (w : WF P V T U H) {y p v : Nat} (hy : y < 10) (hp : p < P) (hv : v < V) : -81 ≤ gn T U H y p v ∧ gn T U H y p v ≤ 81 := by
  obtain ⟨w1, w2, w3, w4⟩ := w
  obtain ⟨u1, u2, u3⟩ := w4 v hv
  obtain ⟨t1, t2⟩ := w3 y p (U v) hy hp u1
  unfold gn
  generalize T y p (U v) = t at t1 t2
  generalize H v = h at u2 u3
  have ht : ((t : Nat) : Int) ≤ 9 := by omega
  have ht0 : (0 : Int) ≤ (t : Nat) := by omega
  constructor
  · have : (-9) * (t : Int) ≤ h * t := Int.mul_le_mul_of_nonneg_right u2 ht0
    omega
  · have : h * (t : Int) ≤ 9 * t := Int.mul_le_mul_of_nonneg_right u3 ht0
    omega
theorem sumI_sml {f : Nat → Int} {n : Nat} (h : ∀ i, i < n → -81 ≤ f i ∧ f i ≤ 81) : ∀ i, i ≤ n → -(81 * (i : Int)) ≤ sumI f i ∧ sumI f i ≤ 81 * i
  | 0, _ => by show -(81 * ((0 : Nat) : Int)) ≤ 0 ∧ (0 : Int) ≤ 81 * (0 : Nat); omega
  | i + 1, hi => by
    have h1 := sumI_sml h i (by omega)
    have h2 := h i (by omega)
    unfold sumI
    omega
/-! the model's side -/
theorem m_gain {M : pv_M} {P V : Nat} {T : Nat → Nat → Nat → Nat} {U : Nat → Nat} {H : Nat → Int} (w : WF P V T U H) (h : MR M P V T U H) {y p v : Nat} (hy : y < 10) (hp : p < P) (hv : v < V) : f_X9_gain (nI y) (nI p) (nI v) M = some (iI (gn T U H y p v)) := by
  obtain ⟨z1, z2, z3, z4⟩ := h M SM.rf
  obtain ⟨w1, w2, w3, w4⟩ := w
  unfold f_X9_gain
  rw [(z4 v hv).2, pv_cap_some, (z4 v hv).1, pv_cap_some, z3 y p _ hy hp (w4 v hv).1, pv_cap_some, ← iI_n, iI_mul]
  rfl
theorem oldI_m1 {o : Option Nat} {P : Nat} (ho : okO P o) (hP : P ≤ 4) : (oldI o = -1) = (o = none) := by
  cases o with
  | none => exact eq_true rfl |>.trans (eq_true rfl).symm
  | some k =>
    have := ho k rfl
    exact (eq_false (m1_ne (i := k) (by omega))).trans (eq_false (fun q => by cases q)).symm
/-- a step of the model's search for the greatest -/
theorem m_best {ρ : Type} {x : Int32} {g : Nat → Int} {o : Option Nat} {i : Nat} {n : Nat} (hn : n ≤ 4) (hi : i < n) (hog : o.getD 0 < n) (ho : okO n o) (hb : ∀ i, i < n → sml (g i)) (A B : ρ) (hx : x = iI (g i) - iI (g (bst g (o.getD 0) i))) : (if 0 < x then A else (if x = 0 then (if nI (bst g (o.getD 0) i) = oldI o then B else (if nI (bst g (o.getD 0) i) ≤ nI i then B else A)) else B)) = if bst g (o.getD 0) (i + 1) = i ∧ g (bst g (o.getD 0) i) < g i then A else B := by
  have hb1 := bst_lt g hog i (by omega)
  have s1 := hb i hi
  have s2 := hb _ hb1
  rw [hx, iI_sub, show (0 : Int32) = iI 0 from rfl, iIf_lt (by omega) (by omega) (by omega) (by omega), iIf_eq (by omega) (by omega) (by omega) (by omega)]
  have e1 : bst g (o.getD 0) (i + 1) = if g (bst g (o.getD 0) i) < g i then i else bst g (o.getD 0) i := rfl
  by_cases e : g (bst g (o.getD 0) i) < g i
  · rw [if_pos (by omega), if_pos ⟨by rw [e1, if_pos e], e⟩]
  · rw [if_neg (by omega), if_neg (show ¬ (_ ∧ g (bst g (o.getD 0) i) < g i) from fun q => e q.2)]
    by_cases e0 : g i - g (bst g (o.getD 0) i) = 0
    · rw [if_pos e0]
      rcases bst_or g (o.getD 0) i with q | q
      · cases o with
        | none =>
          have : bst g ((none : Option Nat).getD 0) i = 0 := q
          rw [this, if_neg (show ¬ nI 0 = oldI none by decide), if_pos (nI_le (Nat.zero_le _) (by omega))]
        | some k =>
          have : bst g ((some k).getD 0) i = k := q
          rw [this, if_pos (show nI k = oldI (some k) from rfl)]
      · rw [if_pos (nI_le (show bst g (o.getD 0) i ≤ i by omega) (by omega)), ite_self]
    · rw [if_neg e0]
theorem m_choice {M : pv_M} {P V : Nat} {T : Nat → Nat → Nat → Nat} {U : Nat → Nat} {H : Nat → Int} (w : WF P V T U H) (h : MR M P V T U H) {y v : Nat} (hy : y < 10) (hv : v < V) (hP : 0 < P) {o : Option Nat} (ho : okO P o) : f_X9_choice (nI y) (nI v) (oldI o) M = some (nI (cho P T U H y v o)) := by
  obtain ⟨z1, z2, z3, z4⟩ := h M SM.rf
  have hw := w.1
  have hog : o.getD 0 < P := by
    cases o with
    | none => exact hP
    | some k => exact ho k rfl
  have key : pv_lp2 (f_X9_choice_L15 M (nI y) (nI v) (oldI o)) pv_FU (nI (o.getD 0)) (nI 0) = some (nI (cho P T U H y v o)) := by
    refine for2b P (fun i (x : Int32) => x = nI (bst (fun p => gn T U H y p v) (o.getD 0) i)) (fun q => q = some (nI (cho P T U H y v o))) ?_ ?_ pv_FU 0 _ (Nat.zero_le _) (by show P - 0 < 5000; omega) rfl
    · rintro rec x rfl
      unfold f_X9_choice_L15
      rw [show (0 : Int32) = nI 0 from rfl, ld_203 (by decide), z1, if_pos (nI_le (Nat.le_refl _) (by omega))]
      rfl
    · rintro rec i x hi rfl hrec
      have hb1 := bst_lt (fun p => gn T U H y p v) hog i (by omega)
      unfold f_X9_choice_L15
      rw [show pv_ldI pv_T 203 0 M = fun f => pv_ldI pv_T 203 (nI 0) M f from rfl]
      dsimp only
      rw [ld_203 (by decide), z1, if_neg (nI_ge hi (by omega)), m_gain w h hy hi hv, pv_cap_some, m_gain w h hy hb1 hv, pv_cap_some, pv_nm_eq, nI_1, m_best (g := fun p => gn T U H y p v) (n := P) hw hi hog ho (fun j hj => by have := gn_sml w hy hj hv; omega) _ _ rfl]
      by_cases e : gn T U H y (bst (fun p => gn T U H y p v) (o.getD 0) i) v < gn T U H y i v
      · have e1 : bst (fun p => gn T U H y p v) (o.getD 0) (i + 1) = i := if_pos e
        rw [if_pos ⟨e1, e⟩]
        exact hrec _ (by rw [e1])
      · have e1 : bst (fun p => gn T U H y p v) (o.getD 0) (i + 1) = bst (fun p => gn T U H y p v) (o.getD 0) i := if_neg e
        rw [if_neg (fun q => e q.2)]
        exact hrec _ (by rw [e1])
  unfold f_X9_choice
  rw [pv_jn_eq]
  cases o with
  | none =>
    rw [if_pos (show oldI none = -1 from rfl)]
    exact key
  | some k =>
    have hk := ho k rfl
    rw [if_neg (show ¬ oldI (some k) = -1 from m1_ne (by omega))]
    exact key
theorem m_mostAt {M : pv_M} {P r : Nat} {t : Nat → Nat} (h0 : M.1 203 0 = nI P) (hP4 : P ≤ 4) (hP : 0 < P) (hr : r + 4 ≤ 120) (hc : ∀ p, p < P → M.1 209 (r + p) = nI (t p) ∧ t p ≤ 8) {o : Option Nat} (ho : okO P o) : f_X9_mostAt (nI r) (oldI o) M = some (nI (bst (fun p => (t p : Nat)) (o.getD 0) P)) := by
  have hog : o.getD 0 < P := by
    cases o with
    | none => exact hP
    | some k => exact ho k rfl
  have key : pv_lp2 (f_X9_mostAt_L14 M (nI r) (oldI o)) pv_FU (nI (o.getD 0)) (nI 0) = some (nI (bst (fun p => (t p : Nat)) (o.getD 0) P)) := by
    refine for2b P (fun i (x : Int32) => x = nI (bst (fun p => (t p : Nat)) (o.getD 0) i)) (fun q => q = some (nI (bst (fun p => (t p : Nat)) (o.getD 0) P))) ?_ ?_ pv_FU 0 _ (Nat.zero_le _) (by show P - 0 < 5000; omega) rfl
    · rintro rec x rfl
      unfold f_X9_mostAt_L14
      rw [show (0 : Int32) = nI 0 from rfl, ld_203 (by decide), h0, if_pos (nI_le (Nat.le_refl _) (by omega))]
    · rintro rec i x hi rfl hrec
      have hb1 := bst_lt (fun p => ((t p : Nat) : Int)) hog i (by omega)
      unfold f_X9_mostAt_L14
      rw [show pv_ldI pv_T 203 0 M = fun f => pv_ldI pv_T 203 (nI 0) M f from rfl]
      dsimp only
      rw [ld_203 (by decide), h0, if_neg (nI_ge hi (by omega)), nI_add, ld_209 (by omega), (hc i hi).1, nI_add, ld_209 (by omega), (hc _ hb1).1, pv_nm_eq, nI_1, m_best (g := fun p => ((t p : Nat) : Int)) (n := P) hP4 hi hog ho (fun j hj => by have := (hc j hj).2; omega) _ _ (by rw [iI_n, iI_n])]
      by_cases e : ((t (bst (fun p => ((t p : Nat) : Int)) (o.getD 0) i) : Nat) : Int) < (t i : Nat)
      · have e1 : bst (fun p => ((t p : Nat) : Int)) (o.getD 0) (i + 1) = i := if_pos e
        rw [if_pos ⟨e1, e⟩]
        exact hrec _ (by rw [e1])
      · have e1 : bst (fun p => ((t p : Nat) : Int)) (o.getD 0) (i + 1) = bst (fun p => ((t p : Nat) : Int)) (o.getD 0) i := if_neg e
        rw [if_neg (fun q => e q.2)]
        exact hrec _ (by rw [e1])
  unfold f_X9_mostAt
  rw [pv_jn_eq]
  cases o with
  | none =>
    rw [if_pos (show oldI none = -1 from rfl)]
    exact key
  | some k =>
    have hk := ho k rfl
    rw [if_neg (show ¬ oldI (some k) = -1 from m1_ne (by omega))]
    exact key
theorem m_approves {M : pv_M} {P V : Nat} {T : Nat → Nat → Nat → Nat} {U : Nat → Nat} {H : Nat → Int} (w : WF P V T U H) (h : MR M P V T U H) {y v p : Nat} (hy : y < 10) (hv : v < V) (hp : p < P) {o : Option Nat} (ho : okO P o) : f_X9_approves (nI y) (nI v) (nI p) (oldI o) M = some (if apv P T U H y v p o = true then 1 else 0) := by
  obtain ⟨z1, z2, z3, z4⟩ := h M SM.rf
  have hw := w.1
  have hg := gn_sml w hy hp hv
  unfold f_X9_approves
  cases o with
  | none =>
    have hs := sumI_sml (f := fun q => gn T U H y q v) (n := P) (fun i hi => gn_sml w hy hi hv) P (Nat.le_refl _)
    rw [if_pos (show oldI none = -1 from rfl), pv_jn_eq]
    refine for2b P (fun i (x : Int32) => x = iI (sumI (fun q => gn T U H y q v) i)) (fun q => q = some (if apv P T U H y v p none = true then 1 else 0)) ?_ ?_ pv_FU 0 _ (Nat.zero_le _) (by show P - 0 < 5000; omega) rfl
    · rintro rec x rfl
      unfold f_X9_approves_L36
      rw [show pv_ldI pv_T 203 0 M = fun f => pv_ldI pv_T 203 (nI 0) M f from rfl]
      dsimp only
      have hPb : (P : Int) ≤ 4 := by omega
      have hm : -324 ≤ gn T U H y p v * (P : Int) ∧ gn T U H y p v * (P : Int) ≤ 324 := by
        constructor
        · have : (-81) * (P : Int) ≤ gn T U H y p v * P := Int.mul_le_mul_of_nonneg_right hg.1 (by omega)
          omega
        · have : gn T U H y p v * (P : Int) ≤ 81 * P := Int.mul_le_mul_of_nonneg_right hg.2 (by omega)
          omega
      rw [ld_203 (by decide), z1, if_pos (nI_le (Nat.le_refl _) (by omega)), m_gain w h hy hp hv, pv_cap_some, ld_203 (by decide), z1, ← iI_n, iI_mul, iIf_lt (by omega) (by omega) (by omega) (by omega)]
      unfold apv
      by_cases e : gn T U H y p v * (P : Int) < sumI (fun q => gn T U H y q v) P
      · rw [if_pos e, if_neg (by rw [decide_eq_true_eq]; omega)]
      · rw [if_neg e, if_pos (by rw [decide_eq_true_eq]; omega)]
    · rintro rec i x hi rfl hrec
      unfold f_X9_approves_L36
      rw [show pv_ldI pv_T 203 0 M = fun f => pv_ldI pv_T 203 (nI 0) M f from rfl]
      dsimp only
      rw [ld_203 (by decide), z1, if_neg (nI_ge hi (by omega)), m_gain w h hy hi hv, pv_cap_some, pv_nm_eq, nI_1, iI_add]
      exact hrec _ rfl
  | some k =>
    have hk := ho k rfl
    have hgk := gn_sml w hy hk hv
    rw [if_neg (show ¬ oldI (some k) = -1 from m1_ne (by omega)), m_gain w h hy hp hv, pv_cap_some, show oldI (some k) = nI k from rfl, m_gain w h hy hk hv, pv_cap_some, iIf_lt (by omega) (by omega) (by omega) (by omega)]
    unfold apv
    by_cases e : gn T U H y p v < gn T U H y k v
    · rw [if_pos e, if_neg (by rw [decide_eq_true_eq]; omega)]
    · rw [if_neg e, if_pos (by rw [decide_eq_true_eq]; omega)]
