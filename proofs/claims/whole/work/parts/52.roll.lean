/-! loops whose counter stands behind -/
theorem for2b {ρ S : Type} {body : (S → Int32 → Option ρ) → S → Int32 → Option ρ} (n : Nat) (I : Nat → S → Prop) (P : Option ρ → Prop) (hx : ∀ rec s, I n s → P (body rec s (nI n))) (hs : ∀ rec i s, i < n → I i s → (∀ s', I (i + 1) s' → P (rec s' (nI (i + 1)))) → P (body rec s (nI i))) : ∀ (F i : Nat) (s : S), i ≤ n → n - i < F → I i s → P (pv_lp2 body F s (nI i))
  | 0, _, _, _, h, _ => absurd h (Nat.not_lt_zero _)
  | F + 1, i, s, hi, hF, hI => by
    show P (body (pv_lp2 body F) s (nI i))
    rcases Nat.lt_or_ge i n with h | h
    · exact hs _ i s h hI (fun s' hI' => for2b n I P hx hs F (i + 1) s' h (by omega) hI')
    · have e : i = n := by omega
      subst e
      exact hx _ s hI
theorem for3c {ρ A B : Type} {body : (A → B → Int32 → Option ρ) → A → B → Int32 → Option ρ} (n : Nat) (I : Nat → A → B → Prop) (P : Option ρ → Prop) (hx : ∀ rec a b, I n a b → P (body rec a b (nI n))) (hs : ∀ rec i a b, i < n → I i a b → (∀ a' b', I (i + 1) a' b' → P (rec a' b' (nI (i + 1)))) → P (body rec a b (nI i))) : ∀ (F i : Nat) (a : A) (b : B), i ≤ n → n - i < F → I i a b → P (pv_lp3 body F a b (nI i))
  | 0, _, _, _, _, h, _ => absurd h (Nat.not_lt_zero _)
  | F + 1, i, a, b, hi, hF, hI => by
    show P (body (pv_lp3 body F) a b (nI i))
    rcases Nat.lt_or_ge i n with h | h
    · exact hs _ i a b h hI (fun a' b' hI' => for3c n I P hx hs F (i + 1) a' b' h (by omega) hI')
    · have e : i = n := by omega
      subst e
      exact hx _ a b hI
/-! whole numbers -/
def iI (z : Int) : Int32 := Int32.ofInt z
theorem iI_toInt {z : Int} (h1 : -2147483648 ≤ z) (h2 : z < 2147483648) : (iI z).toInt = z := Int32.toInt_ofInt_of_le h1 h2
theorem iI_n (n : Nat) : iI (n : Int) = nI n := by
  unfold iI nI
  exact Int32.ofInt_eq_ofNat
theorem iI_mul (a b : Int) : iI a * iI b = iI (a * b) := (Int32.ofInt_mul a b).symm
theorem iI_add (a b : Int) : iI a + iI b = iI (a + b) := (Int32.ofInt_add a b).symm
theorem iI_sub (a b : Int) : iI a - iI b = iI (a - b) := by
  unfold iI
  rw [Int32.sub_eq_add_neg, ← Int32.ofInt_neg, ← Int32.ofInt_add]
  rfl
theorem iI_neg (a : Int) : -iI a = iI (-a) := (Int32.ofInt_neg a).symm
theorem iI_le {a b : Int} (h1 : -2147483648 ≤ a) (h2 : a < 2147483648) (h3 : -2147483648 ≤ b) (h4 : b < 2147483648) : (iI a ≤ iI b) = (a ≤ b) := by rw [fa_le, iI_toInt h1 h2, iI_toInt h3 h4]
theorem iI_lt {a b : Int} (h1 : -2147483648 ≤ a) (h2 : a < 2147483648) (h3 : -2147483648 ≤ b) (h4 : b < 2147483648) : (iI a < iI b) = (a < b) := by rw [fa_lt, iI_toInt h1 h2, iI_toInt h3 h4]
theorem iI_eq {a b : Int} (h1 : -2147483648 ≤ a) (h2 : a < 2147483648) (h3 : -2147483648 ≤ b) (h4 : b < 2147483648) : (iI a = iI b) = (a = b) := by rw [fa_eq, iI_toInt h1 h2, iI_toInt h3 h4]
theorem iIf_le {α : Type} {a b : Int} (h1 : -2147483648 ≤ a) (h2 : a < 2147483648) (h3 : -2147483648 ≤ b) (h4 : b < 2147483648) (x y : α) : (if iI a ≤ iI b then x else y) = if a ≤ b then x else y := by simp only [iI_le h1 h2 h3 h4]
theorem iIf_lt {α : Type} {a b : Int} (h1 : -2147483648 ≤ a) (h2 : a < 2147483648) (h3 : -2147483648 ≤ b) (h4 : b < 2147483648) (x y : α) : (if iI a < iI b then x else y) = if a < b then x else y := by simp only [iI_lt h1 h2 h3 h4]
theorem iIf_eq {α : Type} {a b : Int} (h1 : -2147483648 ≤ a) (h2 : a < 2147483648) (h3 : -2147483648 ≤ b) (h4 : b < 2147483648) (x y : α) : (if iI a = iI b then x else y) = if a = b then x else y := by simp only [iI_eq h1 h2 h3 h4]
/-! what is told of the parties' tickets -/
def tkf (b0 : Nat → Nat) (cf : Nat → Nat → Nat) (y p u : Nat) : Nat → Nat × Nat
  | 0 => (b0 (4 * p + u) - 48, 0)
  | k + 1 => if cf k 1 = p ∧ cf k 2 = u ∧ (tkf b0 cf y p u k).2 ≤ cf k 0 + 1 ∧ cf k 0 ≤ y then (cf k 3, cf k 0 + 1) else tkf b0 cf y p u k
def alt (cf : Nat → Nat → Nat) (y p u f : Nat) : Nat → Nat
  | 0 => f
  | k + 1 => if cf k 1 = p ∧ cf k 2 = u ∧ cf k 0 = y then cf k 3 else alt cf y p u f k
theorem tkf_le (b0 : Nat → Nat) (cf : Nat → Nat → Nat) (y p u : Nat) : ∀ k, (tkf b0 cf y p u k).2 ≤ y + 1
  | 0 => Nat.zero_le _
  | k + 1 => by
    unfold tkf
    split
    · show cf k 0 + 1 ≤ y + 1
      omega
    · exact tkf_le b0 cf y p u k
theorem tkf_0 (b0 : Nat → Nat) (cf : Nat → Nat → Nat) (p u : Nat) : ∀ k, (tkf b0 cf 0 p u k).1 = alt cf 0 p u (b0 (4 * p + u) - 48) k
  | 0 => rfl
  | k + 1 => by
    have h1 := tkf_le b0 cf 0 p u k
    have h2 := tkf_0 b0 cf p u k
    unfold tkf alt
    by_cases e : cf k 1 = p ∧ cf k 2 = u ∧ cf k 0 = 0
    · rw [if_pos e, if_pos (by omega)]
    · rw [if_neg e, if_neg (by omega)]
      exact h2
theorem tkf_s (b0 : Nat → Nat) (cf : Nat → Nat → Nat) (y p u : Nat) : ∀ k, (∃ w, tkf b0 cf (y + 1) p u k = (w, y + 2) ∧ ∀ f, alt cf (y + 1) p u f k = w) ∨ (tkf b0 cf (y + 1) p u k = tkf b0 cf y p u k ∧ ∀ f, alt cf (y + 1) p u f k = f)
  | 0 => Or.inr ⟨rfl, fun _ => rfl⟩
  | k + 1 => by
    have h1 := tkf_le b0 cf (y + 1) p u k
    have h2 := tkf_s b0 cf y p u k
    unfold tkf alt
    by_cases e : cf k 1 = p ∧ cf k 2 = u ∧ cf k 0 = y + 1
    · refine Or.inl ⟨cf k 3, ?_, fun f => by rw [if_pos e]⟩
      rw [if_pos (by omega), e.2.2]
    · rcases h2 with ⟨w, g1, g2⟩ | ⟨g1, g2⟩
      · refine Or.inl ⟨w, ?_, fun f => by rw [if_neg e]; exact g2 f⟩
        rw [g1, if_neg (by omega)]
      · refine Or.inr ⟨?_, fun f => by rw [if_neg e]; exact g2 f⟩
        rw [g1]
        by_cases e2 : cf k 1 = p ∧ cf k 2 = u ∧ (tkf b0 cf y p u k).2 ≤ cf k 0 + 1 ∧ cf k 0 ≤ y
        · rw [if_pos e2, if_pos (by omega)]
        · rw [if_neg e2, if_neg (by omega)]
def tkS (b0 : Nat → Nat) (cn : Nat) (cf : Nat → Nat → Nat) (y p u : Nat) : Nat := (tkf b0 cf y p u cn).1
theorem tkS_0 (b0 : Nat → Nat) (cn : Nat) (cf : Nat → Nat → Nat) (p u : Nat) : alt cf 0 p u (b0 (4 * p + u) - 48) cn = tkS b0 cn cf 0 p u := (tkf_0 b0 cf p u cn).symm
theorem tkS_s (b0 : Nat → Nat) (cn : Nat) (cf : Nat → Nat → Nat) (y p u : Nat) : alt cf (y + 1) p u (tkS b0 cn cf y p u) cn = tkS b0 cn cf (y + 1) p u := by
  unfold tkS
  rcases tkf_s b0 cf y p u cn with ⟨w, g1, g2⟩ | ⟨g1, g2⟩
  · rw [g1, g2]
  · rw [g1, g2]
theorem tkf_rg {b0 : Nat → Nat} {cn : Nat} {cf : Nat → Nat → Nat} {y p u : Nat} (hb : 49 ≤ b0 (4 * p + u) ∧ b0 (4 * p + u) ≤ 57) (hc : ∀ i, i < cn → 1 ≤ cf i 3 ∧ cf i 3 ≤ 9) : ∀ k, k ≤ cn → 1 ≤ (tkf b0 cf y p u k).1 ∧ (tkf b0 cf y p u k).1 ≤ 9
  | 0, _ => by
    show 1 ≤ b0 (4 * p + u) - 48 ∧ b0 (4 * p + u) - 48 ≤ 9
    omega
  | k + 1, h => by
    unfold tkf
    split
    · exact hc k (by omega)
    · exact tkf_rg hb hc k (by omega)
def unS (b1 : Nat → Nat) (v : Nat) : Nat := b1 (4 * v) - 97
def hoS (b1 : Nat → Nat) (v : Nat) : Int := if b1 (4 * v + 1) = 43 then ((b1 (4 * v + 2) - 48 : Nat) : Int) else -((b1 (4 * v + 2) - 48 : Nat) : Int)
/-- the roll that the cells C tell -/
def XR (C : Nat → Nat → Int32) (P V : Nat) (T : Nat → Nat → Nat → Nat) (U : Nat → Nat) (H : Nat → Int) : Prop := C 39 0 = nI P ∧ C 39 1 = nI V ∧ (∀ y p u, y < 10 → p < P → u < 3 → C (41 + y) (p * 3 + u) = nI (T y p u)) ∧ ∀ v, v < V → C 51 v = nI (U v) ∧ C 52 v = iI (H v)
def WF (P V : Nat) (T : Nat → Nat → Nat → Nat) (U : Nat → Nat) (H : Nat → Int) : Prop := P ≤ 4 ∧ V ≤ 8 ∧ (∀ y p u, y < 10 → p < P → u < 3 → 1 ≤ T y p u ∧ T y p u ≤ 9) ∧ ∀ v, v < V → U v < 3 ∧ -9 ≤ H v ∧ H v ≤ 9
def SM (M M' : pv_M) : Prop := ∀ k j, (k = 203 ∨ k = 204 ∨ k = 207 ∨ (k = 196 ∧ j = 12)) → M'.1 k j = M.1 k j
/-- what the model's cells tell -/
def MR (M : pv_M) (P V : Nat) (T : Nat → Nat → Nat → Nat) (U : Nat → Nat) (H : Nat → Int) : Prop := ∀ M', SM M M' → M'.1 203 0 = nI P ∧ M'.1 203 1 = nI V ∧ (∀ y p u, y < 10 → p < P → u < 3 → f_X9_ticketOf (nI y) (nI p) (nI u) M' = some (nI (T y p u))) ∧ ∀ v, v < V → f_X9_unitOf (nI v) M' = some (nI (U v)) ∧ f_X9_holds (nI v) M' = some (iI (H v))
theorem SM.rf {M : pv_M} : SM M M := fun _ _ _ => rfl
theorem SM.tr {M M' M'' : pv_M} (h : SM M M') (h' : SM M' M'') : SM M M'' := fun k j q => (h' k j q).trans (h k j q)
theorem MR.fr {M M' : pv_M} {P V : Nat} {T : Nat → Nat → Nat → Nat} {U : Nat → Nat} {H : Nat → Int} (h : MR M P V T U H) (hS : SM M M') : MR M' P V T U H := fun M'' q => h M'' (hS.tr q)
/-- two ways to tell one roll -/
theorem MR.as {M : pv_M} {C : Nat → Nat → Int32} {P V P' V' : Nat} {T T' : Nat → Nat → Nat → Nat} {U U' : Nat → Nat} {H H' : Nat → Int} (h : MR M P V T U H) (w : WF P V T U H) (x : XR C P V T U H) (w' : WF P' V' T' U' H') (x' : XR C P' V' T' U' H') : MR M P' V' T' U' H' := by
  obtain ⟨a1, a2, a3, a4⟩ := w
  obtain ⟨b1, b2, b3, b4⟩ := x
  obtain ⟨c1, c2, c3, c4⟩ := w'
  obtain ⟨d1, d2, d3, d4⟩ := x'
  have e1 : P = P' := (nI_eq (by omega) (by omega)).mp (b1.symm.trans d1)
  have e2 : V = V' := (nI_eq (by omega) (by omega)).mp (b2.symm.trans d2)
  subst e1 e2
  intro M' q
  obtain ⟨z1, z2, z3, z4⟩ := h M' q
  refine ⟨z1, z2, fun y p u hy hp hu => ?_, fun v hv => ?_⟩
  · rw [z3 y p u hy hp hu, ← b3 y p u hy hp hu, d3 y p u hy hp hu]
  · rw [(z4 v hv).1, (z4 v hv).2, ← (b4 v hv).1, ← (b4 v hv).2, (d4 v hv).1, (d4 v hv).2]
    exact ⟨rfl, rfl⟩
theorem since_le {s c : Nat} (hs : s < 100) (hc : c < 100) : ((if s = 0 then (-1) else nI (s - 1)) ≤ nI c) = (s ≤ c + 1) := by
  by_cases h : s = 0
  · rw [if_pos h, fa_le, nI_toInt (by omega), show ((-1 : Int32)).toInt = -1 by decide]
    exact propext ⟨fun _ => by omega, fun _ => by omega⟩
  · rw [if_neg h, len' (by omega) (by omega)]
    exact propext ⟨fun _ => by omega, fun _ => by omega⟩
theorem m_ticketOf {M : pv_M} {cn : Nat} {cf : Nat → Nat → Nat} {b0 : Nat → Nat} {y p u : Nat} (hn : cn ≤ 10) (h12 : M.1 196 12 = nI cn) (hc : ∀ i, i < cn → (cf i 0 < 10 ∧ cf i 1 < 4 ∧ cf i 2 < 3 ∧ 1 ≤ cf i 3 ∧ cf i 3 ≤ 9) ∧ ∀ j, j < 4 → M.1 207 (4 * i + j) = nI (cf i j)) (hy : y < 10) (hp : p < 4) (hu : u < 3) (ht : M.1 204 (3 * p + u) = nI (b0 (4 * p + u) - 48)) : f_X9_ticketOf (nI y) (nI p) (nI u) M = some (nI (tkS b0 cn cf y p u)) := by
  unfold f_X9_ticketOf
  simp (disch := omega) only [↓pv_nm_eq, ↓pv_jn_eq, ↓reduceIte, pv_nm_eq, pv_jn_eq, pv_cap_some, pv_cal_some, pv_ck_true, lit_eq, pk_mul, nI_add, sbn, eqn, len', ltn, if_true, if_false, ite_true, ite_false, eq_self, u_s, u_e, u_k, u_j, Nat.zero_le, Nat.one_ne_zero, Nat.reduceEqDiff, Nat.reduceLT, Nat.reduceLeDiff, Nat.reduceAdd, Nat.reduceMul, Nat.reduceSub, and_self, and_true, true_and, ite_self, ld_204, st_204, ht]
  refine for3c cn (fun k x s => x = nI (tkf b0 cf y p u k).1 ∧ s = (if (tkf b0 cf y p u k).2 = 0 then (-1) else nI ((tkf b0 cf y p u k).2 - 1))) (fun q => q = some (nI (tkS b0 cn cf y p u))) ?_ ?_ pv_FU 0 _ _ (Nat.zero_le _) (by show cn - 0 < 5000; omega) ⟨rfl, rfl⟩
  · rintro rec x s ⟨rfl, rfl⟩
    unfold f_X9_ticketOf_L18
    rw [pv_nm_eq, h12, if_pos (nI_le (Nat.le_refl _) (by omega))]
    rfl
  · rintro rec k x s hk ⟨rfl, hs⟩ hr
    obtain ⟨⟨q1, q2, q3, q4, q5⟩, q6⟩ := hc k hk
    have r0 := q6 0 (by decide)
    have r1 := q6 1 (by decide)
    have r2 := q6 2 (by decide)
    have r3 := q6 3 (by decide)
    rw [Nat.add_zero] at r0
    have hl := tkf_le b0 cf y p u k
    unfold f_X9_ticketOf_L18
    rw [pv_nm_eq, h12, if_neg (nI_ge hk (by omega)), show (4 : Int32) = nI 4 from rfl, show (1 : Int32) = nI 1 from rfl, show (2 : Int32) = nI 2 from rfl, show (3 : Int32) = nI 3 from rfl, pk_mul, nI_add, nI_add, nI_add, nI_add]
    rw [ld_207 (by omega), r1, pv_jn_eq, ld_207 (by omega), r2, ite_eq (by omega) (by omega), ite_eq (by omega) (by omega)]
    have hno : ¬ (cf k 1 = p ∧ cf k 2 = u ∧ (tkf b0 cf y p u k).2 ≤ cf k 0 + 1 ∧ cf k 0 ≤ y) → rec (nI (tkf b0 cf y p u k).1) s (nI (k + 1)) = some (nI (tkS b0 cn cf y p u)) := fun e => by
      refine hr _ _ ⟨?_, ?_⟩
      · conv => rhs; unfold tkf
        rw [if_neg e]
      · rw [hs]
        conv => rhs; unfold tkf
        rw [if_neg e]
    by_cases e : cf k 1 = p ∧ cf k 2 = u
    · rw [if_pos e.1, if_pos e.2]
      dsimp only
      rw [if_neg (by decide), ld_207 (by omega), r0, in_n, pv_cap_some]
      have hif : (s ≤ nI (cf k 0) ∧ nI (cf k 0) ≤ nI y) ↔ ((tkf b0 cf y p u k).2 ≤ cf k 0 + 1 ∧ cf k 0 ≤ y) := by
        rw [hs, since_le (by omega) (by omega), len' (show cf k 0 < 2 ^ 31 by omega) (show y < 2 ^ 31 by omega)]
      by_cases e2 : (tkf b0 cf y p u k).2 ≤ cf k 0 + 1 ∧ cf k 0 ≤ y
      · rw [bt1 (hif.mpr e2), ld_207 (by omega), r0, ld_207 (by omega), r3]
        refine hr _ _ ⟨?_, ?_⟩
        · conv => rhs; unfold tkf
          rw [if_pos (by omega)]
        · conv => rhs; unfold tkf
          rw [if_pos (show cf k 1 = p ∧ cf k 2 = u ∧ (tkf b0 cf y p u k).2 ≤ cf k 0 + 1 ∧ cf k 0 ≤ y by omega)]
          rfl
      · rw [bt0 (fun q => e2 (hif.mp q))]
        exact hno (by omega)
    · by_cases e1 : cf k 1 = p
      · rw [if_pos e1, if_neg (fun e2 => e ⟨e1, e2⟩)]
        dsimp only
        rw [if_pos rfl]
        exact hno (by omega)
      · rw [if_neg e1]
        dsimp only
        rw [if_pos rfl]
        exact hno (by omega)
theorem fit0 {b : Nat → Nat} {i : Nat} (h : fit 0 b i) (h3 : i % 4 ≠ 3) : 49 ≤ b i ∧ b i ≤ 57 := by
  unfold fit at h
  rw [if_neg h3, if_pos (Or.inr rfl)] at h
  exact h
theorem fit1 {b : Nat → Nat} {v : Nat} (h : ∀ k, k < 3 → fit 1 b (4 * v + k)) : (97 ≤ b (4 * v) ∧ b (4 * v) ≤ 99) ∧ (b (4 * v + 1) = 43 ∨ b (4 * v + 1) = 45) ∧ 49 ≤ b (4 * v + 2) ∧ b (4 * v + 2) ≤ 57 := by
  have f0 := h 0 (by decide)
  have f1 := h 1 (by decide)
  have f2 := h 2 (by decide)
  rw [Nat.add_zero] at f0
  unfold fit at f0 f1 f2
  rw [if_neg (by omega), if_neg (by omega), if_pos rfl, if_pos (by omega)] at f0
  rw [if_neg (by omega), if_neg (by omega), if_pos rfl, if_neg (by omega)] at f1
  rw [if_neg (by omega), if_pos (by omega)] at f2
  exact ⟨f0, f1, f2⟩
theorem ok_fit {t n : Nat} {b : Nat → Nat} {i : Nat} (hi : i < itm t n b) {k : Nat} (hk : k < 3) : 4 * i + k < n ∧ fit t b (4 * i + k) := by
  by_cases h : okT t n b
  · rw [itm_ok h] at hi
    have h2 := h.2
    exact ⟨by omega, h.1 _ (by omega)⟩
  · rw [itm_no h] at hi
    omega
/-- the roll of the texts and changes is well made -/
theorem wf_of {n : Nat → Nat} {b : Nat → Nat → Nat} {M : pv_M} {cn : Nat} {cf : Nat → Nat → Nat} (h1 : I1 M n b) (h2 : I2 M cn cf) : WF (itm 0 (n 0) (b 0)) (itm 1 (n 1) (b 1)) (tkS (b 0) cn cf) (unS (b 1)) (hoS (b 1)) := by
  have a0 := itm_le (b := b 0) (h1 0 (by decide)).1.1
  have a1 := itm_le (b := b 1) (h1 1 (by decide)).1.1
  refine ⟨a0.2.1 rfl, a1.1, fun y p u hy hp hu => ?_, fun v hv => ?_⟩
  · exact tkf_rg (fit0 (ok_fit hp hu).2 (by omega)) (fun i hi => ⟨((h2.2.2.2 i hi).1).2.2.2.1, ((h2.2.2.2 i hi).1).2.2.2.2⟩) cn (Nat.le_refl _)
  · obtain ⟨q1, q2, q3⟩ := fit1 (fun k hk => (ok_fit hv hk).2)
    unfold unS hoS
    refine ⟨by omega, ?_⟩
    split <;> omega
theorem mr_of {n : Nat → Nat} {b : Nat → Nat → Nat} {M : pv_M} {cn : Nat} {cf : Nat → Nat → Nat} (h1 : I1 M n b) (h2 : I2 M cn cf) (hT : Told M n b) : MR M (itm 0 (n 0) (b 0)) (itm 1 (n 1) (b 1)) (tkS (b 0) cn cf) (unS (b 1)) (hoS (b 1)) := by
  intro M' hS
  have a0 := itm_le (b := b 0) (h1 0 (by decide)).1.1
  have a1 := itm_le (b := b 1) (h1 1 (by decide)).1.1
  obtain ⟨c1, c2, c3, c4⟩ := h2
  refine ⟨by rw [hS 203 0 (by omega)]; exact (hT 0 (by decide)).1, by rw [hS 203 1 (by omega)]; exact (hT 1 (by decide)).1, fun y p u hy hp hu => ?_, fun v hv => ?_⟩
  · refine m_ticketOf c1 (by rw [hS 196 12 (by omega)]; exact c3) (fun i hi => ⟨(c4 i hi).1, fun j hj => by rw [hS 207 _ (by omega)]; exact ((c4 i hi).2 j hj).2⟩) hy (by have := a0.2.1 rfl; omega) hu ?_
    have := (hT 0 (by decide)).2 p hp u hu
    rw [show 24 * 0 + 3 * p + u = 3 * p + u by omega, show val 0 u (b 0 (4 * p + u)) = b 0 (4 * p + u) - 48 from if_pos (Or.inl rfl)] at this
    rw [hS 204 _ (by omega)]
    exact this
  · obtain ⟨q1, q2, q3⟩ := fit1 (fun k hk => (ok_fit hv hk).2)
    have t0 := (hT 1 (by decide)).2 v hv 0 (by decide)
    have t1 := (hT 1 (by decide)).2 v hv 1 (by decide)
    have t2 := (hT 1 (by decide)).2 v hv 2 (by decide)
    rw [show 24 * 1 + 3 * v + 0 = 24 + 3 * v by omega, Nat.add_zero] at t0
    rw [show 24 * 1 + 3 * v + 1 = 25 + 3 * v by omega] at t1
    rw [show 24 * 1 + 3 * v + 2 = 26 + 3 * v by omega] at t2
    rw [← hS 204 _ (by omega)] at t0 t1 t2
    rw [show val 1 0 (b 1 (4 * v)) = unS (b 1) v from rfl] at t0
    rw [show val 1 1 (b 1 (4 * v + 1)) = if b 1 (4 * v + 1) = 43 then 1 else 0 from rfl] at t1
    rw [show val 1 2 (b 1 (4 * v + 2)) = b 1 (4 * v + 2) - 48 from rfl] at t2
    constructor
    · unfold f_X9_unitOf
      simp (disch := omega) only [↓pv_nm_eq, ↓pv_jn_eq, ↓reduceIte, pv_nm_eq, pv_jn_eq, pv_cap_some, pv_cal_some, pv_ck_true, lit_eq, pk_mul, nI_add, sbn, eqn, len', ltn, if_true, if_false, ite_true, ite_false, eq_self, u_s, u_e, u_k, u_j, Nat.zero_le, Nat.one_ne_zero, Nat.reduceEqDiff, Nat.reduceLT, Nat.reduceLeDiff, Nat.reduceAdd, Nat.reduceMul, Nat.reduceSub, and_self, and_true, true_and, ite_self, ld_204, st_204, t0]
    · unfold f_X9_holds hoS
      by_cases e : b 1 (4 * v + 1) = 43
      · rw [if_pos e] at t1
        rw [if_pos e, iI_n]
        simp (disch := omega) only [↓pv_nm_eq, ↓pv_jn_eq, ↓reduceIte, pv_nm_eq, pv_jn_eq, pv_cap_some, pv_cal_some, pv_ck_true, lit_eq, pk_mul, nI_add, sbn, eqn, len', ltn, if_true, if_false, ite_true, ite_false, eq_self, u_s, u_e, u_k, u_j, Nat.zero_le, Nat.one_ne_zero, Nat.reduceEqDiff, Nat.reduceLT, Nat.reduceLeDiff, Nat.reduceAdd, Nat.reduceMul, Nat.reduceSub, and_self, and_true, true_and, ite_self, ld_204, st_204, t1, t2]
      · rw [if_neg e] at t1
        rw [if_neg e, ← iI_neg, iI_n]
        simp (disch := omega) only [↓pv_nm_eq, ↓pv_jn_eq, ↓reduceIte, pv_nm_eq, pv_jn_eq, pv_cap_some, pv_cal_some, pv_ck_true, lit_eq, pk_mul, nI_add, sbn, eqn, len', ltn, if_true, if_false, ite_true, ite_false, eq_self, u_s, u_e, u_k, u_j, Nat.zero_le, Nat.one_ne_zero, Nat.reduceEqDiff, Nat.reduceLT, Nat.reduceLeDiff, Nat.reduceAdd, Nat.reduceMul, Nat.reduceSub, and_self, and_true, true_and, ite_self, ld_204, st_204, t1, t2, show ¬ (0 : Nat) = 1 by decide]
