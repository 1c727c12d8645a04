theorem x_byte {M : pv_M} {t n i k : Nat} {b : Nat → Nat} (ht : t < 3) (hX : txX M t n b) (hn : n ≤ tcap t) (h : 4 * i + k < n) : f_X5_byteOf (2 * t + 1) (nI i) (nI k) M = some (nI (b (4 * i + k))) := by
  have hc := tcap_le t
  unfold f_X5_byteOf
  rw [isT_tx ht, pv_ck_true, show 2 * t + 1 + 1 = 2 * t + 2 by omega, show (4 : Int32) = nI 4 from rfl, pk_mul, nI_add, ldI_n (sa_tx ht) (by omega), hX.2.2 _ h]
theorem txX.fr {M M' : pv_M} {t n : Nat} {b : Nat → Nat} (ht : t < 3) (h : txX M t n b) (hF : ∀ a c, a < 39 → M'.1 a c = M.1 a c) : txX M' t n b := ⟨by rw [hF _ _ (by omega)]; exact h.1, by rw [hF _ _ (by omega)]; exact h.2.1, fun i hi => by rw [hF _ _ (by omega)]; exact h.2.2 i hi⟩
theorem x_carry {M : pv_M} {P y n : Nat} {b : Nat → Nat} {g : Nat → Nat → Nat} (hy : y < 10) (hP : P ≤ 4) (hm : M.1 39 0 = nI P) (hn : n ≤ tcap 0)
    (hsrc : (y = 0 ∧ txX M 0 n b ∧ ∀ p u, p < P → u < 3 → 4 * p + u < n ∧ 49 ≤ b (4 * p + u) ∧ b (4 * p + u) - 48 = g p u) ∨ (0 < y ∧ ∀ p u, p < P → u < 3 → M.1 (41 + (y - 1)) (p * 3 + u) = nI (g p u))) :
    ∃ M', f_X2_carry (nI y) 1 M = some ((), M') ∧ ∀ a c, M'.1 a c = if a = 41 + y ∧ c < P * 3 then nI (g (c / 3) (c % 3)) else M.1 a c := by
  unfold f_X2_carry
  rw [show pv_isT 1 = true from rfl, pv_ck_true]
  refine for2 P (fun p (S : pv_M) => ∀ a c, S.1 a c = if a = 41 + y ∧ c < p * 3 then nI (g (c / 3) (c % 3)) else M.1 a c) (fun q => ∃ M' : pv_M, q = some ((), M') ∧ ∀ a c, M'.1 a c = if a = 41 + y ∧ c < P * 3 then nI (g (c / 3) (c % 3)) else M.1 a c) ?_ ?_ pv_FU 0 M (Nat.zero_le _) (by show P - 0 < 5000; omega) (fun a c => by rw [if_neg (by omega)])
  · intro rec S hS
    have s0 : S.1 39 0 = nI P := by rw [hS, if_neg (by omega), hm]
    unfold f_X2_carry_L2
    rw [pv_nm_eq, s0, if_pos (nI_le (Nat.le_refl _) (by omega))]
    exact ⟨S, rfl, hS⟩
  · intro rec p S hp hS hr
    have s0 : S.1 39 0 = nI P := by rw [hS, if_neg (by omega), hm]
    unfold f_X2_carry_L2
    rw [pv_nm_eq, s0, if_neg (nI_ge hp (by omega))]
    refine for2 3 (fun u (S' : pv_M) => ∀ a c, S'.1 a c = if a = 41 + y ∧ c < p * 3 + u then nI (g (c / 3) (c % 3)) else M.1 a c) (fun q => ∃ M' : pv_M, q = some ((), M') ∧ ∀ a c, M'.1 a c = if a = 41 + y ∧ c < P * 3 then nI (g (c / 3) (c % 3)) else M.1 a c) ?_ ?_ pv_FU 0 S (Nat.zero_le _) (by decide) hS
    · intro rec2 S' hS'
      unfold f_X2_carry_L13
      rw [if_pos (by decide), nI_1]
      refine hr S' (fun a c => ?_)
      rw [hS', show p * 3 + 3 = (p + 1) * 3 by omega]
    · intro rec2 u S' hu hS' hr2
      have hend : ∃ M' : pv_M, pv_stI pv_T (41 + y) (nI (p * 3 + u)) (nI (g p u)) S' (fun M3 => rec2 (nI (u + 1)) M3) = some ((), M') ∧ ∀ a c, M'.1 a c = if a = 41 + y ∧ c < P * 3 then nI (g (c / 3) (c % 3)) else M.1 a c := by
        rw [tf_41 hy (by omega)]
        refine hr2 _ (fun a c => ?_)
        rw [fst_u, hS']
        by_cases e : a = 41 + y ∧ c = p * 3 + u
        · rw [if_pos e, if_pos (by omega), e.2, show (p * 3 + u) / 3 = p by omega, show (p * 3 + u) % 3 = u by omega]
        · rw [if_neg e]
          ((repeat' split) <;> first | rfl | (exfalso; omega))
      unfold f_X2_carry_L13
      rw [show (3 : Int32) = nI 3 from rfl, if_neg (nI_ge hu (by decide)), lr_40 hy, pv_jn_eq, pk_mul, nI_add, nI_1, ite_eq0 (by omega)]
      rcases hsrc with ⟨rfl, h1, h2⟩ | ⟨h0, h1⟩
      · obtain ⟨z1, z2, z3⟩ := h2 p u hp hu
        have hb := x_byte (t := 0) (by decide) (h1.fr (M' := S') (by decide) (fun a c q => by rw [hS', if_neg (by omega)])) hn z1
        rw [if_pos rfl, show (1 : Nat) = 2 * 0 + 1 from rfl, hb, pv_cap_some, show (48 : Int32) = nI 48 from rfl, pk_sub (by omega), z3]
        exact hend
      · rw [if_neg (by omega)]
        have hf : f_X2_figure (nI y - 1) (nI p) (nI u) S' = some (nI (g p u)) := by
          unfold f_X2_figure
          rw [show (1 : Int32) = nI 1 from rfl, pk_sub (by omega), lr_40 (by omega), show (3 : Int32) = nI 3 from rfl, pk_mul, nI_add, lf_41 (by omega) (by omega), hS', if_neg (by omega), h1 p u hp hu]
        rw [hf, pv_cap_some]
        exact hend
theorem x_alter {M : pv_M} {y cn : Nat} {cf : Nat → Nat → Nat} (hy : y < 10) (h2 : I2 M cn cf) :
    ∃ M', f_X2_alter (nI y) 7 M = some ((), M') ∧ (∀ a c, ¬ a = 41 + y → M'.1 a c = M.1 a c) ∧ ∀ p u f, p < 4 → u < 3 → M.1 (41 + y) (p * 3 + u) = nI f → M'.1 (41 + y) (p * 3 + u) = nI (alt cf y p u f cn) := by
  obtain ⟨c1, c2, c3, c4⟩ := h2
  unfold f_X2_alter
  rw [show pv_isW 7 = true from rfl, pv_ck_true]
  refine for2 cn (fun i (S : pv_M) => (∀ a c, ¬ a = 41 + y → S.1 a c = M.1 a c) ∧ ∀ p u f, p < 4 → u < 3 → M.1 (41 + y) (p * 3 + u) = nI f → S.1 (41 + y) (p * 3 + u) = nI (alt cf y p u f i)) (fun q => ∃ M' : pv_M, q = some ((), M') ∧ (∀ a c, ¬ a = 41 + y → M'.1 a c = M.1 a c) ∧ ∀ p u f, p < 4 → u < 3 → M.1 (41 + y) (p * 3 + u) = nI f → M'.1 (41 + y) (p * 3 + u) = nI (alt cf y p u f cn)) ?_ ?_ pv_FU 0 M (Nat.zero_le _) (by show cn - 0 < 5000; omega) ⟨fun _ _ _ => rfl, fun p u f _ _ h => h⟩
  · intro rec S hS
    unfold f_X2_alter_L2
    rw [pv_nm_eq, hS.1 _ _ (by omega), c2, if_pos (nI_le (Nat.le_refl _) (by omega))]
    exact ⟨S, rfl, hS⟩
  · intro rec i S hi hS hr
    obtain ⟨⟨q1, q2, q3, q4, q5⟩, q6⟩ := c4 i hi
    have r : ∀ j, j < 4 → S.1 (9 + i) j = nI (cf i j) := fun j hj => by rw [hS.1 _ _ (by omega)]; exact (q6 j hj).1
    unfold f_X2_alter_L2
    rw [pv_nm_eq, hS.1 _ _ (by omega), c2, if_neg (nI_ge hi (by omega)), lr_8 (by omega), show (0 : Int32) = nI 0 from rfl, show (1 : Int32) = nI 1 from rfl, show (2 : Int32) = nI 2 from rfl, show (3 : Int32) = nI 3 from rfl, lf_9 (by omega) (by omega), r 0 (by decide), ite_eq (by omega) (by omega), nI_add]
    by_cases e : cf i 0 = y
    · rw [if_pos e, lr_40 hy, lf_9 (by omega) (by omega), r 1 (by decide), lf_9 (by omega) (by omega), r 2 (by decide), lf_9 (by omega) (by omega), r 3 (by decide), pk_mul, nI_add, tf_41 hy (by omega)]
      refine hr _ ⟨fun a c q => by rw [fst_u, if_neg (by omega)]; exact hS.1 a c q, fun p u f hp hu hf => ?_⟩
      conv => rhs; unfold alt
      rw [fst_u]
      by_cases e2 : cf i 1 = p ∧ cf i 2 = u
      · rw [if_pos (by omega), if_pos (by omega)]
      · rw [if_neg (by omega), if_neg (by omega)]
        exact hS.2 p u f hp hu hf
    · rw [if_neg e]
      refine hr _ ⟨hS.1, fun p u f hp hu hf => ?_⟩
      conv => rhs; unfold alt
      rw [if_neg (by omega)]
      exact hS.2 p u f hp hu hf
theorem x_take {M : pv_M} {v cn : Nat} {n : Nat → Nat} {b : Nat → Nat → Nat} {cf : Nat → Nat → Nat} (h1 : I1 M n b) (h2 : I2 M cn cf) (hv : M.1 39 2 = nI v) :
    ∃ M', f_X2_take 1 3 7 M = some ((), M') ∧ (∀ a c, ¬ (a = 39 ∨ (41 ≤ a ∧ a ≤ 52)) → M'.1 a c = M.1 a c) ∧ M'.1 39 2 = nI (v + 1) ∧ XR M'.1 (itm 0 (n 0) (b 0)) (itm 1 (n 1) (b 1)) (tkS (b 0) cn cf) (unS (b 1)) (hoS (b 1)) := by
  have a0 := itm_le (b := b 0) (h1 0 (by decide)).1.1
  have a1 := itm_le (b := b 1) (h1 1 (by decide)).1.1
  have a02 := a0.2.1 rfl
  have hn0 := (h1 0 (by decide)).1.1
  have hn1 := (h1 1 (by decide)).1.1
  generalize hP : itm 0 (n 0) (b 0) = P at a0 a02
  generalize hV : itm 1 (n 1) (b 1) = V at a1
  have i0 : ∀ S : pv_M, (∀ a c, a < 39 → S.1 a c = M.1 a c) → f_X5_items 1 S = some (nI P) := fun S hS => by
    have := x_items (t := 0) (by decide) ((h1 0 (by decide)).2.fr (M' := S) (by decide) hS) hn0 (fun i hi => ((h1 0 (by decide)).1.2.2 i hi).1)
    rw [hP] at this
    exact this
  have i1 : ∀ S : pv_M, (∀ a c, a < 39 → S.1 a c = M.1 a c) → f_X5_items 3 S = some (nI V) := fun S hS => by
    have := x_items (t := 1) (by decide) ((h1 1 (by decide)).2.fr (M' := S) (by decide) hS) hn1 (fun i hi => ((h1 1 (by decide)).1.2.2 i hi).1)
    rw [hV] at this
    exact this
  unfold f_X2_take
  rw [show pv_isT 1 = true from rfl, show pv_isT 3 = true from rfl, show pv_isW 7 = true from rfl, pv_ck_true, pv_ck_true, pv_ck_true, pv_nm_eq, hv, nI_1, pv_nm_eq, i0 _ (fun a c q => by (try simp only [fst_u, u_if, and_self, if_true, if_false, false_and, and_false, true_and, and_true]) <;> (repeat first | rw [if_neg (by omega)] | rw [if_pos (by omega)])), pv_cap_some, pv_nm_eq, i1 _ (fun a c q => by (try simp only [fst_u, u_if, and_self, if_true, if_false, false_and, and_false, true_and, and_true]) <;> (repeat first | rw [if_neg (by omega)] | rw [if_pos (by omega)])), pv_cap_some, pv_nm_eq, pv_jn_eq]
  generalize hM3 : ((pv_u (pv_u (pv_u M.1 39 2 (nI (v + 1)), M.2).1 39 0 (nI P), (pv_u M.1 39 2 (nI (v + 1)), M.2).2).1 39 1 (nI V), (pv_u (pv_u M.1 39 2 (nI (v + 1)), M.2).1 39 0 (nI P), (pv_u M.1 39 2 (nI (v + 1)), M.2).2).2) : pv_M) = M3
  have m0 : M3.1 39 0 = nI P := by rw [← hM3]; (try simp only [fst_u, u_if, and_self, if_true, if_false, false_and, and_false, true_and, and_true]) <;> (repeat first | rw [if_neg (by omega)] | rw [if_pos (by omega)])
  have m1 : M3.1 39 1 = nI V := by rw [← hM3]; (try simp only [fst_u, u_if, and_self, if_true, if_false, false_and, and_false, true_and, and_true]) <;> (repeat first | rw [if_neg (by omega)] | rw [if_pos (by omega)])
  have m2 : M3.1 39 2 = nI (v + 1) := by rw [← hM3]; (try simp only [fst_u, u_if, and_self, if_true, if_false, false_and, and_false, true_and, and_true]) <;> (repeat first | rw [if_neg (by omega)] | rw [if_pos (by omega)])
  have mF : ∀ a c, ¬ a = 39 → M3.1 a c = M.1 a c := fun a c q => by rw [← hM3]; (try simp only [fst_u, u_if, and_self, if_true, if_false, false_and, and_false, true_and, and_true]) <;> (repeat first | rw [if_neg (by omega)] | rw [if_pos (by omega)])
  refine for2 V (fun w (S : pv_M) => (∀ a c, ¬ (a = 51 ∨ a = 52) → S.1 a c = M3.1 a c) ∧ ∀ x, x < w → S.1 51 x = nI (unS (b 1) x) ∧ S.1 52 x = iI (hoS (b 1) x)) (fun q => ∃ M' : pv_M, q = some ((), M') ∧ (∀ a c, ¬ (a = 39 ∨ (41 ≤ a ∧ a ≤ 52)) → M'.1 a c = M.1 a c) ∧ M'.1 39 2 = nI (v + 1) ∧ XR M'.1 P V (tkS (b 0) cn cf) (unS (b 1)) (hoS (b 1))) ?_ ?_ pv_FU 0 M3 (Nat.zero_le _) (by show V - 0 < 5000; omega) ⟨fun _ _ _ => rfl, fun x hx => absurd hx (Nat.not_lt_zero _)⟩
  · intro rec S hS
    unfold f_X2_take_L29
    rw [pv_nm_eq, hS.1 _ _ (by omega), m1, if_pos (nI_le (Nat.le_refl _) (by omega))]
    refine for2 10 (fun y (R : pv_M) => (∀ a c, ¬ (41 ≤ a ∧ a < 41 + y) → R.1 a c = S.1 a c) ∧ ∀ z p u, z < y → p < P → u < 3 → R.1 (41 + z) (p * 3 + u) = nI (tkS (b 0) cn cf z p u)) (fun q => ∃ M' : pv_M, q = some ((), M') ∧ (∀ a c, ¬ (a = 39 ∨ (41 ≤ a ∧ a ≤ 52)) → M'.1 a c = M.1 a c) ∧ M'.1 39 2 = nI (v + 1) ∧ XR M'.1 P V (tkS (b 0) cn cf) (unS (b 1)) (hoS (b 1))) ?_ ?_ pv_FU 0 S (Nat.zero_le _) (by decide) ⟨fun _ _ _ => rfl, fun z p u hz => absurd hz (Nat.not_lt_zero _)⟩
    · intro rec R hR
      unfold f_X2_take_L103
      rw [if_pos (by decide)]
      refine ⟨R, rfl, fun a c q => ?_, ?_, ?_, ?_, ?_, ?_⟩
      · rw [hR.1 _ _ (by omega), hS.1 _ _ (by omega), mF _ _ (by omega)]
      · rw [hR.1 _ _ (by omega), hS.1 _ _ (by omega), m2]
      · rw [hR.1 _ _ (by omega), hS.1 _ _ (by omega), m0]
      · rw [hR.1 _ _ (by omega), hS.1 _ _ (by omega), m1]
      · intro y p u hy hp hu
        exact hR.2 y p u hy hp hu
      · intro w hw
        rw [hR.1 51 _ (by omega), hR.1 52 _ (by omega)]
        exact hS.2 w hw
    · intro rec y R hy hR hr
      unfold f_X2_take_L103
      rw [show (10 : Int32) = nI 10 from rfl, if_neg (nI_ge hy (by decide))]
      have r0 : R.1 39 0 = nI P := by rw [hR.1 _ _ (by omega), hS.1 _ _ (by omega), m0]
      have rF : ∀ a c, a < 39 → R.1 a c = M.1 a c := fun a c q => by rw [hR.1 _ _ (by omega), hS.1 _ _ (by omega), mF _ _ (by omega)]
      have hfit : ∀ p u, p < P → u < 3 → 4 * p + u < n 0 ∧ 49 ≤ b 0 (4 * p + u) ∧ b 0 (4 * p + u) ≤ 57 := fun p u hp hu => by
        rw [← hP] at hp
        have := ok_fit hp hu
        have := fit0 this.2 (by omega)
        omega
      obtain ⟨R1, e1, e2⟩ := x_carry (M := R) (P := P) (y := y) (n := n 0) (b := b 0) (g := fun p u => if y = 0 then b 0 (4 * p + u) - 48 else tkS (b 0) cn cf (y - 1) p u) hy a02 r0 hn0 (by
        by_cases h0 : y = 0
        · refine Or.inl ⟨h0, (h1 0 (by decide)).2.fr (by decide) rF, fun p u hp hu => ⟨(hfit p u hp hu).1, (hfit p u hp hu).2.1, ?_⟩⟩
          rw [if_pos h0]
        · refine Or.inr ⟨by omega, fun p u hp hu => ?_⟩
          rw [if_neg h0]
          exact hR.2 (y - 1) p u (by omega) hp hu)
      have h2R : I2 R1 cn cf := h2.fr (fun k j q => by
        rw [e2, if_neg (by omega)]
        by_cases q2 : k < 39
        · exact rF _ _ q2
        · rw [hR.1 _ _ (by omega), hS.1 _ _ (by omega), mF _ _ (by omega)])
      obtain ⟨R2, g1, g2, g3⟩ := x_alter hy h2R
      rw [e1, pv_cal_some, g1, pv_cal_some, nI_1]
      refine hr _ ⟨fun a c q => ?_, fun z p u hz hp hu => ?_⟩
      · rw [g2 _ _ (by omega), e2, if_neg (by omega)]
        exact hR.1 _ _ (by omega)
      · by_cases e : z = y
        · subst e
          rw [g3 p u (if z = 0 then b 0 (4 * p + u) - 48 else tkS (b 0) cn cf (z - 1) p u) (by omega) hu (by
            rw [e2, if_pos (by omega), show (p * 3 + u) / 3 = p by omega, show (p * 3 + u) % 3 = u by omega])]
          by_cases h0 : z = 0
          · subst h0
            rw [if_pos rfl, tkS_0]
          · rw [if_neg h0]
            obtain ⟨z', rfl⟩ : ∃ z', z = z' + 1 := ⟨z - 1, by omega⟩
            rw [show z' + 1 - 1 = z' by omega, tkS_s]
        · rw [g2 _ _ (by omega), e2, if_neg (by omega)]
          exact hR.2 z p u (by omega) hp hu
  · intro rec w S hw hS hr
    obtain ⟨q1, q2, q3⟩ := fit1 (b := b 1) (v := w) (fun k hk => (ok_fit (by rw [hV]; exact hw) hk).2)
    have hl : ∀ k, k < 3 → 4 * w + k < n 1 := fun k hk => (ok_fit (by rw [hV]; exact hw) hk).1
    have hby : ∀ (S' : pv_M), (∀ a c, ¬ (a = 51 ∨ a = 52) → S'.1 a c = M3.1 a c) → ∀ k, k < 3 → f_X5_byteOf 3 (nI w) (nI k) S' = some (nI (b 1 (4 * w + k))) := fun S' hS' k hk => x_byte (t := 1) (by decide) ((h1 1 (by decide)).2.fr (M' := S') (by decide) (fun a c q => by rw [hS' _ _ (by omega), mF _ _ (by omega)])) hn1 (hl k hk)
    unfold f_X2_take_L29
    rw [pv_nm_eq, hS.1 _ _ (by omega), m1, if_neg (nI_ge hw (by omega)), show (0 : Int32) = nI 0 from rfl, show (2 : Int32) = nI 2 from rfl, show (1 : Int32) = nI 1 from rfl, hby S hS.1 0 (by decide), pv_cap_some, show (97 : Int32) = nI 97 from rfl, show 4 * w + 0 = 4 * w from rfl, pk_sub (by omega), st_51 (by omega)]
    have hF' : ∀ a c, ¬ (a = 51 ∨ a = 52) → ((pv_u S.1 51 w (nI (b 1 (4 * w) - 97)), S.2) : pv_M).1 a c = M3.1 a c := fun a c q => by
      rw [fst_u, if_neg (by omega)]
      exact hS.1 a c q
    rw [hby _ hF' 2 (by decide), pv_cap_some, show (48 : Int32) = nI 48 from rfl, pk_sub (by omega), pv_nm_eq, hby _ hF' 1 (by decide), pv_cap_some, pv_jn_eq, show (43 : Int32) = nI 43 from rfl, ite_eq (by omega) (by decide), nI_add]
    have hend : ∃ M' : pv_M, pv_stI pv_T 52 (nI w) (iI (hoS (b 1) w)) (pv_u S.1 51 w (nI (b 1 (4 * w) - 97)), S.2) (fun M10 => rec (nI (w + 1)) M10) = some ((), M') ∧ (∀ a c, ¬ (a = 39 ∨ (41 ≤ a ∧ a ≤ 52)) → M'.1 a c = M.1 a c) ∧ M'.1 39 2 = nI (v + 1) ∧ XR M'.1 P V (tkS (b 0) cn cf) (unS (b 1)) (hoS (b 1)) := by
      rw [st_52 (by omega)]
      refine hr _ ⟨fun a c q => ?_, fun x hx => ?_⟩
      · (try simp only [fst_u, u_if, and_self, if_true, if_false, false_and, and_false, true_and, and_true]) <;> (repeat first | rw [if_neg (by omega)] | rw [if_pos (by omega)])
        exact hS.1 a c q
      · by_cases e : x = w
        · subst e
          exact ⟨by (try simp only [fst_u, u_if, and_self, if_true, if_false, false_and, and_false, true_and, and_true]) <;> (repeat first | rw [if_neg (by omega)] | rw [if_pos (by omega)]); rfl, by (try simp only [fst_u, u_if, and_self, if_true, if_false, false_and, and_false, true_and, and_true]) <;> (repeat first | rw [if_neg (by omega)] | rw [if_pos (by omega)])⟩
        · exact ⟨by (try simp only [fst_u, u_if, and_self, if_true, if_false, false_and, and_false, true_and, and_true]) <;> (repeat first | rw [if_neg (by omega)] | rw [if_pos (by omega)]); exact (hS.2 x (by omega)).1, by (try simp only [fst_u, u_if, and_self, if_true, if_false, false_and, and_false, true_and, and_true]) <;> (repeat first | rw [if_neg (by omega)] | rw [if_pos (by omega)]); exact (hS.2 x (by omega)).2⟩
    unfold hoS at hend
    by_cases e : b 1 (4 * w + 1) = 43
    · rw [if_pos e] at hend ⊢
      rw [iI_n] at hend
      exact hend
    · rw [if_neg e] at hend ⊢
      rw [← iI_neg, iI_n] at hend
      exact hend
