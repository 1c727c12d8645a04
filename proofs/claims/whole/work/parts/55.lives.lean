theorem cnt_if (p : Nat → Bool) (v : Nat) : fa_cnt p (v + 1) = fa_cnt p v + (if p v = true then 1 else 0) := by
  by_cases h : p v = true
  · rw [fa_cnt_yes h, if_pos h]
  · rw [fa_cnt_no (by simpa using h), if_neg h]
    rfl
theorem MR.o {M M' : pv_M} {P V : Nat} {T : Nat → Nat → Nat → Nat} {U : Nat → Nat} {H : Nat → Int} (h : MR M P V T U H) (hF : ∀ a c, ¬ (208 ≤ a ∧ a ≤ 220) ∧ ¬ (a = 196 ∧ c ≠ 12) ∧ a ≠ 200 → M'.1 a c = M.1 a c) : MR M' P V T U H := h.fr (fun k j q => hF k j (by omega))
theorem vts_ch {P : Nat} {T : Nat → Nat → Nat → Nat} {U : Nat → Nat} {H : Nat → Int} {l y u : Nat} {o : Option Nat} {p v : Nat} (h2 : l ≠ 2) (hl : l = 0 ∨ U v = u) : vts P T U H l y u o p v = decide (cho P T U H y v o = p) := by
  unfold vts
  rw [if_neg h2]
  simp only [hl, true_and]
theorem vts_no {P : Nat} {T : Nat → Nat → Nat → Nat} {U : Nat → Nat} {H : Nat → Int} {l y u : Nat} {o : Option Nat} {p v : Nat} (h2 : l ≠ 2) (hl : ¬ (l = 0 ∨ U v = u)) : vts P T U H l y u o p v = false := by
  unfold vts
  rw [if_neg h2]
  simp only [hl, false_and, decide_false]
theorem vts_ap {P : Nat} {T : Nat → Nat → Nat → Nat} {U : Nat → Nat} {H : Nat → Int} {y u : Nat} {o : Option Nat} {p v : Nat} : vts P T U H 2 y u o p v = apv P T U H y v p o := if_pos rfl
theorem m_counts {M : pv_M} {P V : Nat} {T : Nat → Nat → Nat → Nat} {U : Nat → Nat} {H : Nat → Int} (w : WF P V T U H) (h : MR M P V T U H) {y u l : Nat} (hy : y < 10) (hu : u < 3) (hl : l < 3) (hP : 0 < P) {o : Option Nat} (ho : okO P o) :
    ∃ M', f_X9_counts (nI y) (nI u) (nI l) (oldI o) M = some ((), M') ∧ (∀ a c, ¬ (a = 209 ∧ 12 * y + 4 * u ≤ c ∧ c < 12 * y + 4 * u + 4) → M'.1 a c = M.1 a c) ∧ ∀ p, p < P → M'.1 209 (12 * y + 4 * u + p) = nI (tly P V T U H l y u o p) := by
  have hw1 := w.1
  have hw2 := w.2.1
  unfold f_X9_counts
  rw [pv_nm_eq, show (12 : Int32) = nI 12 from rfl, show (4 : Int32) = nI 4 from rfl, pk_mul, pk_mul, nI_add, pv_jn_eq]
  obtain ⟨r, hr⟩ : ∃ r, r = 12 * y + 4 * u := ⟨_, rfl⟩
  rw [← hr]
  refine for2 4 (fun i (S : pv_M) => (∀ a c, ¬ (a = 209 ∧ r ≤ c ∧ c < r + 4) → S.1 a c = M.1 a c) ∧ ∀ p, p < i → S.1 209 (r + p) = nI 0) (fun q => ∃ M' : pv_M, q = some ((), M') ∧ (∀ a c, ¬ (a = 209 ∧ r ≤ c ∧ c < r + 4) → M'.1 a c = M.1 a c) ∧ ∀ p, p < P → M'.1 209 (r + p) = nI (tly P V T U H l y u o p)) ?_ ?_ pv_FU 0 M (Nat.zero_le _) (by decide) ⟨fun _ _ _ => rfl, fun p hp => absurd hp (Nat.not_lt_zero _)⟩
  · intro rec S hS
    unfold f_X9_counts_L13
    rw [if_pos (by decide)]
    refine for2 V (fun v (S : pv_M) => (∀ a c, ¬ (a = 209 ∧ r ≤ c ∧ c < r + 4) → S.1 a c = M.1 a c) ∧ ∀ p, p < P → S.1 209 (r + p) = nI (fa_cnt (vts P T U H l y u o p) v)) (fun q => ∃ M' : pv_M, q = some ((), M') ∧ (∀ a c, ¬ (a = 209 ∧ r ≤ c ∧ c < r + 4) → M'.1 a c = M.1 a c) ∧ ∀ p, p < P → M'.1 209 (r + p) = nI (tly P V T U H l y u o p)) ?_ ?_ pv_FU 0 S (Nat.zero_le _) (by show V - 0 < 5000; omega) ⟨hS.1, fun p hp => hS.2 p (by omega)⟩
    · intro rec S hS
      obtain ⟨z1, z2, z3, z4⟩ := h.o (M' := S) (fun a c q => hS.1 a c (by omega)) S SM.rf
      unfold f_X9_counts_L39
      rw [show pv_ldI pv_T 203 1 S = fun f => pv_ldI pv_T 203 (nI 1) S f from rfl]
      dsimp only
      rw [ld_203 (by decide), z2, if_pos (nI_le (Nat.le_refl _) (by omega))]
      exact ⟨S, rfl, hS.1, hS.2⟩
    · intro rec v S hv hS hrec
      have hMR := h.o (M' := S) (fun a c q => hS.1 a c (by omega))
      obtain ⟨z1, z2, z3, z4⟩ := hMR S SM.rf
      unfold f_X9_counts_L39
      rw [show pv_ldI pv_T 203 1 S = fun f => pv_ldI pv_T 203 (nI 1) S f from rfl]
      dsimp only
      rw [ld_203 (by decide), z2, if_neg (nI_ge hv (by omega)), show (2 : Int32) = nI 2 from rfl, ite_eq (by omega) (by decide)]
      by_cases h2 : l = 2
      · subst h2
        rw [if_pos rfl]
        refine for2 P (fun i (S' : pv_M) => (∀ a c, ¬ (a = 209 ∧ r ≤ c ∧ c < r + 4) → S'.1 a c = M.1 a c) ∧ ∀ p, p < P → S'.1 209 (r + p) = nI (fa_cnt (vts P T U H 2 y u o p) (if p < i then v + 1 else v))) (fun q => ∃ M' : pv_M, q = some ((), M') ∧ (∀ a c, ¬ (a = 209 ∧ r ≤ c ∧ c < r + 4) → M'.1 a c = M.1 a c) ∧ ∀ p, p < P → M'.1 209 (r + p) = nI (tly P V T U H 2 y u o p)) ?_ ?_ pv_FU 0 S (Nat.zero_le _) (by show P - 0 < 5000; omega) ⟨hS.1, fun p hp => by rw [if_neg (by omega)]; exact hS.2 p hp⟩
        · intro rec2 S' hS'
          have z1' : S'.1 203 0 = nI P := by rw [hS'.1 _ _ (by omega), ← hS.1 203 0 (by omega), z1]
          unfold f_X9_counts_L58
          rw [show pv_ldI pv_T 203 0 S' = fun f => pv_ldI pv_T 203 (nI 0) S' f from rfl]
          dsimp only
          rw [ld_203 (by decide), z1', if_pos (nI_le (Nat.le_refl _) (by omega)), nI_1]
          refine hrec _ ⟨hS'.1, fun p hp => ?_⟩
          have := hS'.2 p hp
          rw [if_pos hp] at this
          exact this
        · intro rec2 i S' hi hS' hrec2
          have hMR' := h.o (M' := S') (fun a c q => hS'.1 a c (by omega))
          obtain ⟨z1', -, -, -⟩ := hMR' S' SM.rf
          have hci := hS'.2 i hi
          rw [if_neg (by omega)] at hci
          unfold f_X9_counts_L58
          rw [show pv_ldI pv_T 203 0 S' = fun f => pv_ldI pv_T 203 (nI 0) S' f from rfl]
          dsimp only
          rw [ld_203 (by decide), z1', if_neg (nI_ge hi (by omega)), pv_nm_eq, nI_add, ld_209 (by omega), hci, m_approves w hMR' hy hv hi ho, pv_cap_some, pv_jn_eq, nI_1]
          have hend : ∀ x : Nat, x = (if apv P T U H y v i o = true then 1 else 0) → ∃ M' : pv_M, pv_stI pv_T 209 (nI (r + i)) (nI (fa_cnt (vts P T U H 2 y u o i) v) + nI x) S' (fun M5 => rec2 (nI (i + 1)) M5) = some ((), M') ∧ (∀ a c, ¬ (a = 209 ∧ r ≤ c ∧ c < r + 4) → M'.1 a c = M.1 a c) ∧ ∀ p, p < P → M'.1 209 (r + p) = nI (tly P V T U H 2 y u o p) := by
            intro x hx
            rw [nI_add, st_209 (by omega)]
            refine hrec2 _ ⟨fun a c q => by rw [fst_u, if_neg (by omega)]; exact hS'.1 a c q, fun p hp => ?_⟩
            rw [fst_u]
            by_cases e : p = i
            · subst e
              rw [if_pos ⟨rfl, rfl⟩, if_pos (by omega), cnt_if, vts_ap, hx]
            · rw [if_neg (by omega), hS'.2 p hp]
              by_cases e2 : p < i
              · rw [if_pos e2, if_pos (by omega)]
              · rw [if_neg e2, if_neg (by omega)]
          by_cases e : apv P T U H y v i o = true
          · rw [if_pos e, if_neg (by decide)]
            exact hend 1 (by rw [if_pos e])
          · rw [if_neg e, if_pos rfl]
            exact hend 0 (by rw [if_neg e])
      · rw [if_neg h2, pv_jn_eq, ite_eq0 (by omega)]
        have hcl := bst_lt (fun p => gn T U H y p v) (show o.getD 0 < P by cases o with
          | none => exact hP
          | some k => exact ho k rfl) P (Nat.le_refl _)
        have hcc : cho P T U H y v o < P := hcl
        have hgo : (l = 0 ∨ U v = u) → ∃ M' : pv_M, (pv_cap (f_X9_choice (nI y) (nI v) (oldI o) S) (fun x4 => pv_nm (nI r + x4) (fun x5 => pv_ldI pv_T 209 x5 S (fun x6 => pv_stI pv_T 209 x5 (x6 + 1) S (fun M3 => rec (nI v + 1) M3))))) = some ((), M') ∧ (∀ a c, ¬ (a = 209 ∧ r ≤ c ∧ c < r + 4) → M'.1 a c = M.1 a c) ∧ ∀ p, p < P → M'.1 209 (r + p) = nI (tly P V T U H l y u o p) := by
          intro hlu
          rw [m_choice w hMR hy hv hP ho, pv_cap_some, pv_nm_eq, nI_add, ld_209 (by omega), hS.2 _ hcc, nI_1, st_209 (by omega), nI_1]
          refine hrec _ ⟨fun a c q => by rw [fst_u, if_neg (by omega)]; exact hS.1 a c q, fun p hp => ?_⟩
          rw [fst_u, cnt_if, vts_ch h2 hlu]
          by_cases e : p = cho P T U H y v o
          · subst e
            rw [if_pos ⟨rfl, rfl⟩, if_pos (by simp)]
          · rw [if_neg (by omega), if_neg (by simp; omega)]
            exact hS.2 p hp
        by_cases h0 : l = 0
        · rw [if_pos h0]
          exact hgo (Or.inl h0)
        · rw [if_neg h0, (z4 v hv).1, pv_cap_some, ite_eq (by have := (w.2.2.2 v hv).1; omega) (by omega)]
          by_cases e : U v = u
          · rw [if_pos e]
            exact hgo (Or.inr e)
          · rw [if_neg e, nI_1]
            refine hrec _ ⟨hS.1, fun p hp => ?_⟩
            rw [cnt_if, vts_no h2 (by omega), if_neg (by decide)]
            exact hS.2 p hp
  · intro rec i S hi hS hrec
    unfold f_X9_counts_L13
    rw [show (4 : Int32) = nI 4 from rfl, if_neg (nI_ge hi (by decide)), nI_add, st_209 (by omega), nI_1]
    refine hrec _ ⟨fun a c q => by rw [fst_u, if_neg (by omega)]; exact hS.1 a c q, fun p hp => ?_⟩
    rw [fst_u]
    by_cases e : p = i
    · subst e
      rw [if_pos ⟨rfl, rfl⟩]
      rfl
    · rw [if_neg (by omega)]
      exact hS.2 p (by omega)
def Lv1 (F : Nat → Nat → Int32) (P V : Nat) (T : Nat → Nat → Nat → Nat) (U : Nat → Nat) (H : Nat → Int) (l y u : Nat) : Prop := (P = 0 → F 208 (3 * y + u) = -1) ∧ (0 < P → F 208 (3 * y + u) = nI (win P V T U H l u y) ∧ ∀ p, p < P → F 209 (12 * y + 4 * u + p) = nI (tly P V T U H l y u (olds P V T U H l u y) p))
def Lv (M : pv_M) (P V : Nat) (T : Nat → Nat → Nat → Nat) (U : Nat → Nat) (H : Nat → Int) (l : Nat) : Prop := ∀ y u, y < 10 → u < 3 → Lv1 M.1 P V T U H l y u
theorem Lv1.fr {F F' : Nat → Nat → Int32} {P V : Nat} {T : Nat → Nat → Nat → Nat} {U : Nat → Nat} {H : Nat → Int} {l y u : Nat} (h : Lv1 F P V T U H l y u) (hP : P ≤ 4) (h8 : F' 208 (3 * y + u) = F 208 (3 * y + u)) (h9 : ∀ c, 12 * y + 4 * u ≤ c → c < 12 * y + 4 * u + 4 → F' 209 c = F 209 c) : Lv1 F' P V T U H l y u := ⟨fun e => by rw [h8]; exact h.1 e, fun e => ⟨by rw [h8]; exact (h.2 e).1, fun p hp => by rw [h9 _ (by omega) (by omega)]; exact (h.2 e).2 p hp⟩⟩
theorem tly_le {P V : Nat} {T : Nat → Nat → Nat → Nat} {U : Nat → Nat} {H : Nat → Int} {l y u : Nat} {o : Option Nat} {p : Nat} : tly P V T U H l y u o p ≤ V := fa_cnt_le _ _
theorem m_livesL {M : pv_M} {P V : Nat} {T : Nat → Nat → Nat → Nat} {U : Nat → Nat} {H : Nat → Int} (w : WF P V T U H) (h : MR M P V T U H) {l : Nat} (hl : l < 3) :
    ∃ M', pv_lp2 (f_X9_lives_L6 (nI l)) pv_FU 0 M = some ((), M') ∧ (∀ a c, ¬ (a = 208 ∨ a = 209) → M'.1 a c = M.1 a c) ∧ Lv M' P V T U H l := by
  have hw1 := w.1
  have hw2 := w.2.1
  refine for2 10 (fun y (S : pv_M) => (∀ a c, ¬ (a = 208 ∨ a = 209) → S.1 a c = M.1 a c) ∧ ∀ z x, z < y → x < 3 → Lv1 S.1 P V T U H l z x) (fun q => ∃ M' : pv_M, q = some ((), M') ∧ (∀ a c, ¬ (a = 208 ∨ a = 209) → M'.1 a c = M.1 a c) ∧ Lv M' P V T U H l) ?_ ?_ pv_FU 0 M (Nat.zero_le _) (by decide) ⟨fun _ _ _ => rfl, fun z x hz => absurd hz (Nat.not_lt_zero _)⟩
  · intro rec S hS
    unfold f_X9_lives_L6
    rw [if_pos (by decide)]
    exact ⟨S, rfl, hS.1, fun y u hy hu => hS.2 y u hy hu⟩
  · intro rec y S hy hS hrec
    unfold f_X9_lives_L6
    rw [show (10 : Int32) = nI 10 from rfl, if_neg (nI_ge hy (by decide))]
    refine for2 3 (fun u (S' : pv_M) => (∀ a c, ¬ (a = 208 ∨ a = 209) → S'.1 a c = M.1 a c) ∧ ∀ z x, (z < y ∨ (z = y ∧ x < u)) → x < 3 → Lv1 S'.1 P V T U H l z x) (fun q => ∃ M' : pv_M, q = some ((), M') ∧ (∀ a c, ¬ (a = 208 ∨ a = 209) → M'.1 a c = M.1 a c) ∧ Lv M' P V T U H l) ?_ ?_ pv_FU 0 S (Nat.zero_le _) (by decide) ⟨hS.1, fun z x hz hx => hS.2 z x (by omega) hx⟩
    · intro rec2 S' hS'
      unfold f_X9_lives_L14
      rw [if_pos (by decide), nI_1]
      exact hrec _ ⟨hS'.1, fun z x hz hx => hS'.2 z x (by omega) hx⟩
    · intro rec2 u S' hu hS' hrec2
      have hMR := h.o (M' := S') (fun a c q => hS'.1 a c (by omega))
      obtain ⟨z1, z2, z3, z4⟩ := hMR S' SM.rf
      have hold : ∃ o : Int32, o = (if P = 0 then (if y = 0 then -1 else S'.1 208 (3 * y - 3 + u)) else oldI (olds P V T U H l u y)) ∧ (f_X9_lives_L14 rec (nI y) (nI l) rec2 (nI u) S' = f_X9_lives_J39 S' (nI y) (nI u) rec2 (nI l) o) := by
        refine ⟨_, rfl, ?_⟩
        unfold f_X9_lives_L14
        rw [show (3 : Int32) = nI 3 from rfl, if_neg (nI_ge hu (by decide)), pv_jn_eq, ite_eq0 (by omega)]
        by_cases h0 : y = 0
        · rw [if_pos h0]
          by_cases hP : P = 0
          · rw [if_pos hP, if_pos h0]
          · rw [if_neg hP]
            unfold olds
            rw [if_pos h0]
            rfl
        · rw [if_neg h0, pk_mul, pk_sub (by omega), nI_add, ld_208 (by omega)]
          by_cases hP : P = 0
          · rw [if_pos hP, if_neg h0]
          · rw [if_neg hP]
            have := ((hS'.2 (y - 1) u (by omega) hu).2 (by omega)).1
            rw [show 3 * (y - 1) + u = 3 * y - 3 + u by omega] at this
            rw [this]
            unfold olds
            rw [if_neg h0]
            rfl
      obtain ⟨o, ho, hgo⟩ := hold
      rw [hgo]
      unfold f_X9_lives_J39
      rw [show pv_ldI pv_T 203 0 S' = fun f => pv_ldI pv_T 203 (nI 0) S' f from rfl]
      dsimp only
      rw [ld_203 (by decide), z1, pv_jn_eq]
      by_cases hP : P = 0
      · subst hP
        rw [if_pos (by decide)]
        dsimp only
        rw [show pv_ldI pv_T 203 0 S' = fun f => pv_ldI pv_T 203 (nI 0) S' f from rfl]
        dsimp only
        rw [ld_203 (by decide), z1, pv_jn_eq, if_pos (by decide)]
        dsimp only
        rw [show (3 : Int32) = nI 3 from rfl, pk_mul, nI_add, st_208 (by omega), nI_1]
        refine hrec2 _ ⟨fun a c q => by rw [fst_u, if_neg (by omega)]; exact hS'.1 a c q, fun z x hz hx => ?_⟩
        by_cases e : z = y ∧ x = u
        · refine ⟨fun _ => ?_, fun q => absurd q (Nat.lt_irrefl 0)⟩
          rw [fst_u, e.1, e.2, if_pos ⟨rfl, rfl⟩]
        · exact (hS'.2 z x (by omega) hx).fr hw1 (by rw [fst_u, if_neg (by omega)]) (fun c _ _ => by rw [fst_u, if_neg (by omega)])
      · rw [if_neg hP] at ho
        have hP0 : 0 < P := by omega
        have hok := olds_ok (V := V) (T := T) (U := U) (H := H) (l := l) (u := u) (y := y) hP0
        obtain ⟨M6, e1, e2, e3⟩ := m_counts w hMR hy hu hl hP0 hok
        rw [if_neg (nI_nle hP0 (by omega)), ho, e1, pv_cal_some]
        have y1 : M6.1 203 0 = nI P := by rw [e2 _ _ (by omega)]; exact z1
        dsimp only
        rw [show pv_ldI pv_T 203 0 M6 = fun f => pv_ldI pv_T 203 (nI 0) M6 f from rfl]
        dsimp only
        rw [ld_203 (by decide), y1, pv_jn_eq, if_neg (nI_ne0 (by omega) (by omega)), show (12 : Int32) = nI 12 from rfl, show (4 : Int32) = nI 4 from rfl, show (3 : Int32) = nI 3 from rfl, pk_mul, pk_mul, pk_mul, nI_add, nI_add]
        rw [m_mostAt (t := fun p => tly P V T U H l y u (olds P V T U H l u y) p) y1 hw1 hP0 (by omega) (fun p hp => ⟨e3 p hp, by have := tly_le (P := P) (V := V) (T := T) (U := U) (H := H) (l := l) (y := y) (u := u) (o := olds P V T U H l u y) (p := p); omega⟩) hok, pv_cap_some, ← win_eq]
        dsimp only
        rw [st_208 (by omega), nI_1]
        refine hrec2 _ ⟨fun a c q => by rw [fst_u, if_neg (by omega), e2 _ _ (by omega)]; exact hS'.1 a c q, fun z x hz hx => ?_⟩
        by_cases e : z = y ∧ x = u
        · refine ⟨fun q => absurd q hP, fun _ => ⟨?_, fun p hp => ?_⟩⟩
          · rw [fst_u, e.1, e.2, if_pos ⟨rfl, rfl⟩]
          · rw [fst_u, if_neg (by omega), e.1, e.2]
            exact e3 p hp
        · exact (hS'.2 z x (by omega) hx).fr hw1 (by rw [fst_u, if_neg (by omega), e2 _ _ (by omega)]) (fun c _ _ => by rw [fst_u, if_neg (by omega), e2 _ _ (by omega)])
