/-- the reader's state: m things are told, it is at place a -/
def RS (t n : Nat) (b : Nat → Nat) (M0 : pv_M) (m a : Nat) (M : pv_M) : Prop := FrT t M0 M ∧ M.1 196 7 = nI a ∧ M.1 203 t = nI m ∧ ∀ i, i < m → ∀ k, k < 3 → M.1 204 (24 * t + 3 * i + k) = nI (val t k (b (4 * i + k)))
theorem fit97 {b : Nat → Nat} {m : Nat} (h : fit 2 b (4 * m)) : 97 ≤ b (4 * m) := by
  unfold fit at h
  rw [if_neg (by omega), if_neg (by omega), if_neg (by decide)] at h
  exact h.1
theorem m_thing {M0 M : pv_M} {t n m : Nat} {b : Nat → Nat} (ht : t < 3) (hM : txM M0 t n b) (hm : 4 * m ≤ n) (hR : RS t n b M0 m (4 * m) M) :
    ∃ r M', f_X9_readsThing (nI t) M = some (r, M') ∧ ((r = 1 ∧ RS t n b M0 (m + 1) (4 * m + 3) M' ∧ ∀ k, k < 3 → 4 * m + k < n ∧ fit t b (4 * m + k)) ∨
      (r = 0 ∧ ∃ k, k < 3 ∧ FrT t M0 M' ∧ M'.1 196 7 = nI (4 * m + k) ∧ (∀ j, j < k → 4 * m + j < n ∧ fit t b (4 * m + j)) ∧ ¬ (4 * m + k < n ∧ fit t b (4 * m + k)))) := by
  have hc := tcap_le t
  have hn := hM.1
  have hm8 : m < 8 := by omega
  have hm4 : t = 0 → m < 4 := fun h => by
    subst h
    have : n ≤ 15 := hn
    omega
  unfold f_X9_readsThing
  rw [ldI_n sa_203 ht, hR.2.2.1, pv_jn_eq, ite_eq0 (by omega)]
  have hnc : ∀ c : Int32, c = (if t = 0 then 4 else 8) → ¬ nI m = c := by
    intro c h e
    rw [h] at e
    by_cases h0 : t = 0
    · rw [if_pos h0, show (4 : Int32) = nI 4 from rfl, nI_eq (by omega) (by decide)] at e
      have := hm4 h0
      omega
    · rw [if_neg h0, show (8 : Int32) = nI 8 from rfl, nI_eq (by omega) (by decide)] at e
      omega
  have hgo : ∀ c : Int32, c = (if t = 0 then 4 else 8) → (if nI m = c then some ((0 : Int32), M) else pv_ldI pv_T 203 (nI t) M (fun x3 => pv_nm ((24 * nI t) + (3 * x3)) (fun x4 => pv_jn (fun (M1 : pv_M) => pv_ldI pv_T 203 (nI t) M1 (fun x5 => pv_stI pv_T 203 (nI t) (x5 + 1) M1 (fun M2 => some (1, M2)))) (fun j2 => pv_lp2 (f_X9_readsThing_L37 j2 (nI t) x4) pv_FU 0 M)))) = pv_lp2 (f_X9_readsThing_L37 (fun (M1 : pv_M) => pv_ldI pv_T 203 (nI t) M1 (fun x5 => pv_stI pv_T 203 (nI t) (x5 + 1) M1 (fun M2 => some (1, M2)))) (nI t) (nI (24 * t + 3 * m))) pv_FU (nI 0) M := by
    intro c h
    rw [if_neg (hnc c h), ldI_n sa_203 ht, hR.2.2.1, pv_nm_eq, pv_jn_eq, show (24 : Int32) = nI 24 from rfl, show (3 : Int32) = nI 3 from rfl, pk_mul, pk_mul, nI_add]
    rfl
  have key : ∃ r M', pv_lp2 (f_X9_readsThing_L37 (fun (M1 : pv_M) => pv_ldI pv_T 203 (nI t) M1 (fun x5 => pv_stI pv_T 203 (nI t) (x5 + 1) M1 (fun M2 => some (1, M2)))) (nI t) (nI (24 * t + 3 * m))) pv_FU (nI 0) M = some (r, M') ∧ ((r = 1 ∧ RS t n b M0 (m + 1) (4 * m + 3) M' ∧ ∀ k, k < 3 → 4 * m + k < n ∧ fit t b (4 * m + k)) ∨
      (r = 0 ∧ ∃ k, k < 3 ∧ FrT t M0 M' ∧ M'.1 196 7 = nI (4 * m + k) ∧ (∀ j, j < k → 4 * m + j < n ∧ fit t b (4 * m + j)) ∧ ¬ (4 * m + k < n ∧ fit t b (4 * m + k)))) := by
    refine for2 3 (fun k M1 => FrT t M0 M1 ∧ M1.1 196 7 = nI (4 * m + k) ∧ M1.1 203 t = nI m ∧ (∀ i, i < m → ∀ k, k < 3 → M1.1 204 (24 * t + 3 * i + k) = nI (val t k (b (4 * i + k)))) ∧ ∀ j, j < k → M1.1 204 (24 * t + 3 * m + j) = nI (val t j (b (4 * m + j))) ∧ 4 * m + j < n ∧ fit t b (4 * m + j))
      (fun q => ∃ r M', q = some (r, M') ∧ ((r = 1 ∧ RS t n b M0 (m + 1) (4 * m + 3) M' ∧ ∀ k, k < 3 → 4 * m + k < n ∧ fit t b (4 * m + k)) ∨ (r = 0 ∧ ∃ k, k < 3 ∧ FrT t M0 M' ∧ M'.1 196 7 = nI (4 * m + k) ∧ (∀ j, j < k → 4 * m + j < n ∧ fit t b (4 * m + j)) ∧ ¬ (4 * m + k < n ∧ fit t b (4 * m + k))))) ?_ ?_ pv_FU 0 M (by decide) (by decide) ⟨hR.1, hR.2.1, hR.2.2.1, hR.2.2.2, fun j h => absurd h (Nat.not_lt_zero _)⟩
    · rintro rec M1 ⟨h1, h2, h3, h4, h5⟩
      unfold f_X9_readsThing_L37
      rw [if_pos (by decide)]
      dsimp only
      rw [ldI_n sa_203 ht, h3, nI_1, stI_n sa_203 ht]
      refine ⟨1, _, rfl, Or.inl ⟨rfl, ⟨h1.many _, ?_, ?_, ?_⟩, fun k hk => (h5 k hk).2⟩⟩
      · rw [fst_u, if_neg (by omega)]
        exact h2
      · exact uu_same _ _ _ _
      · intro i hi k hk
        rw [fst_u, if_neg (by omega)]
        by_cases e : i = m
        · subst e
          exact (h5 k hk).1
        · exact h4 i (by omega) k hk
    · rintro rec k M1 hk ⟨h1, h2, h3, h4, h5⟩ hr
      unfold f_X9_readsThing_L37
      rw [show (3 : Int32) = nI 3 from rfl, ite_le (by decide) (by omega), if_neg (by omega)]
      obtain ⟨q1, q2⟩ := m_tells (k := k) (m := m) ht (hM.fr h1) hk hm8 h2 (fun e1 e2 => by
        subst e1
        subst e2
        obtain ⟨g1, g2, g3⟩ := h5 0 (by decide)
        have g4 := fit97 g3
        refine ⟨g4, (hM.2.2 _ g2).1, ?_⟩
        rw [show 24 * 2 + 3 * m = 24 * 2 + 3 * m + 0 by omega, g1]
        rfl)
      by_cases h : 4 * m + k < n ∧ fit t b (4 * m + k)
      · rw [q1 h, pv_cap_some, if_neg (m1_ne (by
          have := (hM.2.2 _ h.1).1
          unfold val
          split
          · omega
          · split
            · split <;> decide
            · omega)), nI_add, stI_n sa_204 (by omega), pv_nm_eq, pv_nm_eq]
        have e7 : pv_u M1.1 204 (24 * t + 3 * m + k) (nI (val t k (b (4 * m + k)))) 196 7 = nI (4 * m + k) := by
          rw [uu_k _ _ (by decide)]
          exact h2
        dsimp only
        rw [e7, nI_1, nI_1]
        refine hr _ ⟨(h1.told (i := 24 * t + 3 * m + k) _ (by omega) (by omega)).at_ _, by rw [fst_u, if_pos ⟨rfl, rfl⟩]; rfl, ?_, ?_, ?_⟩
        · rw [fst_u, if_neg (by omega), u_if, if_neg (by omega)]
          exact h3
        · intro i hi k' hk'
          rw [fst_u, if_neg (by omega), u_if, if_neg (by omega)]
          exact h4 i hi k' hk'
        · intro j hj
          by_cases e : j = k
          · subst e
            rw [fst_u, if_neg (by omega), u_if, if_pos ⟨rfl, rfl⟩]
            exact ⟨rfl, h⟩
          · rw [fst_u, if_neg (by omega), u_if, if_neg (by omega)]
            exact h5 j (by omega)
      · rw [q2 h, pv_cap_some, if_pos rfl]
        exact ⟨0, M1, rfl, Or.inr ⟨rfl, k, hk, h1, h2, fun j hj => (h5 j hj).2, h⟩⟩
  by_cases h0 : t = 0
  · rw [if_pos h0]
    dsimp only
    rw [hgo 4 (by rw [if_pos h0])]
    exact key
  · rw [if_neg h0]
    dsimp only
    rw [hgo 8 (by rw [if_neg h0])]
    exact key
/-- what reading a text leaves: the fault, how many things, and they are told -/
theorem m_text {M : pv_M} {t n : Nat} {b : Nat → Nat} (ht : t < 3) (hM : txM M t n b) : ∃ r M', f_X9_readsText (nI t) M = some (r, M') ∧ FltIs t n b r ∧ FrT t M M' ∧ M'.1 203 t = nI (itm t n b) ∧ ∀ i, i < itm t n b → ∀ k, k < 3 → M'.1 204 (24 * t + 3 * i + k) = nI (val t k (b (4 * i + k))) := by
  have hc := tcap_le t
  have hn := hM.1
  unfold f_X9_readsText
  rw [pv_nm_eq, stI_n sa_203 ht, ldI_n sa_202 ht]
  generalize hMe : ((pv_u (pv_u M.1 196 7 0, M.2).1 203 t 0, (pv_u M.1 196 7 0, M.2).2) : pv_M) = M2
  have hF2 : FrT t M M2 := by rw [← hMe]; exact (FrT.rf.at_ 0).many 0
  have h7 : M2.1 196 7 = nI 0 := by rw [← hMe, fst_u, if_neg (by omega), fst_u, if_pos ⟨rfl, rfl⟩]; rfl
  have h3 : M2.1 203 t = nI 0 := by rw [← hMe, fst_u, if_pos ⟨rfl, rfl⟩]; rfl
  have hM2 := hM.fr hF2
  rw [hM2.2.1, pv_jn_eq]
  dsimp only
  rw [pv_jn_eq]
  have hend : ∀ (r : Int32) (M3 : pv_M), FrT t M M3 → M3.1 196 7 = r → FltIs t n b r → ¬ okT t n b → ∃ r M', (pv_stI pv_T 203 (nI t) 0 M3 (fun M4 => pv_nm (M4.1 196 7) (fun x3 => some (x3, M4)))) = some (r, M') ∧ FltIs t n b r ∧ FrT t M M' ∧ M'.1 203 t = nI (itm t n b) ∧ ∀ i, i < itm t n b → ∀ k, k < 3 → M'.1 204 (24 * t + 3 * i + k) = nI (val t k (b (4 * i + k))) := by
    intro r M3 g1 g2 g3 g4
    rw [stI_n sa_203 ht, pv_nm_eq]
    refine ⟨_, _, rfl, ?_, g1.many 0, ?_, ?_⟩
    · rw [fst_u, if_neg (by omega), g2]
      exact g3
    · rw [itm_no g4, fst_u, if_pos ⟨rfl, rfl⟩]
      rfl
    · intro i hi
      rw [itm_no g4] at hi
      exact absurd hi (Nat.not_lt_zero _)
  generalize hje : (fun (M3 : pv_M) => pv_stI pv_T 203 (nI t) 0 M3 (fun M4 => pv_nm (M4.1 196 7) (fun x3 => some (x3, M4)))) = jx
  have hj : ∀ (r : Int32) (M3 : pv_M), FrT t M M3 → M3.1 196 7 = r → FltIs t n b r → ¬ okT t n b → ∃ r M', jx M3 = some (r, M') ∧ FltIs t n b r ∧ FrT t M M' ∧ M'.1 203 t = nI (itm t n b) ∧ ∀ i, i < itm t n b → ∀ k, k < 3 → M'.1 204 (24 * t + 3 * i + k) = nI (val t k (b (4 * i + k))) := by
    intro r M3 g1 g2 g3 g4
    rw [← hje]
    exact hend r M3 g1 g2 g3 g4
  have loop : ∀ (F m : Nat) (M5 : pv_M), 4 * m ≤ n → 0 < n → n - 4 * m < F → RS t n b M m (4 * m) M5 → (∀ k, k < 4 * m → fit t b k) → ∃ r M', pv_lp2 (f_X9_readsText_L27 (nI t) jx) F 1 M5 = some (r, M') ∧ FltIs t n b r ∧ FrT t M M' ∧ M'.1 203 t = nI (itm t n b) ∧ ∀ i, i < itm t n b → ∀ k, k < 3 → M'.1 204 (24 * t + 3 * i + k) = nI (val t k (b (4 * i + k))) := by
    intro F
    induction F with
    | zero => intro m M5 _ _ h; exact absurd h (Nat.not_lt_zero _)
    | succ F ih =>
      intro m M5 hm hn0 hF hR hfit
      show ∃ r M', f_X9_readsText_L27 (nI t) jx (pv_lp2 (f_X9_readsText_L27 (nI t) jx) F) 1 M5 = some (r, M') ∧ _
      generalize hrec : pv_lp2 (f_X9_readsText_L27 (nI t) jx) F = rec at ih ⊢
      unfold f_X9_readsText_L27
      rw [if_neg (by decide)]
      obtain ⟨r, M6, h1, h2⟩ := m_thing ht hM hm hR
      rw [h1, pv_cal_some, pv_jn_eq]
      rcases h2 with ⟨rfl, hR6, hall⟩ | ⟨rfl, k, hk, g1, g2, g3, g4⟩
      · have hf3 : ∀ k, k < 4 * m + 3 → fit t b k := fun k hk => by
          by_cases q : k < 4 * m
          · exact hfit k q
          · have := (hall (k - 4 * m) (by omega)).2
            rwa [show 4 * m + (k - 4 * m) = k by omega] at this
        have hl3 := (hall 2 (by decide)).1
        rw [if_neg (by decide), pv_nm_eq, hR6.2.1, ldI_n sa_202 ht, (hM.fr hR6.1).2.1, ite_le (by omega) (by omega)]
        by_cases hmore : n ≤ 4 * m + 3
        · have hne : n = 4 * m + 3 := by omega
          rw [if_pos hmore]
          unfold f_X9_readsText_J59
          rw [if_neg (by decide), pv_jn_eq, if_pos rfl, pv_nm_eq, pv_jn_eq, if_pos rfl]
          dsimp only
          rw [pv_nm_eq, hR6.2.1]
          have hok : okT t n b := ⟨fun i hi => hf3 i (by omega), Or.inr (by omega)⟩
          have hfl : FltIs t n b (-1) := Or.inr (Or.inl ⟨hok.1, hok.2, rfl⟩)
          have hF1 : 0 < F := by omega
          obtain ⟨F', rfl⟩ : ∃ F', F = F' + 1 := ⟨F - 1, by omega⟩
          refine ⟨-1, (pv_u M6.1 196 7 (nI (4 * m + 3) + 0), M6.2), ?_, hfl, hR6.1.at_ _, ?_, ?_⟩
          · rw [← hrec]
            show f_X9_readsText_L27 (nI t) jx _ 0 _ = _
            unfold f_X9_readsText_L27
            rw [if_pos rfl]
          · rw [itm_ok hok, hne, show (4 * m + 3 + 1) / 4 = m + 1 by omega, fst_u, if_neg (by omega)]
            exact hR6.2.2.1
          · intro i hi k hk
            rw [itm_ok hok, hne, show (4 * m + 3 + 1) / 4 = m + 1 by omega] at hi
            rw [fst_u, if_neg (by omega)]
            exact hR6.2.2.2 i hi k hk
        · rw [if_neg hmore]
          unfold f_X9_readsText_J59
          rw [if_neg (by decide), pv_jn_eq, if_neg (by decide), m_here ht (hM.fr hR6.1) hR6.2.1 (by omega), pv_cap_some, if_pos (show 4 * m + 3 < n by omega)]
          have hb := (hM.2.2 (4 * m + 3) (by omega)).1
          rw [show (59 : Int32) = nI 59 from rfl, ite_eq (by omega) (by decide)]
          have hfe : fit t b (4 * m + 3) ↔ b (4 * m + 3) = 59 := by
            unfold fit
            rw [if_pos (by omega)]
          by_cases h59 : b (4 * m + 3) = 59
          · rw [if_pos h59, pv_nm_eq, pv_jn_eq, if_neg (by decide)]
            dsimp only
            rw [pv_nm_eq, hR6.2.1, nI_1]
            refine ih (m + 1) _ (by omega) hn0 (by omega) ⟨hR6.1.at_ _, ?_, ?_, ?_⟩ (fun k hk => ?_)
            · rw [fst_u, if_pos ⟨rfl, rfl⟩]
              rfl
            · rw [fst_u, if_neg (by omega)]
              exact hR6.2.2.1
            · intro i hi k hk
              rw [fst_u, if_neg (by omega)]
              exact hR6.2.2.2 i hi k hk
            · by_cases q : k < 4 * m + 3
              · exact hf3 k q
              · rw [show k = 4 * m + 3 by omega]
                exact hfe.mpr h59
          · rw [if_neg h59]
            exact hj _ M6 hR6.1 rfl (Or.inl ⟨4 * m + 3, by omega, hf3, fun q => h59 (hfe.mp q), hR6.2.1⟩) (fun q => h59 (hfe.mp (q.1 _ (by omega))))
      · rw [if_pos rfl]
        unfold f_X9_readsText_J59
        rw [if_pos rfl]
        have hfk : ∀ j, j < 4 * m + k → fit t b j := fun j hj2 => by
          by_cases q : j < 4 * m
          · exact hfit j q
          · have := (g3 (j - 4 * m) (by omega)).2
            rwa [show 4 * m + (j - 4 * m) = j by omega] at this
        by_cases hlt : 4 * m + k < n
        · have hnf : ¬ fit t b (4 * m + k) := fun q => g4 ⟨hlt, q⟩
          exact hj _ M6 g1 rfl (Or.inl ⟨4 * m + k, hlt, hfk, hnf, g2⟩) (fun q => hnf (q.1 _ hlt))
        · have hnk : n = 4 * m + k := by
            by_cases k0 : k = 0
            · omega
            · have := (g3 (k - 1) (by omega)).1
              omega
          have hno : ¬ (n = 0 ∨ n % 4 = 3) := by omega
          exact hj _ M6 g1 rfl (Or.inr (Or.inr ⟨fun i hi => hfk i (by omega), hno, by rw [g2, hnk]⟩)) (fun q => hno q.2)
  by_cases hn0 : n = 0
  · have hok : okT t n b := ⟨fun i hi => by omega, Or.inl hn0⟩
    rw [if_pos (by rw [hn0]; decide)]
    refine ⟨-1, M2, rfl, Or.inr (Or.inl ⟨hok.1, hok.2, rfl⟩), hF2, ?_, ?_⟩
    · rw [itm_ok hok, h3, hn0]
    · intro i hi
      rw [itm_ok hok, hn0] at hi
      exact absurd hi (by omega)
  · rw [if_neg (nI_nle (by omega) (by omega))]
    exact loop pv_FU 0 M2 (by omega) (by omega) (by show n - 4 * 0 < 5000; omega) ⟨hF2, h7, h3, fun i hi => absurd hi (Nat.not_lt_zero _)⟩ (fun k hk => absurd hk (by omega))
