theorem mulb {a t : Nat} (ha : a ≤ 9) (ht : t ≤ 9) : 0 ≤ ((a : Nat) : Int) * ((t : Nat) : Int) ∧ ((a : Nat) : Int) * ((t : Nat) : Int) ≤ 81 := by
  have h := Nat.mul_le_mul ha ht
  have e : ((a : Nat) : Int) * ((t : Nat) : Int) = ((a * t : Nat) : Int) := (Int.natCast_mul a t).symm
  rw [e]
  omega
theorem dsm_c {a b c : Nat} (hb : b < 10) (hc : c < 10) : (100 * a + 10 * b + c) / 100 = a ∧ (100 * a + 10 * b + c) / 10 % 10 = b ∧ (100 * a + 10 * b + c) % 10 = c := by omega
section HD
variable {BA : pv_BA} {c v : Nat} {M : pv_M} {n : Nat → Nat} {b : Nat → Nat → Nat} {cn : Nat} {cf : Nat → Nat → Nat} {kn : Nat} {kf : Nat → Nat → Nat} {bn : Nat} {bf : Nat → Nat → Nat} {l d : Nat} {pu ra rb : Nat → Nat} {P V : Nat} {T : Nat → Nat → Nat → Nat} {U : Nat → Nat} {H : Nat → Int}
theorem hA_sml (w : WF P V T U H) {x k p : Nat} (hx : x < V) (hk : k < 1000) (hp : p < P) : -81 ≤ hA T U H x k p ∧ hA T U H x k p ≤ 324 := by
  have g := gn_sml w (show 0 < 10 by decide) hp hx
  have t0 := w.2.2.1 0 p 0 (by decide) hp (by decide)
  have t1 := w.2.2.1 0 p 1 (by decide) hp (by decide)
  have t2 := w.2.2.1 0 p 2 (by decide) hp (by decide)
  have m0 := mulb (a := k / 100) (t := T 0 p 0) (by omega) (by omega)
  have m1 := mulb (a := k / 10 % 10) (t := T 0 p 1) (by omega) (by omega)
  have m2 := mulb (a := k % 10) (t := T 0 p 2) (by omega) (by omega)
  unfold hA
  omega
def hls (o : Option Nat) : Int32 := match o with
  | none => 0
  | some c => nI (dsm c)
/-- the model asks whether it is all one -/
theorem m_hedged (w : WF P V T U H) (h : MR M P V T U H) {x k : Nat} (hx : x < V) (hk : k < 1000) : f_X9_isHedged (nI x) (nI (k / 100)) (nI (k / 10 % 10)) (nI (k % 10)) M = some (if hE P T U H x k = true then 1 else 0) := by
  obtain ⟨z1, z2, z3, z4⟩ := h M SM.rf
  have hw := w.1
  unfold f_X9_isHedged
  refine for3c P (fun p (f : Int32) (s : Int32) => f = (if al (fun p => decide (hA T U H x k p = hA T U H x k 0)) p = true then 1 else 0) ∧ (0 < p → s = iI (hA T U H x k 0))) (fun q => q = some (if hE P T U H x k = true then 1 else 0)) ?_ ?_ pv_FU 0 _ _ (Nat.zero_le _) (by show P - 0 < 5000; omega) ⟨rfl, fun q => absurd q (Nat.lt_irrefl 0)⟩
  · rintro rec f s ⟨rfl, hs⟩
    unfold f_X9_isHedged_L9
    rw [show pv_ldI pv_T 203 0 M = fun f => pv_ldI pv_T 203 (nI 0) M f from rfl]
    dsimp only
    rw [ld_203 (by decide), z1, if_pos (nI_le (Nat.le_refl _) (by omega)), bool_ck rfl]
    rfl
  · rintro rec p f s hp ⟨rfl, hs⟩ hrec
    have hp0 : 0 < P := by omega
    have b1 := hA_sml w hx hk hp
    have b0 := hA_sml w hx hk hp0
    unfold f_X9_isHedged_L9
    rw [show pv_ldI pv_T 203 0 M = fun f => pv_ldI pv_T 203 (nI 0) M f from rfl]
    dsimp only
    rw [ld_203 (by decide), z1, if_neg (nI_ge hp (by omega))]
    have e1 : f_X9_gain 0 (nI p) (nI x) M = some (iI (gn T U H 0 p x)) := m_gain w h (show 0 < 10 by decide) hp hx
    have e2 : f_X9_ticketOf 0 (nI p) 0 M = some (nI (T 0 p 0)) := z3 0 p 0 (by decide) hp (by decide)
    have e3 : f_X9_ticketOf 0 (nI p) 1 M = some (nI (T 0 p 1)) := z3 0 p 1 (by decide) hp (by decide)
    have e4 : f_X9_ticketOf 0 (nI p) 2 M = some (nI (T 0 p 2)) := z3 0 p 2 (by decide) hp (by decide)
    have e5 : ((iI (gn T U H 0 p x) + nI (k / 100) * nI (T 0 p 0)) + nI (k / 10 % 10) * nI (T 0 p 1)) + nI (k % 10) * nI (T 0 p 2) = iI (hA T U H x k p) := by
      unfold hA
      rw [← iI_add, ← iI_add, ← iI_add, ← iI_mul, ← iI_mul, ← iI_mul, iI_n, iI_n, iI_n, iI_n, iI_n, iI_n]
    rw [e1, pv_cap_some, e2, pv_cap_some, e3, pv_cap_some, e4, pv_cap_some, e5, pv_nm_eq, pv_jn_eq, ite_eq0 (by omega), nI_1]
    have key : ∀ s' : Int32, s' = iI (hA T U H x k 0) → (if (if al (fun p => decide (hA T U H x k p = hA T U H x k 0)) p = true then (1 : Int32) else 0) = 0 then rec 0 s' (nI (p + 1)) else (if iI (hA T U H x k p) = s' then rec 1 s' (nI (p + 1)) else rec 0 s' (nI (p + 1)))) = some (if hE P T U H x k = true then 1 else 0) := by
      rintro s' rfl
      rw [iIf_eq (by omega) (by omega) (by omega) (by omega)]
      by_cases e : al (fun p => decide (hA T U H x k p = hA T U H x k 0)) p = true
      · rw [bt1 e]
        by_cases e2 : hA T U H x k p = hA T U H x k 0
        · rw [if_pos e2]
          exact hrec _ _ ⟨by unfold al; rw [e, decide_eq_true e2]; rfl, fun _ => rfl⟩
        · rw [if_neg e2]
          exact hrec _ _ ⟨by unfold al; rw [e, decide_eq_false e2]; rfl, fun _ => rfl⟩
      · rw [bt0 e]
        exact hrec _ _ ⟨by unfold al; rw [show al (fun p => decide (hA T U H x k p = hA T U H x k 0)) p = false by simpa using e]; rfl, fun _ => rfl⟩
    by_cases p0 : p = 0
    · rw [if_pos p0]
      exact key _ (by rw [p0])
    · rw [if_neg p0]
      exact key _ (hs (by omega))
theorem hdg_st {o : Option Nat} (ho : ∀ c, o = some c → c < 1000) {k : Nat} (hk : k < 1000) : (oldI o = -1) = (o = none) ∧ (∀ {ρ : Type} (A B : ρ), (if oldI o = -1 then A else (if nI (dsm k) < hls o then A else B)) = if lsb dsm o k = true then A else B) ∧ (∀ {ρ : Type} (A B : ρ), (if oldI o = -1 then A else (if hls o ≤ nI (dsm k) then B else A)) = if lsb dsm o k = true then A else B) := by
  cases o with
  | none => exact ⟨(eq_true rfl).trans (eq_true rfl).symm, fun A B => by rw [if_pos (show oldI none = -1 from rfl), if_pos (show lsb dsm none k = true from rfl)], fun A B => by rw [if_pos (show oldI none = -1 from rfl), if_pos (show lsb dsm none k = true from rfl)]⟩
  | some c =>
    have hc := ho c rfl
    have hd : dsm c < 100 := by unfold dsm; omega
    have hd2 : dsm k < 100 := by unfold dsm; omega
    have hne : ¬ oldI (some c) = -1 := m1_ne (i := c) (by omega)
    refine ⟨(eq_false hne).trans (eq_false (fun q => by cases q)).symm, fun A B => ?_, fun A B => ?_⟩
    · rw [if_neg hne, show hls (some c) = nI (dsm c) from rfl, ite_lt (by omega) (by omega), show lsb dsm (some c) k = decide (dsm k < dsm c) from rfl]
      simp only [decide_eq_true_eq]
    · rw [if_neg hne, show hls (some c) = nI (dsm c) from rfl, ite_le (by omega) (by omega), show lsb dsm (some c) k = decide (dsm k < dsm c) from rfl]
      simp only [decide_eq_true_eq]
      by_cases e : dsm k < dsm c
      · rw [if_pos e, if_neg (by omega)]
      · rw [if_neg e, if_pos (by omega)]
theorem m_hedge (w : WF P V T U H) (h : MR M P V T U H) {x : Nat} (hx : x < V) : f_X9_hedgeOf (nI x) M = some (oldI (hdg P T U H x 1000)) := by
  obtain ⟨D, hD⟩ : ∃ D : Nat → Option Nat, D = hdg P T U H x := ⟨_, rfl⟩
  obtain ⟨N, hN⟩ : ∃ N : Nat, N = 1000 := ⟨_, rfl⟩
  have d0 : D 0 = none := by rw [hD]; rfl
  have ds : ∀ k, D (k + 1) = if lsb dsm (D k) k = true ∧ hE P T U H x k = true then some k else D k := fun k => by rw [hD]; rfl
  have dl : ∀ k c, D k = some c → c < k := fun k c h => by rw [hD] at h; exact lst_lt h
  rw [← hD, ← hN]
  unfold f_X9_hedgeOf
  refine for3c N (fun k (a : Int32) (s : Int32) => a = oldI (D k) ∧ s = hls (D k)) (fun q => q = some (oldI (D N))) ?_ ?_ pv_FU 0 _ _ (Nat.zero_le _) (by show N - 0 < 5000; omega) ⟨by rw [d0]; rfl, by rw [d0]; rfl⟩
  · rintro rec a s ⟨rfl, rfl⟩
    unfold f_X9_hedgeOf_L7
    rw [if_pos (by rw [hN]; decide)]
  · rintro rec k a s hk ⟨rfl, rfl⟩ hrec
    unfold f_X9_hedgeOf_L7
    rw [show (1000 : Int32) = nI 1000 from rfl, if_neg (nI_ge (show k < 1000 by omega) (by decide)), show (100 : Int32) = nI 100 from rfl, show (10 : Int32) = nI 10 from rfl, pk_div (by omega) (by decide) (by decide), pv_nm_eq, pk_rem (by omega) (by decide) (by decide), pk_div (by omega) (by decide) (by decide), pk_rem (by omega) (by decide) (by decide), pv_nm_eq, pv_nm_eq, pv_jn_eq, m_hedged w h hx (show k < 1000 by omega), pv_cap_some, nI_add, nI_add, show k / 100 + k / 10 % 10 + k % 10 = dsm k from rfl, nI_1, pv_nm_eq, (hdg_st (fun c hc => by have := dl k c hc; omega) (show k < 1000 by omega)).2.2]
    have hs := ds k
    by_cases e : lsb dsm (D k) k = true
    · rw [if_pos e]
      by_cases e2 : hE P T U H x k = true
      · rw [bt1 e2]
        exact hrec _ _ (by rw [hs, if_pos ⟨e, e2⟩]; exact ⟨rfl, rfl⟩)
      · rw [bt0 e2]
        exact hrec _ _ (by rw [hs, if_neg (fun q => e2 q.2)]; exact ⟨rfl, rfl⟩)
    · rw [if_neg e]
      exact hrec _ _ (by rw [hs, if_neg (fun q => e q.1)]; exact ⟨rfl, rfl⟩)
theorem x_odds (w : WF P V T U H) (h : XR M.1 P V T U H) {x : Nat} (hx : x < V) : ∃ M', f_X0_fillOdds (nI x) M = some ((), M') ∧ (∀ a c, ¬ (175 ≤ a ∧ a ≤ 178) → M'.1 a c = M.1 a c) ∧ ∀ p, 1 ≤ p → p < P → (∀ u, u < 3 → M'.1 (175 + p) u = iI ((T 0 p u : Nat) - (T 0 0 u : Nat))) ∧ M'.1 (175 + p) 3 = iI (gn T U H 0 p x - gn T U H 0 0 x) := by
  have hw := w.1
  obtain ⟨N, hN⟩ : ∃ N, N = if P = 0 then 1 else P := ⟨_, rfl⟩
  have n1 : 1 ≤ N ∧ P ≤ N ∧ N ≤ 4 ∧ (1 < N → N = P) := by rw [hN]; split <;> omega
  unfold f_X0_fillOdds
  refine for2 N (fun p (S : pv_M) => 1 ≤ p ∧ (∀ a c, ¬ (175 ≤ a ∧ a ≤ 178) → S.1 a c = M.1 a c) ∧ ∀ q, 1 ≤ q → q < p → (∀ u, u < 3 → S.1 (175 + q) u = iI ((T 0 q u : Nat) - (T 0 0 u : Nat))) ∧ S.1 (175 + q) 3 = iI (gn T U H 0 q x - gn T U H 0 0 x)) (fun q => ∃ M' : pv_M, q = some ((), M') ∧ (∀ a c, ¬ (175 ≤ a ∧ a ≤ 178) → M'.1 a c = M.1 a c) ∧ ∀ p, 1 ≤ p → p < P → (∀ u, u < 3 → M'.1 (175 + p) u = iI ((T 0 p u : Nat) - (T 0 0 u : Nat))) ∧ M'.1 (175 + p) 3 = iI (gn T U H 0 p x - gn T U H 0 0 x)) ?_ ?_ pv_FU 1 M n1.1 (by show N - 1 < 5000; omega) ⟨Nat.le_refl _, fun _ _ _ => rfl, fun q h1 h2 => by omega⟩
  · rintro rec S ⟨-, s1, s2⟩
    unfold f_X0_fillOdds_L2
    rw [pv_nm_eq, s1 _ _ (by omega), h.1, if_pos (nI_le n1.2.1 (by omega))]
    exact ⟨S, rfl, s1, fun p h1 h2 => s2 p h1 (by omega)⟩
  · rintro rec p S hp ⟨hp1, s1, s2⟩ hrec
    have hpP : p < P := by omega
    have hX : XR S.1 P V T U H := h.fr (fun a c q => s1 a c (by omega))
    unfold f_X0_fillOdds_L2
    rw [pv_nm_eq, hX.1, if_neg (nI_ge hpP (by omega)), pv_jn_eq]
    refine for2 3 (fun u (S' : pv_M) => (∀ a c, ¬ a = 175 + p → S'.1 a c = S.1 a c) ∧ ∀ z, z < u → S'.1 (175 + p) z = iI ((T 0 p z : Nat) - (T 0 0 z : Nat))) (fun q => ∃ M' : pv_M, q = some ((), M') ∧ (∀ a c, ¬ (175 ≤ a ∧ a ≤ 178) → M'.1 a c = M.1 a c) ∧ ∀ p, 1 ≤ p → p < P → (∀ u, u < 3 → M'.1 (175 + p) u = iI ((T 0 p u : Nat) - (T 0 0 u : Nat))) ∧ M'.1 (175 + p) 3 = iI (gn T U H 0 p x - gn T U H 0 0 x)) ?_ ?_ pv_FU 0 S (Nat.zero_le _) (by decide) ⟨fun _ _ _ => rfl, fun z hz => absurd hz (Nat.not_lt_zero _)⟩
    · rintro rec2 S' ⟨q1, q2⟩
      have hX' : XR S'.1 P V T U H := hX.fr (fun a c q => q1 a c (by omega))
      unfold f_X0_fillOdds_L15
      rw [if_pos (by decide)]
      dsimp only
      rw [lr_174 (by omega), show f_X2_gain (nI x) 0 (nI p) S' = some (iI (gn T U H 0 p x)) from x_gain w hX' (show 0 < 10 by decide) hpP hx, pv_cap_some, show f_X2_gain (nI x) 0 0 S' = some (iI (gn T U H 0 0 x)) from x_gain w hX' (show 0 < 10 by decide) (show 0 < P by omega) hx, pv_cap_some, show (3 : Int32) = nI 3 from rfl, tf_175 (by omega) (by decide), iI_sub, nI_1]
      refine hrec _ ⟨by omega, fun a c q => by rw [fst_u, if_neg (by omega), q1 _ _ (by omega)]; exact s1 a c q, fun y h1 h2 => ?_⟩
      by_cases e : y = p
      · subst e
        exact ⟨fun u hu => by rw [fst_u, if_neg (by omega)]; exact q2 u hu, by rw [fst_u, if_pos ⟨rfl, rfl⟩]⟩
      · obtain ⟨r1, r2⟩ := s2 y h1 (by omega)
        exact ⟨fun u hu => by rw [fst_u, if_neg (by omega), q1 _ _ (by omega)]; exact r1 u hu, by rw [fst_u, if_neg (by omega), q1 _ _ (by omega)]; exact r2⟩
    · rintro rec2 u S' hu ⟨q1, q2⟩ hrec2
      have hX' : XR S'.1 P V T U H := hX.fr (fun a c q => q1 a c (by omega))
      unfold f_X0_fillOdds_L15
      rw [show (3 : Int32) = nI 3 from rfl, if_neg (nI_ge hu (by decide)), lr_174 (by omega), show f_X2_figure 0 (nI p) (nI u) S' = some (nI (T 0 p u)) from x_figure w hX' (show 0 < 10 by decide) hpP hu, pv_cap_some, show f_X2_figure 0 0 (nI u) S' = some (nI (T 0 0 u)) from x_figure w hX' (show 0 < 10 by decide) (show 0 < P by omega) hu, pv_cap_some, ← iI_n (T 0 p u), ← iI_n (T 0 0 u), iI_sub, tf_175 (by omega) (by omega), nI_1]
      refine hrec2 _ ⟨fun a c q => by rw [fst_u, if_neg (by omega)]; exact q1 a c q, fun z hz => ?_⟩
      rw [fst_u]
      by_cases e : z = u
      · subst e
        rw [if_pos ⟨rfl, rfl⟩]
      · rw [if_neg (by omega)]
        exact q2 z (by omega)
theorem x_even (w : WF P V T U H) {S : pv_M} (h : XR S.1 P V T U H) {x a b c : Nat} (hx : x < V) (ha : a < 10) (hb : b < 10) (hc : c < 10) (hO : ∀ p, 1 ≤ p → p < P → (∀ u, u < 3 → S.1 (175 + p) u = iI ((T 0 p u : Nat) - (T 0 0 u : Nat))) ∧ S.1 (175 + p) 3 = iI (gn T U H 0 p x - gn T U H 0 0 x)) : f_X0_isEven (nI a) (nI b) (nI c) S = some (if hE P T U H x (100 * a + 10 * b + c) = true then 1 else 0) := by
  have hw := w.1
  obtain ⟨k, hk⟩ : ∃ k, k = 100 * a + 10 * b + c := ⟨_, rfl⟩
  obtain ⟨d1, d2, d3⟩ := dsm_c (a := a) hb hc
  rw [← hk] at d1 d2 d3 ⊢
  obtain ⟨N, hN⟩ : ∃ N, N = if P = 0 then 1 else P := ⟨_, rfl⟩
  have n1 : 1 ≤ N ∧ P ≤ N ∧ N ≤ 4 ∧ (1 < N → N = P) := by rw [hN]; split <;> omega
  unfold f_X0_isEven
  refine for1 N (fun p => 1 ≤ p ∧ ∀ q, q < p → hA T U H x k q = hA T U H x k 0) (fun q => q = some (if hE P T U H x k = true then 1 else 0)) ?_ ?_ pv_FU 1 n1.1 (by show N - 1 < 5000; omega) ⟨Nat.le_refl _, fun q hq => by rw [show q = 0 by omega]⟩
  · rintro rec ⟨-, h2⟩
    unfold f_X0_isEven_L3
    rw [pv_nm_eq, h.1, if_pos (nI_le n1.2.1 (by omega)), if_pos]
    unfold hE
    rw [al_iff]
    exact fun i hi => decide_eq_true (h2 i (by omega))
  · rintro rec p hp ⟨hp1, h2⟩ hrec
    have hpP : p < P := by omega
    have b1 := hA_sml w hx (show k < 1000 by omega) hpP
    have b0 := hA_sml w hx (show k < 1000 by omega) (show 0 < P by omega)
    obtain ⟨o1, o2⟩ := hO p hp1 hpP
    have e5 : ((nI a * iI ((T 0 p 0 : Nat) - (T 0 0 0 : Nat)) + nI b * iI ((T 0 p 1 : Nat) - (T 0 0 1 : Nat))) + nI c * iI ((T 0 p 2 : Nat) - (T 0 0 2 : Nat))) + iI (gn T U H 0 p x - gn T U H 0 0 x) = iI (hA T U H x k p - hA T U H x k 0) := by
      rw [← iI_n, ← iI_n, ← iI_n, iI_mul, iI_mul, iI_mul, iI_add, iI_add, iI_add]
      unfold hA
      rw [d1, d2, d3, Int.mul_sub, Int.mul_sub, Int.mul_sub]
      congr 1
      omega
    unfold f_X0_isEven_L3
    rw [pv_nm_eq, h.1, if_neg (nI_ge hpP (by omega)), lr_174 (by omega), show (0 : Int32) = nI 0 from rfl, show (1 : Int32) = nI 1 from rfl, show (2 : Int32) = nI 2 from rfl, show (3 : Int32) = nI 3 from rfl, lf_175 (by omega) (by decide), o1 0 (by decide), lf_175 (by omega) (by decide), o1 1 (by decide), lf_175 (by omega) (by decide), o1 2 (by decide), lf_175 (by omega) (by decide), o2, e5, ← iI_n 0, iIf_eq (by omega) (by omega) (by decide) (by decide), nI_add]
    by_cases e : hA T U H x k p = hA T U H x k 0
    · rw [if_pos (by show _ = ((0 : Nat) : Int); omega)]
      exact hrec ⟨by omega, fun q hq => by
        by_cases e2 : q = p
        · rw [e2]; exact e
        · exact h2 q (by omega)⟩
    · rw [if_neg (by show ¬ _ = ((0 : Nat) : Int); omega), if_neg]
      unfold hE
      rw [al_no hpP (decide_eq_false e)]
      decide
theorem x_hedge (w : WF P V T U H) (h : XR M.1 P V T U H) {x : Nat} (hx : x < V) : ∃ M', f_X0_evenHolding (nI x) M = some (oldI (hdg P T U H x 1000), M') ∧ ∀ a c, ¬ (175 ≤ a ∧ a ≤ 178) → M'.1 a c = M.1 a c := by
  obtain ⟨M1, e1, e2, e3⟩ := x_odds w h hx
  have hX : XR M1.1 P V T U H := h.fr (fun a c q => e2 a c (by omega))
  refine ⟨M1, ?_, e2⟩
  unfold f_X0_evenHolding
  rw [e1, pv_cal_some]
  obtain ⟨D, hD⟩ : ∃ D : Nat → Option Nat, D = hdg P T U H x := ⟨_, rfl⟩
  have d0 : D 0 = none := by rw [hD]; rfl
  have ds : ∀ k, D (k + 1) = if lsb dsm (D k) k = true ∧ hE P T U H x k = true then some k else D k := fun k => by rw [hD]; rfl
  have dk : ∀ k m, (∀ j, k ≤ j → j < k + m → lsb dsm (D k) j = false) → D (k + m) = D k := fun k m h => by
    rw [hD] at h ⊢
    exact lst_skip m (fun j h1 h2 => Or.inr (h j h1 h2))
  have hlt : ∀ k, k ≤ 1000 → ∀ c, D k = some c → c < 1000 := fun k hk c hc => by
    rw [hD] at hc
    have := lst_lt (show lst dsm (hE P T U H x) k = some c from hc)
    omega
  rw [← hD]
  refine for3c 10 (fun a (y : Int32) (s : Int32) => y = oldI (D (100 * a)) ∧ s = hls (D (100 * a))) (fun q => q = some (oldI (D 1000), M1)) ?_ ?_ pv_FU 0 _ _ (Nat.zero_le _) (by decide) ⟨by rw [Nat.mul_zero, d0]; rfl, by rw [Nat.mul_zero, d0]; rfl⟩
  · rintro rec y s ⟨rfl, rfl⟩
    unfold f_X0_evenHolding_L12
    rw [if_pos (by decide)]
  · rintro rec a y s ha ⟨rfl, rfl⟩ hrec
    unfold f_X0_evenHolding_L12
    rw [show (9 : Int32) = nI 9 from rfl, if_neg (nI_nlt (show a ≤ 9 by omega) (by decide))]
    refine for3c 10 (fun b (y : Int32) (s : Int32) => y = oldI (D (100 * a + 10 * b)) ∧ s = hls (D (100 * a + 10 * b))) (fun q => q = some (oldI (D 1000), M1)) ?_ ?_ pv_FU 0 _ _ (Nat.zero_le _) (by decide) ⟨rfl, rfl⟩
    · rintro rec2 y s ⟨rfl, rfl⟩
      unfold f_X0_evenHolding_L22
      rw [if_pos (by decide), nI_1]
      exact hrec _ _ ⟨by rw [show 100 * (a + 1) = 100 * a + 10 * 10 by omega], by rw [show 100 * (a + 1) = 100 * a + 10 * 10 by omega]⟩
    · rintro rec2 b y s hb ⟨rfl, rfl⟩ hrec2
      unfold f_X0_evenHolding_L22
      rw [show (9 : Int32) = nI 9 from rfl, if_neg (nI_nlt (show b ≤ 9 by omega) (by decide))]
      refine for3c 10 (fun c (y : Int32) (s : Int32) => y = oldI (D (100 * a + 10 * b + c)) ∧ s = hls (D (100 * a + 10 * b + c))) (fun q => q = some (oldI (D 1000), M1)) ?_ ?_ pv_FU 0 _ _ (Nat.zero_le _) (by decide) ⟨rfl, rfl⟩
      · rintro rec3 y s ⟨rfl, rfl⟩
        unfold f_X0_evenHolding_L32
        rw [if_pos (by decide), nI_1]
        exact hrec2 _ _ ⟨by rw [show 100 * a + 10 * (b + 1) = 100 * a + 10 * b + 10 by omega], by rw [show 100 * a + 10 * (b + 1) = 100 * a + 10 * b + 10 by omega]⟩
      · rintro rec3 c y s hc ⟨rfl, rfl⟩ hrec3
        obtain ⟨d1, d2, d3⟩ := dsm_c (a := a) hb hc
        obtain ⟨k, hk⟩ : ∃ k, k = 100 * a + 10 * b + c := ⟨_, rfl⟩
        have hd : a + b + c = dsm k := by unfold dsm; rw [hk, d1, d2, d3]
        have hev := x_even w hX hx ha hb hc e3
        have hs := ds k
        unfold f_X0_evenHolding_L32
        rw [show (9 : Int32) = nI 9 from rfl, if_neg (nI_nlt (show c ≤ 9 by omega) (by decide)), hev, nI_add, nI_add, pv_nm_eq, pv_jn_eq, pv_cap_some, nI_1, nI_1, show (100 : Int32) = nI 100 from rfl, show (10 : Int32) = nI 10 from rfl, pk_mul, pk_mul, nI_add, nI_add, pv_nm_eq, hd, ← hk, (hdg_st (hlt k (by omega)) (show k < 1000 by omega)).2.1]
        by_cases e : lsb dsm (D k) k = true
        · rw [if_pos e]
          by_cases e2 : hE P T U H x k = true
          · rw [bt1 e2]
            exact hrec3 _ _ (by rw [show 100 * a + 10 * b + (c + 1) = k + 1 by omega, hs, if_pos ⟨e, e2⟩]; exact ⟨rfl, rfl⟩)
          · rw [bt0 e2]
            exact hrec3 _ _ (by rw [show 100 * a + 10 * b + (c + 1) = k + 1 by omega, hs, if_neg (fun q => e2 q.2)]; exact ⟨rfl, rfl⟩)
        · rw [if_neg e]
          have hsk : D (k + (10 - c)) = D k := dk k (10 - c) (fun j h1 h2 => by
            obtain ⟨j', hj⟩ : ∃ j', j = 100 * a + 10 * b + j' := ⟨j - (100 * a + 10 * b), by omega⟩
            obtain ⟨d1', d2', d3'⟩ := dsm_c (a := a) (b := b) (c := j') hb (by omega)
            have hd' : dsm j = a + b + j' := by unfold dsm; rw [hj, d1', d2', d3']
            cases ho : D k with
            | none =>
              exfalso
              apply e
              rw [ho]
              rfl
            | some best =>
              rw [ho] at e
              have e' : ¬ dsm k < dsm best := fun q => e (decide_eq_true q)
              exact decide_eq_false (by omega))
          rw [show k + (10 - c) = 100 * a + 10 * (b + 1) by omega] at hsk
          exact hrec2 _ _ ⟨by rw [hsk], by rw [hsk]⟩
end HD
section HD2
variable {BA : pv_BA} {c v : Nat} {M : pv_M} {n : Nat → Nat} {b : Nat → Nat → Nat} {cn : Nat} {cf : Nat → Nat → Nat} {kn : Nat} {kf : Nat → Nat → Nat} {bn : Nat} {bf : Nat → Nat → Nat} {l d : Nat} {pu ra rb : Nat → Nat} {P V : Nat} {T : Nat → Nat → Nat → Nat} {U : Nat → Nat} {H : Nat → Int}
theorem xs_hedge (K : KS BAo c v M n b cn cf kn kf bn bf l d pu ra rb P V T U H) (hc : c < 900) (x : Nat) (hx8 : x < 8) : ∃ M', f_X8_hedge (nI x) M = some ((if x < V then oldI (hdg P T U H x 1000) else -2), M') ∧ KS BAo c v M' n b cn cf kn kf bn bf l d pu ra rb P V T U H ∧ ∀ a c, ¬ (175 ≤ a ∧ a ≤ 178) → M'.1 a c = M.1 a c := by
  have hV := K.wf.2.1
  unfold f_X8_hedge
  rw [K.settle hc, pv_cal_some, x_isOnRoll K.xr, pv_cap_some]
  by_cases hx : x < V
  · obtain ⟨M1, e1, e2⟩ := x_hedge K.wf K.xr hx
    refine ⟨M1, ?_, K.frB (fun k j q => e2 k j (by omega)) (K.ba.keep (fun a c q => e2 a c (by omega))), e2⟩
    rw [bt1 (by rw [pk_sub (by omega)]; exact ⟨nI_le (Nat.zero_le _) (by omega), nI_le (by omega) (by omega)⟩), e1, pv_cal_some, if_pos hx]
  · refine ⟨M, ?_, K, fun _ _ _ => rfl⟩
    rw [bt0, if_neg hx]
    intro q
    obtain ⟨j, hj, e⟩ := rngm (by omega) q
    have := (nI_eq (by omega) (by omega)).mp e
    omega
theorem ms_hedge (w : WF P V T U H) (h : MR M P V T U H) (x : Nat) (hx8 : x < 8) : (if nI 0 ≤ nI x ∧ nI x ≤ nI V - nI 1 then f_X9_hedgeOf (nI x) M else some (-2)) = some (if x < V then oldI (hdg P T U H x 1000) else -2) := by
  have hV := w.2.1
  by_cases hx : x < V
  · rw [if_pos (by rw [pk_sub (by omega)]; exact ⟨nI_le (Nat.zero_le _) (by omega), nI_le (by omega) (by omega)⟩), if_pos hx, m_hedge w h hx]
  · rw [if_neg, if_neg hx]
    intro q
    obtain ⟨j, hj, e⟩ := rngm (by omega) q
    have := (nI_eq (by omega) (by omega)).mp e
    omega
theorem op_hedge (a1 : Int32) : OP RIo (CAo BAo) (f_X8_hedge a1) (f_X9_hedge a1) := by
  refine OP_of BAo_ok (fun M M1 e1 e2 _ => by unfold f_X8_hedge; rw [e1, e2]) ?_
  intro c v M n b cn cf kn kf bn bf l d pu ra rb P V T U H K hc
  have hV := K.wf.2.1
  by_cases g1 : nI 0 ≤ a1 ∧ a1 ≤ nI V - nI 1
  · obtain ⟨x, hx, rfl⟩ := rngm (by omega) g1
    obtain ⟨M1, e1, K1, -⟩ := xs_hedge K (by omega) x (by omega)
    obtain ⟨M2, y1, y2, y3, y4⟩ := K1.readsT
    rw [if_pos hx] at e1
    refine ⟨_, M1, M2, e1, ?_, (K1.frM BAo_ok y2.M).inv BAo_ok⟩
    unfold f_X9_hedge
    rw [y1, pv_cal_some, m_isVoter y4, pv_cap_some, bt1 g1, m_hedge K.wf y4 hx, pv_cap_some]
  · obtain ⟨M2, y1, y2, y3, y4⟩ := K.readsT
    refine ⟨-2, M, M2, ?_, ?_, (K.frM BAo_ok y2.M).inv BAo_ok⟩
    · unfold f_X8_hedge
      rw [K.settle (by omega), pv_cal_some, x_isOnRoll K.xr, pv_cap_some, bt0 g1]
    · unfold f_X9_hedge
      rw [y1, pv_cal_some, m_isVoter y4, pv_cap_some, bt0 g1]
end HD2
