theorem cnt3 {n p : Nat} {U : Nat → Nat} {A X : Nat → Nat → Nat} {f : Nat → Nat} {g : Nat → Nat} (hU : ∀ v, v < n → U v < 3) (hg : ∀ v, v < n → g v = A (f (U v)) v) : fa_cnt (fun v => decide (U v = 0 ∧ A (f 0) v = p)) n + fa_cnt (fun v => decide (U v = 1 ∧ A (f 1) v = p)) n + fa_cnt (fun v => decide (U v = 2 ∧ A (f 2) v = p)) n = fa_cnt (fun v => decide (g v = p)) n := by
  induction n with
  | zero => rfl
  | succ n ih =>
    have ih' := ih (fun v hv => hU v (by omega)) (fun v hv => hg v (by omega))
    have hn := hU n (by omega)
    have hgn := hg n (by omega)
    rw [cnt_if, cnt_if, cnt_if, cnt_if]
    simp only [decide_eq_true_eq, hgn]
    rcases (show U n = 0 ∨ U n = 1 ∨ U n = 2 by omega) with e | e | e
    · rw [e]
      simp only [true_and, show ¬ (0 : Nat) = 1 by decide, show ¬ (0 : Nat) = 2 by decide, false_and, if_false]
      omega
    · rw [e]
      simp only [true_and, show ¬ (1 : Nat) = 0 by decide, show ¬ (1 : Nat) = 2 by decide, false_and, if_false]
      omega
    · rw [e]
      simp only [true_and, show ¬ (2 : Nat) = 0 by decide, show ¬ (2 : Nat) = 1 by decide, false_and, if_false]
      omega
section XW
variable {BA : pv_BA} {c v : Nat} {M : pv_M} {n : Nat → Nat} {b : Nat → Nat → Nat} {cn : Nat} {cf : Nat → Nat → Nat} {kn : Nat} {kf : Nat → Nat → Nat} {bn : Nat} {bf : Nat → Nat → Nat} {l d : Nat} {pu ra rb : Nat → Nat} {P V : Nat} {T : Nat → Nat → Nat → Nat} {U : Nat → Nat} {H : Nat → Int}
def sup (P : Nat) (T : Nat → Nat → Nat → Nat) (U : Nat → Nat) (H : Nat → Int) (pa x u f p : Nat) : Nat := fa_cnt (fun v => decide (U v = u ∧ chB P T U H pa (fun _ => f) v = p)) x
theorem x_support (w : WF P V T U H) (hX : XR M.1 P V T U H) {pa : Nat} (hpa : pa < P) : ∃ M', f_X0_fillSupport (nI pa) M = some ((), M') ∧ (∀ a c, ¬ (a = 159 ∨ a = 170) → M'.1 a c = M.1 a c) ∧ ∀ u f p, u < 3 → 1 ≤ f → f ≤ 9 → p < 4 → M'.1 170 ((u * 9 + f - 1) * 4 + p) = nI (sup P T U H pa V u f p) := by
  have hw := w.1
  have hw2 := w.2.1
  have hP : 0 < P := by omega
  obtain ⟨M1, e1, -, e3⟩ := x_fill sa_170 0 M
  unfold f_X0_fillSupport
  rw [e1, pv_cal_some]
  refine for2 V (fun x (S : pv_M) => (∀ a c, ¬ (a = 159 ∨ a = 170) → S.1 a c = M.1 a c) ∧ ∀ u f p, u < 3 → 1 ≤ f → f ≤ 9 → p < 4 → S.1 170 ((u * 9 + f - 1) * 4 + p) = nI (sup P T U H pa x u f p)) (fun q => ∃ M' : pv_M, q = some ((), M') ∧ (∀ a c, ¬ (a = 159 ∨ a = 170) → M'.1 a c = M.1 a c) ∧ ∀ u f p, u < 3 → 1 ≤ f → f ≤ 9 → p < 4 → M'.1 170 ((u * 9 + f - 1) * 4 + p) = nI (sup P T U H pa V u f p)) ?_ ?_ pv_FU 0 M1 (Nat.zero_le _) (by show V - 0 < 5000; omega) ⟨fun a c q => by rw [e3, if_neg (by omega)], fun u f p h1 h2 h3 h4 => by rw [e3, if_pos ⟨rfl, by omega⟩]; rfl⟩
  · rintro rec S ⟨s1, s2⟩
    unfold f_X0_fillSupport_L10
    rw [pv_nm_eq, s1 _ _ (by omega), hX.2.1, if_pos (nI_le (Nat.le_refl _) (by omega))]
    exact ⟨S, rfl, s1, s2⟩
  · rintro rec x S hx ⟨s1, s2⟩ hrec
    have hXS : XR S.1 P V T U H := hX.fr (fun a c q => s1 a c (by omega))
    obtain ⟨M3, f1, f2⟩ := x_fillGains w hXS (show 0 < 10 by decide) hx sa_159 (by omega)
    have hux := (w.2.2.2 x hx).1
    have hsup : ∀ u f p, sup P T U H pa (x + 1) u f p = sup P T U H pa x u f p + (if U x = u ∧ chB P T U H pa (fun _ => f) x = p then 1 else 0) := fun u f p => by
      unfold sup
      rw [cnt_if]
      simp only [decide_eq_true_eq]
    unfold f_X0_fillSupport_L10
    rw [pv_nm_eq, hXS.2.1, if_neg (nI_ge hx (by omega)), show f_X2_fillGains (nI x) 0 159 S = some ((), M3) from f1, pv_cal_some]
    refine for2 10 (fun g (S' : pv_M) => 1 ≤ g ∧ (∀ a c, ¬ (a = 159 ∨ a = 170) → S'.1 a c = M.1 a c) ∧ (∀ p, p < P → p ≠ pa → S'.1 159 p = iI (gn T U H 0 p x)) ∧ ∀ u f p, u < 3 → 1 ≤ f → f ≤ 9 → p < 4 → S'.1 170 ((u * 9 + f - 1) * 4 + p) = nI (sup P T U H pa (if f < g then x + 1 else x) u f p)) (fun q => ∃ M' : pv_M, q = some ((), M') ∧ (∀ a c, ¬ (a = 159 ∨ a = 170) → M'.1 a c = M.1 a c) ∧ ∀ u f p, u < 3 → 1 ≤ f → f ≤ 9 → p < 4 → M'.1 170 ((u * 9 + f - 1) * 4 + p) = nI (sup P T U H pa V u f p)) ?_ ?_ pv_FU 1 M3 (by decide) (by decide) ⟨Nat.le_refl _, fun a c q => by rw [f2, if_neg (by omega)]; exact s1 a c q, fun p hp _ => by rw [f2, if_pos ⟨rfl, hp⟩], fun u f p h1 h2 h3 h4 => by rw [f2, if_neg (by omega), if_neg (by omega)]; exact s2 u f p h1 h2 h3 h4⟩
    · rintro rec2 S' ⟨-, q1, q2, q3⟩
      unfold f_X0_fillSupport_L36
      rw [if_pos (by decide), nI_1]
      exact hrec _ ⟨q1, fun u f p h1 h2 h3 h4 => by rw [q3 u f p h1 h2 h3 h4, if_pos (by omega)]⟩
    · rintro rec2 g S' hg ⟨hg1, q1, q2, q3⟩ hrec2
      have hXS' : XR S'.1 P V T U H := hX.fr (fun a c q => q1 a c (by omega))
      have hX5 : XR (pv_u S'.1 159 pa (iI (H x * (g : Nat)))) P V T U H := hXS'.fr (fun a c q => by rw [u_if, if_neg (by omega)])
      have hcl : chB P T U H pa (fun _ => g) x < P := bst_lt _ hP P (Nat.le_refl _)
      have hgr : f_X8_greatest 159 0 (nI P) (-1) (pv_u S'.1 159 pa (iI (H x * (g : Nat))), S'.2) = some (nI (chB P T U H pa (fun _ => g) x)) := x_greatest (g := fun p => gnB T U H pa (fun _ => g) p x) (o := none) (s := 0) sa_159 (by omega) hP (fun i hi => by
        rw [Nat.zero_add, fst_u]
        unfold gnB
        by_cases e : i = pa
        · rw [if_pos ⟨rfl, e⟩, if_pos e]
        · rw [if_neg (fun z => e z.2), if_neg e]
          exact q2 i hi e) (fun i hi => by have := gnB_sml w (pa := pa) (fg := fun _ => g) (fun _ => by omega) hi hx; omega) (fun k q => by cases q)
      have h50 : ((pv_u S'.1 159 pa (iI (H x * (g : Nat))), S'.2) : pv_M).1 39 0 = nI P := hX5.1
      unfold f_X0_fillSupport_L36 f_X0_supportPlace
      rw [show (9 : Int32) = nI 9 from rfl, if_neg (nI_nlt (show g ≤ 9 by omega) (by decide)), x_owed w hXS' hx, pv_cap_some, ← iI_n g, iI_mul, st_159 (by omega), x_unitOf (M := (pv_u S'.1 159 pa (iI (H x * (g : Nat))), S'.2)) w hX5 hx, pv_cap_some, pv_cap_some, pv_nm_eq, h50, hgr, pv_cap_some, iI_n, pk_mul, nI_add, show (1 : Int32) = nI 1 from rfl, pk_sub (by omega), show (4 : Int32) = nI 4 from rfl, pk_mul, nI_add, pv_nm_eq, ld_170 (by omega), fst_u, if_neg (by omega), q3 (U x) g _ hux hg1 (by omega) (by omega), if_neg (Nat.lt_irrefl _), nI_add, st_170 (by omega), nI_add]
      refine hrec2 _ ⟨by omega, fun a c q => by rw [fst_u, if_neg (by omega), fst_u, if_neg (by omega)]; exact q1 a c q, fun p hp hne => by rw [fst_u, if_neg (by omega), fst_u, if_neg (by omega)]; exact q2 p hp hne, fun u f p h1 h2 h3 h4 => ?_⟩
      rw [fst_u]
      by_cases e : u = U x ∧ f = g ∧ p = chB P T U H pa (fun _ => g) x
      · obtain ⟨e1', e2', e3'⟩ := e
        subst e1' e2' e3'
        rw [if_pos ⟨rfl, rfl⟩, if_pos (by omega), hsup, if_pos ⟨rfl, rfl⟩]
      · rw [if_neg (by omega), fst_u, if_neg (by omega), q3 u f p h1 h2 h3 h4]
        by_cases e2 : f < g
        · rw [if_pos e2, if_pos (by omega)]
        · rw [if_neg e2]
          by_cases e4 : f = g
          · rw [if_pos (by omega), hsup, if_neg, Nat.add_zero]
            rintro ⟨z1, z2⟩
            exact e ⟨z1.symm, e4, by rw [← e4]; exact z2.symm⟩
          · rw [if_neg (by omega)]
theorem chB_cong {pa x : Nat} {fg fg' : Nat → Nat} (hP : 0 < P) (h : fg (U x) = fg' (U x)) : chB P T U H pa fg x = chB P T U H pa fg' x := by
  unfold chB
  refine bst_cong hP (fun p hp => ?_) P (Nat.le_refl _)
  unfold gnB
  rw [h]
theorem x_try (w : WF P V T U H) (hX : XR M.1 P V T U H) {pa a b c : Nat} (hpa : pa < P) (ha : 1 ≤ a ∧ a ≤ 9) (hb : 1 ≤ b ∧ b ≤ 9) (hc : 1 ≤ c ∧ c ≤ 9) (hs : ∀ u f p, u < 3 → 1 ≤ f → f ≤ 9 → p < 4 → M.1 170 ((u * 9 + f - 1) * 4 + p) = nI (sup P T U H pa V u f p)) (h2 : M.1 172 pa = oldI (wns P V T U H pa (100 * a + 10 * b + c))) (h3 : M.1 173 pa = lsI (apt T pa) (wns P V T U H pa (100 * a + 10 * b + c))) : ∃ M', f_X0_tryTicket (nI pa) (nI a) (nI b) (nI c) M = some ((), M') ∧ (∀ x y, ¬ (x = 160 ∨ (x = 172 ∧ y = pa) ∨ (x = 173 ∧ y = pa)) → M'.1 x y = M.1 x y) ∧ M'.1 172 pa = oldI (wns P V T U H pa (100 * a + 10 * b + (c + 1))) ∧ M'.1 173 pa = lsI (apt T pa) (wns P V T U H pa (100 * a + 10 * b + (c + 1))) := by
  have hw := w.1
  have hw2 := w.2.1
  have hP : 0 < P := by omega
  obtain ⟨t, ht⟩ : ∃ t, t = 100 * a + 10 * b + c := ⟨_, rfl⟩
  obtain ⟨d1, d2, d3⟩ := dsm_c (a := a) (b := b) (c := c) (by omega) (by omega)
  rw [← ht] at d1 d2 d3 h2 h3
  rw [show 100 * a + 10 * b + (c + 1) = t + 1 by omega]
  have t0 := w.2.2.1 0 pa 0 (by decide) hpa (by decide)
  have t1 := w.2.2.1 0 pa 1 (by decide) hpa (by decide)
  have t2 := w.2.2.1 0 pa 2 (by decide) hpa (by decide)
  have hap : adf a (T 0 pa 0) + adf b (T 0 pa 1) + adf c (T 0 pa 2) = apt T pa t := by unfold apt; rw [d1, d2, d3]
  have hv : vld t = true := decide_eq_true (by omega)
  have hst : wns P V T U H pa (t + 1) = if lsb (apt T pa) (wns P V T U H pa t) t = true ∧ (vld t && elB P V T U H pa t) = true then some t else wns P V T U H pa t := rfl
  rw [hv, Bool.true_and] at hst
  unfold f_X0_tryTicket
  rw [show f_X2_figure 0 (nI pa) 0 M = some (nI (T 0 pa 0)) from x_figure w hX (show 0 < 10 by decide) hpa (show 0 < 3 by decide), show f_X2_figure 0 (nI pa) 1 M = some (nI (T 0 pa 1)) from x_figure w hX (show 0 < 10 by decide) hpa (show 1 < 3 by decide), show f_X2_figure 0 (nI pa) 2 M = some (nI (T 0 pa 2)) from x_figure w hX (show 0 < 10 by decide) hpa (show 2 < 3 by decide), pv_cap_some, pv_nm_eq, pv_cap_some, pv_nm_eq, pv_cap_some, pv_nm_eq, c_abs (by omega) (by omega), c_abs (by omega) (by omega), c_abs (by omega) (by omega), nI_add, nI_add, hap, pv_nm_eq, ld_172 (by omega), h2, pv_jn_eq, ld_173 (by omega), h3, (wns_st w hpa (o := wns P V T U H pa t) (fun c hc => by have := wns_lt hc; omega) (show t < 1000 by omega)).2]
  by_cases e : lsb (apt T pa) (wns P V T U H pa t) t = true
  · rw [if_pos e]
    unfold f_X0_tryTicket_J72
    rw [pv_jn_eq]
    obtain ⟨ch, hch⟩ : ∃ ch : Nat → Nat, ch = chB P T U H pa (fgt t) := ⟨_, rfl⟩
    have htl : ∀ p, sup P T U H pa V 0 a p + sup P T U H pa V 1 b p + sup P T U H pa V 2 c p = cnC V ch p := fun p => by
      have := cnt3 (n := V) (p := p) (U := U) (A := fun f v => chB P T U H pa (fun _ => f) v) (X := fun _ _ => 0) (f := fgt t) (g := ch) (fun v hv => (w.2.2.2 v hv).1) (fun v hv => by rw [hch]; exact chB_cong hP rfl)
      rw [show fgt t 0 = a by unfold fgt; rw [if_pos rfl, d1], show fgt t 1 = b by unfold fgt; rw [if_neg (by decide), if_pos rfl, d2], show fgt t 2 = c by unfold fgt; rw [if_neg (by decide), if_neg (by decide), d3]] at this
      exact this
    refine for2 P (fun p (S : pv_M) => (∀ x y, ¬ x = 160 → S.1 x y = M.1 x y) ∧ ∀ q, q < p → S.1 160 q = nI (cnC V ch q)) (fun q => ∃ M' : pv_M, q = some ((), M') ∧ (∀ x y, ¬ (x = 160 ∨ (x = 172 ∧ y = pa) ∨ (x = 173 ∧ y = pa)) → M'.1 x y = M.1 x y) ∧ M'.1 172 pa = oldI (wns P V T U H pa (t + 1)) ∧ M'.1 173 pa = lsI (apt T pa) (wns P V T U H pa (t + 1))) ?_ ?_ pv_FU 0 M (Nat.zero_le _) (by show P - 0 < 5000; omega) ⟨fun _ _ _ => rfl, fun q hq => absurd hq (Nat.not_lt_zero _)⟩
    · rintro rec S ⟨s1, s2⟩
      have hgr : f_X8_greatest 160 0 (nI P) (-1) S = some (nI (wnr P V ch)) := x_greatest (g := fun p => ((cnC V ch p : Nat) : Int)) (o := none) (s := 0) sa_160 (by omega) hP (fun i hi => by rw [Nat.zero_add, iI_n]; exact s2 i hi) (fun i hi => by have := cn_le (V := V) (ch := ch) (p := i); omega) (fun k q => by cases q)
      have hwl : wnr P V ch < P := bst_lt _ hP P (Nat.le_refl _)
      unfold f_X0_tryTicket_L75
      rw [pv_nm_eq, s1 _ _ (by decide), hX.1, if_pos (nI_le (Nat.le_refl _) (by omega))]
      dsimp only
      rw [pv_nm_eq, s1 _ _ (by decide), hX.1, hgr, pv_cap_some, ite_eq (by omega) (by omega)]
      by_cases e2 : wnr P V ch = pa
      · have he : elB P V T U H pa t = true := decide_eq_true (by rw [← hch]; exact e2)
        rw [if_pos e2, st_172 (by omega), st_173 (by omega), show (100 : Int32) = nI 100 from rfl, show (10 : Int32) = nI 10 from rfl, pk_mul, pk_mul, nI_add, nI_add, ← ht, hst, if_pos ⟨e, he⟩]
        refine ⟨_, rfl, fun x y q => ?_, ?_, ?_⟩
        · rw [fst_u, if_neg (by omega), fst_u, if_neg (by omega)]
          exact s1 x y (by omega)
        · rw [fst_u, if_neg (by omega), fst_u, if_pos ⟨rfl, rfl⟩]
          rfl
        · rw [fst_u, if_pos ⟨rfl, rfl⟩]
          rfl
      · have he : ¬ elB P V T U H pa t = true := fun q => e2 (by rw [hch]; exact of_decide_eq_true q)
        rw [if_neg e2, hst, if_neg (fun q => he q.2)]
        exact ⟨S, rfl, fun x y q => s1 x y (by omega), by rw [s1 _ _ (by decide)]; exact h2, by rw [s1 _ _ (by decide)]; exact h3⟩
    · rintro rec p S hp ⟨s1, s2⟩ hrec
      have pl : ∀ u f, 1 ≤ f → ((nI u * 9 + nI f) - 1) * 4 + nI p = nI ((u * 9 + f - 1) * 4 + p) := fun u f h => by
        rw [show (9 : Int32) = nI 9 from rfl, show (1 : Int32) = nI 1 from rfl, show (4 : Int32) = nI 4 from rfl, pk_mul, nI_add, pk_sub (by omega), pk_mul, nI_add]
      unfold f_X0_tryTicket_L75 f_X0_supportPlace
      rw [pv_nm_eq, s1 _ _ (by decide), hX.1, if_neg (nI_ge hp (by omega)), pv_cap_some, show ((0 * 9 + nI a) - 1) * 4 + nI p = nI ((0 * 9 + a - 1) * 4 + p) from pl 0 a ha.1, ld_170 (by omega), s1 _ _ (by decide), hs 0 a p (by decide) ha.1 ha.2 (by omega), pv_cap_some, show ((1 * 9 + nI b) - 1) * 4 + nI p = nI ((1 * 9 + b - 1) * 4 + p) from pl 1 b hb.1, ld_170 (by omega), s1 _ _ (by decide), hs 1 b p (by decide) hb.1 hb.2 (by omega), pv_cap_some, show ((2 * 9 + nI c) - 1) * 4 + nI p = nI ((2 * 9 + c - 1) * 4 + p) from pl 2 c hc.1, ld_170 (by omega), s1 _ _ (by decide), hs 2 c p (by decide) hc.1 hc.2 (by omega), nI_add, nI_add, htl, st_160 (by omega), nI_1]
      refine hrec _ ⟨fun x y q => by rw [fst_u, if_neg (by omega)]; exact s1 x y q, fun q hq => ?_⟩
      rw [fst_u]
      by_cases e2 : q = p
      · rw [if_pos ⟨rfl, e2⟩, e2]
      · rw [if_neg (fun z => e2 z.2)]
        exact s2 q (by omega)
  · rw [if_neg e, hst, if_neg (fun q => e q.1)]
    exact ⟨M, rfl, fun _ _ _ => rfl, h2, h3⟩
theorem x_findWin (K : KS BAo c v M n b cn cf kn kf bn bf l d pu ra rb P V T U H) (hc : c < 900) {pa : Nat} (hpa : pa < P) : ∃ M', f_X0_findWin (nI pa) M = some ((), M') ∧ KS BAo c v M' n b cn cf kn kf bn bf l d pu ra rb P V T U H ∧ (∀ x y, ¬ (x = 159 ∨ x = 160 ∨ (170 ≤ x ∧ x ≤ 173)) → M'.1 x y = M.1 x y) ∧ M'.1 172 pa = oldI (wns P V T U H pa 1000) ∧ M'.1 173 pa = lsI (apt T pa) (wns P V T U H pa 1000) := by
  have hX := K.xr
  have w := K.wf
  have hw := w.1
  obtain ⟨v1, v2, v3⟩ := K.ver
  obtain ⟨hrs, hwn⟩ := K.ba
  obtain ⟨a, a1, a2, a3⟩ := hwn pa (by omega)
  have h111 : wns P V T U H pa 111 = none := by
    have := wns_skip (P := P) (V := V) (T := T) (U := U) (H := H) (pa := pa) (k := 0) 111 (fun j h1 h2 => decide_eq_false (by omega))
    rw [Nat.zero_add] at this
    rw [this]
    rfl
  unfold f_X0_findWin
  rw [ld_171 (by omega), a2, pv_nm_eq, v3, ite_eq (by omega) (by omega)]
  by_cases e : a = v
  · rw [if_pos e]
    obtain ⟨q1, q2⟩ := a3 e v2 hpa
    exact ⟨M, rfl, K, fun _ _ _ => rfl, q1, q2⟩
  · rw [if_neg e, pv_nm_eq, st_171 (by omega), st_172 (by omega), st_173 (by omega)]
    obtain ⟨N, hN⟩ : ∃ N : pv_M, N = (pv_u (pv_u (pv_u M.1 171 pa (nI v)) 172 pa (-1)) 173 pa (-1), M.2) := ⟨_, rfl⟩
    have hNc : ∀ x y, N.1 x y = if x = 173 ∧ y = pa then -1 else if x = 172 ∧ y = pa then -1 else if x = 171 ∧ y = pa then nI v else M.1 x y := fun x y => by rw [hN, fst_u, u_if, u_if]
    have hXN : XR N.1 P V T U H := hX.fr (fun x y q => by rw [hNc, if_neg (by omega), if_neg (by omega), if_neg (by omega)])
    obtain ⟨M4, e1, e2, e3⟩ := x_support w hXN hpa
    dsimp only
    rw [← hN, e1, pv_cal_some]
    have hsk : ∀ k m k', k + m = k' → (∀ j, k ≤ j → j < k + m → vld j = false) → wns P V T U H pa k' = wns P V T U H pa k := fun k m k' hk h => by rw [← hk]; exact wns_skip m h
    obtain ⟨G, hG⟩ : ∃ G : Nat → pv_M → Prop, G = fun k S => (∀ x y, ¬ (x = 160 ∨ (x = 172 ∧ y = pa) ∨ (x = 173 ∧ y = pa)) → S.1 x y = M4.1 x y) ∧ S.1 172 pa = oldI (wns P V T U H pa k) ∧ S.1 173 pa = lsI (apt T pa) (wns P V T U H pa k) := ⟨_, rfl⟩
    have key : ∃ M', pv_lp2 (f_X0_findWin_L51 (nI pa)) pv_FU 1 M4 = some ((), M') ∧ G 1000 M' := by
      refine for2 10 (fun i (S : pv_M) => 1 ≤ i ∧ G (100 * i + 11) S) (fun q => ∃ M', q = some ((), M') ∧ G 1000 M') ?_ ?_ pv_FU 1 M4 (by decide) (by decide) ⟨Nat.le_refl _, by
        rw [hG]
        refine ⟨fun _ _ _ => rfl, ?_, ?_⟩
        · rw [e2 _ _ (by omega), hNc, if_neg (by omega), if_pos ⟨rfl, rfl⟩]
          show -1 = oldI (wns P V T U H pa 111)
          rw [h111]
          rfl
        · rw [e2 _ _ (by omega), hNc, if_pos ⟨rfl, rfl⟩]
          show -1 = lsI (apt T pa) (wns P V T U H pa 111)
          rw [h111]
          rfl⟩
      · rintro rec S ⟨-, s1⟩
        unfold f_X0_findWin_L51
        rw [if_pos (by decide)]
        refine ⟨S, rfl, ?_⟩
        rw [hG] at s1 ⊢
        rw [hsk 1000 11 (100 * 10 + 11) (by omega) (fun j h1 h2 => decide_eq_false (by omega))] at s1
        exact s1
      · rintro rec i S hi ⟨hi1, s1⟩ hrec
        unfold f_X0_findWin_L51
        rw [show (9 : Int32) = nI 9 from rfl, if_neg (nI_nlt (show i ≤ 9 by omega) (by decide))]
        refine for2 10 (fun j (S : pv_M) => 1 ≤ j ∧ G (100 * i + 10 * j + 1) S) (fun q => ∃ M', q = some ((), M') ∧ G 1000 M') ?_ ?_ pv_FU 1 S (by decide) (by decide) ⟨Nat.le_refl _, s1⟩
        · rintro rec2 S ⟨-, s1⟩
          unfold f_X0_findWin_L59
          rw [if_pos (by decide), nI_1]
          refine hrec _ ⟨by omega, ?_⟩
          rw [hG] at s1 ⊢
          rw [← hsk (100 * i + 10 * 10 + 1) 10 (100 * (i + 1) + 11) (by omega) (fun j h1 h2 => decide_eq_false (by omega))] at s1
          exact s1
        · rintro rec2 j S hj ⟨hj1, s1⟩ hrec2
          unfold f_X0_findWin_L59
          rw [show (9 : Int32) = nI 9 from rfl, if_neg (nI_nlt (show j ≤ 9 by omega) (by decide))]
          refine for2 10 (fun k (S : pv_M) => 1 ≤ k ∧ G (100 * i + 10 * j + k) S) (fun q => ∃ M', q = some ((), M') ∧ G 1000 M') ?_ ?_ pv_FU 1 S (by decide) (by decide) ⟨Nat.le_refl _, s1⟩
          · rintro rec3 S ⟨-, s1⟩
            unfold f_X0_findWin_L68
            rw [if_pos (by decide), nI_1]
            refine hrec2 _ ⟨by omega, ?_⟩
            rw [hG] at s1 ⊢
            rw [← hsk (100 * i + 10 * j + 10) 1 (100 * i + 10 * (j + 1) + 1) (by omega) (fun j h1 h2 => decide_eq_false (by omega))] at s1
            exact s1
          · rintro rec3 k S hk ⟨hk1, s1⟩ hrec3
            rw [hG] at s1
            obtain ⟨g1, g2, g3⟩ := s1
            have hXS : XR S.1 P V T U H := hXN.fr (fun x y q => by rw [g1 _ _ (by omega)]; exact e2 x y (by omega))
            obtain ⟨M8, t1, t2, t3, t4⟩ := x_try w hXS hpa (a := i) (b := j) (c := k) (by omega) (by omega) (by omega) (fun u f p h1 h2 h3 h4 => by rw [g1 _ _ (by omega)]; exact e3 u f p h1 h2 h3 h4) g2 g3
            unfold f_X0_findWin_L68
            rw [show (9 : Int32) = nI 9 from rfl, if_neg (nI_nlt (show k ≤ 9 by omega) (by decide)), t1, pv_cal_some, nI_1]
            refine hrec3 _ ⟨by omega, ?_⟩
            rw [hG]
            exact ⟨fun x y q => by rw [t2 x y q]; exact g1 x y q, t3, t4⟩
    obtain ⟨M', k1, k2⟩ := key
    rw [hG] at k2
    obtain ⟨k2, k3, k4⟩ := k2
    have hF : ∀ x y, ¬ (x = 159 ∨ x = 160 ∨ (170 ≤ x ∧ x ≤ 173)) → M'.1 x y = M.1 x y := fun x y q => by
      rw [k2 _ _ (by omega), e2 _ _ (by omega), hNc, if_neg (by omega), if_neg (by omega), if_neg (by omega)]
    have hF2 : ∀ x y, 171 ≤ x → x ≤ 173 → y ≠ pa → M'.1 x y = M.1 x y := fun x y q1 q2 q3 => by
      rw [k2 _ _ (by omega), e2 _ _ (by omega), hNc, if_neg (by omega), if_neg (by omega), if_neg (by omega)]
    have h171 : M'.1 171 pa = nI v := by rw [k2 _ _ (by omega), e2 _ _ (by omega), hNc, if_neg (by omega), if_neg (by omega), if_pos ⟨rfl, rfl⟩]
    refine ⟨M', k1, K.frB (fun x y q => hF x y (by omega)) ⟨?_, fun p hp => ?_⟩, hF, k3, k4⟩
    · obtain ⟨z, z1, z2, z3⟩ := hrs
      exact ⟨z, z1, by rw [hF _ _ (by omega)]; exact z2, fun q1 q2 q3 => by rw [hF _ _ (by omega)]; exact z3 q1 q2 q3⟩
    · by_cases ep : p = pa
      · rw [ep]
        exact ⟨v, Nat.le_refl _, h171, fun _ _ _ => ⟨k3, k4⟩⟩
      · obtain ⟨z, z1, z2, z3⟩ := hwn p hp
        exact ⟨z, z1, by rw [hF2 _ _ (by omega) (by omega) ep]; exact z2, fun q1 q2 q3 => by rw [hF2 172 _ (by omega) (by omega) ep, hF2 173 _ (by omega) (by omega) ep]; exact z3 q1 q2 q3⟩
def wnV (P V : Nat) (T : Nat → Nat → Nat → Nat) (U : Nat → Nat) (H : Nat → Int) (pa x : Nat) : Int32 := if x = 0 then oldI (wns P V T U H pa 1000) else lsI (apt T pa) (wns P V T U H pa 1000)
theorem xs_wins (K : KS BAo c v M n b cn cf kn kf bn bf l d pu ra rb P V T U H) (hc : c < 900) {pa x : Nat} (hpa : pa < P) (hx : x < 2) : ∃ M', f_X8_wins (nI pa) (nI x) M = some (wnV P V T U H pa x, M') ∧ KS BAo c v M' n b cn cf kn kf bn bf l d pu ra rb P V T U H ∧ ∀ x y, ¬ (x = 159 ∨ x = 160 ∨ (170 ≤ x ∧ x ≤ 173)) → M'.1 x y = M.1 x y := by
  have hw := K.wf.1
  obtain ⟨M1, e1, K1, e2, e3, e4⟩ := x_findWin K hc hpa
  refine ⟨M1, ?_, K1, e2⟩
  unfold f_X8_wins f_X0_winningTicket f_X0_winningUnlikeness wnV
  rw [K.settle hc, pv_cal_some, x_isParty K.xr, pv_cap_some, bt1 (by rw [pk_sub (by omega)]; exact ⟨nI_le (Nat.zero_le _) (by omega), nI_le (by omega) (by omega)⟩), w_0_1, pv_cap_some, bt1 ⟨nI_le (Nat.zero_le _) (by omega), nI_le (show x ≤ 1 by omega) (by decide)⟩, e1, pv_cal_some, pv_cal_some, ld_172 (by omega), ld_173 (by omega), e3, e4, pv_cal_some, pv_cal_some, ite_eq0 (by omega)]
  split <;> rfl
theorem op_wins (a1 a2 : Int32) : OP RIo (CAo BAo) (f_X8_wins a1 a2) (f_X9_wins a1 a2) := by
  refine OP_of BAo_ok (fun M M1 e1 e2 _ => by unfold f_X8_wins; rw [e1, e2]) ?_
  intro c v M n b cn cf kn kf bn bf l d pu ra rb P V T U H K hc
  have hw := K.wf.1
  by_cases g1 : nI 0 ≤ a1 ∧ a1 ≤ nI P - nI 1
  · by_cases g2 : nI 0 ≤ a2 ∧ a2 ≤ nI 1
    · obtain ⟨pa, hpa, rfl⟩ := rngm (by omega) g1
      obtain ⟨x, hx, rfl⟩ := rng (by decide) g2
      obtain ⟨M1, e1, K1, -⟩ := xs_wins K (by omega) hpa (show x < 2 by omega)
      obtain ⟨M2, y1, y2, y3, y4⟩ := K1.readsT
      have K2 := K1.frM BAo_ok y2.M
      obtain ⟨M3, f1, f2, f3, f4⟩ := m_wish K.wf y4 hpa
      refine ⟨_, M1, M3, e1, ?_, (K2.frM BAo_ok (fun k j q => f2 k j (fun z => q (by unfold PM; omega)))).inv BAo_ok⟩
      unfold f_X9_wins wnV
      rw [y1, pv_cal_some, m_isParty y4, pv_cap_some, bt1 g1, mg_isTwo, pv_cap_some, bt1 g2, f1, pv_cal_some]
      rcases (show x = 0 ∨ x = 1 by omega) with rfl | rfl
      · rw [ld_215 (by decide), f3, if_pos rfl]
      · rw [ld_215 (by decide), f4, if_neg (by decide)]
    · obtain ⟨M2, y1, y2, y3, y4⟩ := K.readsT
      refine ⟨-2, M, M2, ?_, ?_, (K.frM BAo_ok y2.M).inv BAo_ok⟩
      · unfold f_X8_wins
        rw [K.settle (by omega), pv_cal_some, x_isParty K.xr, pv_cap_some, bt1 g1, w_0_1, pv_cap_some, bt0 g2]
      · unfold f_X9_wins
        rw [y1, pv_cal_some, m_isParty y4, pv_cap_some, bt1 g1, mg_isTwo, pv_cap_some, bt0 g2]
  · obtain ⟨M2, y1, y2, y3, y4⟩ := K.readsT
    refine ⟨-2, M, M2, ?_, ?_, (K.frM BAo_ok y2.M).inv BAo_ok⟩
    · unfold f_X8_wins
      rw [K.settle (by omega), pv_cal_some, x_isParty K.xr, pv_cap_some, bt0 g1]
    · unfold f_X9_wins
      rw [y1, pv_cal_some, m_isParty y4, pv_cap_some, bt0 g1]
end XW
