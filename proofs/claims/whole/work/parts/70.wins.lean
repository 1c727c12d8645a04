theorem c_abs {a b : Nat} (ha : a < 1000) (hb : b < 1000) : (if 0 ≤ nI a - nI b then nI a - nI b else 0 - (nI a - nI b)) = nI (adf a b) := by
  unfold adf
  by_cases h : a < b
  · have hn : nI a - nI b < 0 := pk_sneg (by omega) h
    rw [if_pos h, if_neg (by rw [fa_lt] at hn; rw [fa_le]; omega), Int32.zero_sub, Int32.neg_sub, pk_sub (by omega)]
  · rw [if_neg h, pk_sub (by omega), if_pos (nI_pos' (by omega))]
theorem m_amt {a b : Nat} (ha : a < 1000) (hb : b < 1000) (M : pv_M) : f_X9_amount (nI a - nI b) M = some (nI (adf a b)) := by
  rw [← c_abs ha hb]
  unfold f_X9_amount
  rw [Int32.zero_sub]
  split <;> rfl
theorem adf_le {a b : Nat} (ha : a ≤ 10) (hb : b ≤ 10) : adf a b ≤ 10 := by unfold adf; split <;> omega
theorem fgt_le {t u : Nat} (ht : t < 1000) : fgt t u ≤ 9 := by
  unfold fgt
  split
  · omega
  · split <;> omega
section WN
variable {BA : pv_BA} {c v : Nat} {M : pv_M} {n : Nat → Nat} {b : Nat → Nat → Nat} {cn : Nat} {cf : Nat → Nat → Nat} {kn : Nat} {kf : Nat → Nat → Nat} {bn : Nat} {bf : Nat → Nat → Nat} {l d : Nat} {pu ra rb : Nat → Nat} {P V : Nat} {T : Nat → Nat → Nat → Nat} {U : Nat → Nat} {H : Nat → Int}
theorem gnB_sml (w : WF P V T U H) {pa : Nat} {fg : Nat → Nat} (hf : ∀ u, fg u ≤ 9) {p x : Nat} (hp : p < P) (hx : x < V) : -81 ≤ gnB T U H pa fg p x ∧ gnB T U H pa fg p x ≤ 81 := by
  unfold gnB
  by_cases e : p = pa
  · rw [if_pos e]
    obtain ⟨u1, u2, u3⟩ := w.2.2.2 x hx
    have h9 := hf (U x)
    generalize fg (U x) = f at h9
    generalize H x = h at u2 u3
    have hf0 : (0 : Int) ≤ (f : Nat) := by omega
    constructor
    · have : (-9) * (f : Int) ≤ h * f := Int.mul_le_mul_of_nonneg_right u2 hf0
      omega
    · have : h * (f : Int) ≤ 9 * f := Int.mul_le_mul_of_nonneg_right u3 hf0
      omega
  · rw [if_neg e]
    exact gn_sml w (by decide) hp hx
theorem m_gainBy (w : WF P V T U H) (h : MR M P V T U H) {pa t p x : Nat} (hpa : pa < 4) (ht : t < 1000) (hp : p < P) (hx : x < V) : f_X9_gainBy (nI pa) (nI t) (nI p) (nI x) M = some (iI (gnB T U H pa (fgt t) p x)) := by
  obtain ⟨z1, z2, z3, z4⟩ := h M SM.rf
  have hw := w.1
  obtain ⟨u1, u2, u3⟩ := w.2.2.2 x hx
  unfold f_X9_gainBy
  rw [(z4 x hx).1, pv_cap_some, pv_jn_eq, show (100 : Int32) = nI 100 from rfl, show (10 : Int32) = nI 10 from rfl, pk_div (by omega) (by decide) (by decide), pk_rem (by omega) (by decide) (by decide), pk_div (by omega) (by decide) (by decide), pk_rem (by omega) (by decide) (by decide), ite_eq0 (by omega), show (1 : Int32) = nI 1 from rfl, ite_eq (by omega) (by decide)]
  have key : ∀ g : Nat, g = fgt t (U x) → (if nI p = nI pa then pv_cap (f_X9_holds (nI x) M) (fun x4 => some (x4 * nI g)) else pv_cap (f_X9_gain 0 (nI p) (nI x) M) (fun x3 => some x3)) = some (iI (gnB T U H pa (fgt t) p x)) := by
    rintro g rfl
    unfold gnB
    rw [ite_eq (by omega) (by omega)]
    by_cases e : p = pa
    · rw [if_pos e, if_pos e, (z4 x hx).2, pv_cap_some, ← iI_n, iI_mul]
    · rw [if_neg e, if_neg e, show f_X9_gain 0 (nI p) (nI x) M = some (iI (gn T U H 0 p x)) from m_gain w h (show 0 < 10 by decide) hp hx, pv_cap_some]
  by_cases e0 : U x = 0
  · rw [if_pos e0]
    exact key _ (by unfold fgt; rw [if_pos e0])
  · rw [if_neg e0]
    by_cases e1 : U x = 1
    · rw [if_pos e1]
      exact key _ (by unfold fgt; rw [if_neg e0, if_pos e1])
    · rw [if_neg e1]
      exact key _ (by unfold fgt; rw [if_neg e0, if_neg e1])
theorem m_electedBy (w : WF P V T U H) (h : MR M P V T U H) {pa t : Nat} (hpa : pa < P) (ht : t < 1000) : ∃ M', f_X9_isElectedBy (nI pa) (nI t) M = some ((if elB P V T U H pa t = true then 1 else 0), M') ∧ ∀ a c, ¬ (a = 213 ∨ a = 214) → M'.1 a c = M.1 a c := by
  have hw := w.1
  have hw2 := w.2.1
  have hP : 0 < P := by omega
  obtain ⟨z1, z2, z3, z4⟩ := h M SM.rf
  unfold f_X9_isElectedBy
  rw [pv_jn_eq]
  refine for2 V (fun x (S : pv_M) => (∀ a c, a ≠ 214 → S.1 a c = M.1 a c) ∧ ∀ y, y < x → S.1 214 y = nI (chB P T U H pa (fgt t) y)) (fun q => ∃ M' : pv_M, q = some ((if elB P V T U H pa t = true then 1 else 0), M') ∧ ∀ a c, ¬ (a = 213 ∨ a = 214) → M'.1 a c = M.1 a c) ?_ ?_ pv_FU 0 M (Nat.zero_le _) (by show V - 0 < 5000; omega) ⟨fun _ _ _ => rfl, fun y hy => absurd hy (Nat.not_lt_zero _)⟩
  · rintro rec S ⟨s1, s2⟩
    unfold f_X9_isElectedBy_L2
    rw [show pv_ldI pv_T 203 1 S = fun f => pv_ldI pv_T 203 (nI 1) S f from rfl]
    dsimp only
    rw [ld_203 (by decide), s1 _ _ (by decide), z2, if_pos (nI_le (Nat.le_refl _) (by omega))]
    obtain ⟨M2, f1, f2⟩ := m_most (M := S) w hP (by rw [s1 _ _ (by decide)]; exact z1) (by rw [s1 _ _ (by decide)]; exact z2) (ch := chB P T U H pa (fgt t)) (fun y hy => ⟨s2 y hy, bst_lt _ hP P (Nat.le_refl _)⟩)
    have hwl : wnr P V (chB P T U H pa (fgt t)) < P := bst_lt _ hP P (Nat.le_refl _)
    rw [f1, pv_cal_some, ite_eq (by omega) (by omega)]
    refine ⟨M2, ?_, fun a c q => by rw [f2 a c (by omega)]; exact s1 a c (by omega)⟩
    unfold elB
    simp only [decide_eq_true_eq]
    split <;> rfl
  · rintro rec x S hx ⟨s1, s2⟩ hrec
    unfold f_X9_isElectedBy_L2
    rw [show pv_ldI pv_T 203 1 S = fun f => pv_ldI pv_T 203 (nI 1) S f from rfl]
    dsimp only
    rw [ld_203 (by decide), s1 _ _ (by decide), z2, if_neg (nI_ge hx (by omega)), st_214 (by omega)]
    obtain ⟨g, hg⟩ : ∃ g : Nat → Int, g = fun p => gnB T U H pa (fgt t) p x := ⟨_, rfl⟩
    refine for2 P (fun p (S' : pv_M) => 1 ≤ p ∧ (∀ a c, ¬ (a = 214 ∧ c = x) → S'.1 a c = S.1 a c) ∧ S'.1 214 x = nI (bst g 0 p)) (fun q => ∃ M' : pv_M, q = some ((if elB P V T U H pa t = true then 1 else 0), M') ∧ ∀ a c, ¬ (a = 213 ∨ a = 214) → M'.1 a c = M.1 a c) ?_ ?_ pv_FU 1 _ hP (by show P - 1 < 5000; omega) ⟨Nat.le_refl _, fun a c q => by rw [fst_u, if_neg q], by rw [fst_u, if_pos ⟨rfl, rfl⟩]; show nI 0 = nI (if _ then 0 else 0); rw [ite_self]⟩
    · rintro rec2 S' ⟨-, q1, q2⟩
      unfold f_X9_isElectedBy_L22
      rw [show pv_ldI pv_T 203 0 S' = fun f => pv_ldI pv_T 203 (nI 0) S' f from rfl]
      dsimp only
      rw [ld_203 (by decide), q1 _ _ (by omega), s1 _ _ (by decide), z1, if_pos (nI_le (Nat.le_refl _) (by omega)), nI_1]
      refine hrec _ ⟨fun a c q => by rw [q1 _ _ (by omega)]; exact s1 a c q, fun y hy => ?_⟩
      by_cases e : y = x
      · rw [e, q2, hg]
        rfl
      · rw [q1 _ _ (by omega)]
        exact s2 y (by omega)
    · rintro rec2 p S' hp ⟨hp1, q1, q2⟩ hrec2
      have hS' : MR S' P V T U H := h.fr (fun a c q => by rw [q1 _ _ (by omega)]; exact s1 a c (by omega))
      have hb := bst_lt g hP p (by omega)
      have b1 := gnB_sml w (pa := pa) (fg := fgt t) (fun u => fgt_le (u := u) ht) hp hx
      have b2 := gnB_sml w (pa := pa) (fg := fgt t) (fun u => fgt_le (u := u) ht) hb hx
      unfold f_X9_isElectedBy_L22
      rw [show pv_ldI pv_T 203 0 S' = fun f => pv_ldI pv_T 203 (nI 0) S' f from rfl]
      dsimp only
      rw [ld_203 (by decide), (hS' S' SM.rf).1, if_neg (nI_ge hp (by omega)), m_gainBy w hS' (by omega) ht hp hx, pv_cap_some, ld_214 (by omega), q2, m_gainBy w hS' (by omega) ht hb hx, pv_cap_some, pv_jn_eq, iIf_le (by omega) (by omega) (by omega) (by omega), ld_214 (by omega), q2, nI_1]
      have hbs : bst g 0 (p + 1) = if g (bst g 0 p) < g p then p else bst g 0 p := rfl
      by_cases e : gnB T U H pa (fgt t) (bst g 0 p) x < gnB T U H pa (fgt t) p x
      · rw [if_neg (by omega)]
        dsimp only
        rw [st_214 (by omega)]
        refine hrec2 _ ⟨by omega, fun a c q => by rw [fst_u, if_neg q]; exact q1 a c q, ?_⟩
        rw [fst_u, if_pos ⟨rfl, rfl⟩, hbs, if_pos (by rw [hg]; rw [hg] at e; exact e)]
      · rw [if_pos (by omega)]
        dsimp only
        rw [st_214 (by omega)]
        refine hrec2 _ ⟨by omega, fun a c q => by rw [fst_u, if_neg q]; exact q1 a c q, ?_⟩
        rw [fst_u, if_pos ⟨rfl, rfl⟩, hbs, if_neg (by rw [hg]; rw [hg] at e; exact e)]
theorem wns_lt {pa k t : Nat} (h : wns P V T U H pa k = some t) : t < k := lst_lt h
theorem wns_skip {pa k : Nat} (m : Nat) (h : ∀ j, k ≤ j → j < k + m → vld j = false) : wns P V T U H pa (k + m) = wns P V T U H pa k := lst_skip m (fun j h1 h2 => Or.inl (by rw [h j h1 h2, Bool.false_and]))
theorem apt_le (w : WF P V T U H) {pa t : Nat} (hpa : pa < P) (ht : t < 1000) : apt T pa t ≤ 30 := by
  have t0 := w.2.2.1 0 pa 0 (by decide) hpa (by decide)
  have t1 := w.2.2.1 0 pa 1 (by decide) hpa (by decide)
  have t2 := w.2.2.1 0 pa 2 (by decide) hpa (by decide)
  have a0 := adf_le (a := t / 100) (b := T 0 pa 0) (by omega) (by omega)
  have a1 := adf_le (a := t / 10 % 10) (b := T 0 pa 1) (by omega) (by omega)
  have a2 := adf_le (a := t % 10) (b := T 0 pa 2) (by omega) (by omega)
  unfold apt
  omega
theorem wns_st (w : WF P V T U H) {pa : Nat} (hpa : pa < P) {o : Option Nat} (ho : ∀ c, o = some c → c < 1000) {k : Nat} (hk : k < 1000) : (∀ {ρ : Type} (A B : ρ), (if lsI (apt T pa) o = -1 then A else (if lsI (apt T pa) o ≤ nI (apt T pa k) then B else A)) = if lsb (apt T pa) o k = true then A else B) ∧ (∀ {ρ : Type} (A B : ρ), (if oldI o = -1 then A else (if nI (apt T pa k) < lsI (apt T pa) o then A else B)) = if lsb (apt T pa) o k = true then A else B) := by
  cases o with
  | none => exact ⟨fun A B => by rw [if_pos (show lsI (apt T pa) none = -1 from rfl), if_pos (show lsb (apt T pa) none k = true from rfl)], fun A B => by rw [if_pos (show oldI none = -1 from rfl), if_pos (show lsb (apt T pa) none k = true from rfl)]⟩
  | some c =>
    have hc := ho c rfl
    have hd := apt_le w hpa hc
    have hd2 := apt_le w hpa hk
    have hne : ¬ lsI (apt T pa) (some c) = -1 := m1_ne (i := apt T pa c) (by omega)
    have hne2 : ¬ oldI (some c) = -1 := m1_ne (i := c) (by omega)
    refine ⟨fun A B => ?_, fun A B => ?_⟩
    · rw [if_neg hne, show lsI (apt T pa) (some c) = nI (apt T pa c) from rfl, ite_le (by omega) (by omega), show lsb (apt T pa) (some c) k = decide (apt T pa k < apt T pa c) from rfl]
      simp only [decide_eq_true_eq]
      by_cases e : apt T pa k < apt T pa c
      · rw [if_pos e, if_neg (by omega)]
      · rw [if_neg e, if_pos (by omega)]
    · rw [if_neg hne2, show lsI (apt T pa) (some c) = nI (apt T pa c) from rfl, ite_lt (by omega) (by omega), show lsb (apt T pa) (some c) k = decide (apt T pa k < apt T pa c) from rfl]
      simp only [decide_eq_true_eq]
theorem m_wish (w : WF P V T U H) (h : MR M P V T U H) {pa : Nat} (hpa : pa < P) : ∃ M', f_X9_findWish (nI pa) M = some ((), M') ∧ (∀ a c, ¬ (213 ≤ a ∧ a ≤ 215) → M'.1 a c = M.1 a c) ∧ M'.1 215 0 = oldI (wns P V T U H pa 1000) ∧ M'.1 215 1 = lsI (apt T pa) (wns P V T U H pa 1000) := by
  have hw := w.1
  obtain ⟨z1, z2, z3, z4⟩ := h M SM.rf
  have h111 : wns P V T U H pa 111 = none := by
    have := wns_skip (P := P) (V := V) (T := T) (U := U) (H := H) (pa := pa) (k := 0) 111 (fun j h1 h2 => decide_eq_false (by omega))
    rw [Nat.zero_add] at this
    rw [this]
    rfl
  unfold f_X9_findWish
  rw [show (0 : Int32) = nI 0 from rfl, st_215 (by decide), show (1 : Int32) = nI 1 from rfl, st_215 (by decide)]
  refine for2 1000 (fun k (S : pv_M) => 111 ≤ k ∧ (∀ a c, ¬ (213 ≤ a ∧ a ≤ 215) → S.1 a c = M.1 a c) ∧ S.1 215 0 = oldI (wns P V T U H pa k) ∧ S.1 215 1 = lsI (apt T pa) (wns P V T U H pa k)) (fun q => ∃ M' : pv_M, q = some ((), M') ∧ (∀ a c, ¬ (213 ≤ a ∧ a ≤ 215) → M'.1 a c = M.1 a c) ∧ M'.1 215 0 = oldI (wns P V T U H pa 1000) ∧ M'.1 215 1 = lsI (apt T pa) (wns P V T U H pa 1000)) ?_ ?_ pv_FU 111 _ (by decide) (by decide) ⟨Nat.le_refl _, fun a c q => by rw [fst_u, if_neg (by omega), fst_u, if_neg (by omega)], by rw [fst_u, if_neg (by omega), fst_u, if_pos ⟨rfl, rfl⟩, h111]; rfl, by rw [fst_u, if_pos ⟨rfl, rfl⟩, h111]; rfl⟩
  · rintro rec S ⟨-, s1, s2, s3⟩
    unfold f_X9_findWish_L17
    rw [if_pos (by decide)]
    exact ⟨S, rfl, s1, s2, s3⟩
  · rintro rec k S hk ⟨hk0, s1, s2, s3⟩ hrec
    have hS : MR S P V T U H := h.fr (fun a c q => s1 a c (by omega))
    have hs : wns P V T U H pa (k + 1) = if lsb (apt T pa) (wns P V T U H pa k) k = true ∧ (vld k && elB P V T U H pa k) = true then some k else wns P V T U H pa k := rfl
    have t0 := w.2.2.1 0 pa 0 (by decide) hpa (by decide)
    have t1 := w.2.2.1 0 pa 1 (by decide) hpa (by decide)
    have t2 := w.2.2.1 0 pa 2 (by decide) hpa (by decide)
    have g0 : f_X9_ticketOf 0 (nI pa) 0 S = some (nI (T 0 pa 0)) := (hS S SM.rf).2.2.1 0 pa 0 (by decide) hpa (by decide)
    have g1 : f_X9_ticketOf 0 (nI pa) 1 S = some (nI (T 0 pa 1)) := (hS S SM.rf).2.2.1 0 pa 1 (by decide) hpa (by decide)
    have g2 : f_X9_ticketOf 0 (nI pa) 2 S = some (nI (T 0 pa 2)) := (hS S SM.rf).2.2.1 0 pa 2 (by decide) hpa (by decide)
    have hinv : vld k = false → ∃ M' : pv_M, rec (nI (k + 1)) S = some ((), M') ∧ (∀ a c, ¬ (213 ≤ a ∧ a ≤ 215) → M'.1 a c = M.1 a c) ∧ M'.1 215 0 = oldI (wns P V T U H pa 1000) ∧ M'.1 215 1 = lsI (apt T pa) (wns P V T U H pa 1000) := fun e => hrec _ ⟨by omega, s1, by rw [hs, e, Bool.false_and, if_neg (fun q => by cases q.2)]; exact s2, by rw [hs, e, Bool.false_and, if_neg (fun q => by cases q.2)]; exact s3⟩
    unfold f_X9_findWish_L17
    rw [show (1000 : Int32) = nI 1000 from rfl, if_neg (nI_ge hk (by decide)), show (100 : Int32) = nI 100 from rfl, show (10 : Int32) = nI 10 from rfl, pk_div (by omega) (by decide) (by decide), pk_rem (by omega) (by decide) (by decide), pk_div (by omega) (by decide) (by decide), pk_rem (by omega) (by decide) (by decide), pv_nm_eq, pv_nm_eq, pv_nm_eq, nI_1, g0, pv_cap_some, m_amt (by omega) (by omega), pv_cap_some, g1, pv_cap_some, m_amt (by omega) (by omega), pv_cap_some, g2, pv_cap_some, m_amt (by omega) (by omega), pv_cap_some, nI_add, nI_add, show adf (k / 100) (T 0 pa 0) + adf (k / 10 % 10) (T 0 pa 1) + adf (k % 10) (T 0 pa 2) = apt T pa k from rfl, pv_nm_eq, show (1 : Int32) = nI 1 from rfl, ld_215 (by decide), s3, pv_jn_eq, ld_215 (by decide), s3]
    rw [show (0 : Int32) = nI 0 from rfl, show (-nI 1 : Int32) = -1 from rfl, ite_le (by omega) (by decide), ite_le (by omega) (by decide), (wns_st w hpa (o := wns P V T U H pa k) (fun c hc => by have := wns_lt hc; omega) hk).1]
    by_cases v1 : k / 10 % 10 ≤ 0
    · rw [if_pos v1]
      exact hinv (decide_eq_false (by omega))
    · rw [if_neg v1]
      by_cases v2 : k % 10 ≤ 0
      · rw [if_pos v2]
        exact hinv (decide_eq_false (by omega))
      · rw [if_neg v2]
        have hv : vld k = true := decide_eq_true (by omega)
        by_cases e : lsb (apt T pa) (wns P V T U H pa k) k = true
        · rw [if_pos e]
          obtain ⟨M4, f1, f2⟩ := m_electedBy w hS hpa hk
          rw [f1, pv_cal_some, st_215 (by decide), st_215 (by decide)]
          by_cases e2 : elB P V T U H pa k = true
          · rw [bn1 e2]
            refine hrec _ ⟨by omega, fun a c q => by rw [fst_u, if_neg (by omega), fst_u, if_neg (by omega), f2 _ _ (by omega)]; exact s1 a c q, ?_, ?_⟩
            · rw [fst_u, if_neg (by omega), fst_u, if_pos ⟨rfl, rfl⟩, hs, if_pos ⟨e, by rw [hv, e2]; rfl⟩]
              rfl
            · rw [fst_u, if_pos ⟨rfl, rfl⟩, hs, if_pos ⟨e, by rw [hv, e2]; rfl⟩]
              rfl
          · rw [bn0 e2]
            refine hrec _ ⟨by omega, fun a c q => by rw [f2 _ _ (by omega)]; exact s1 a c q, ?_, ?_⟩
            · rw [f2 _ _ (by omega), hs, if_neg (fun q => e2 (by have := q.2; rw [hv, Bool.true_and] at this; exact this))]
              exact s2
            · rw [f2 _ _ (by omega), hs, if_neg (fun q => e2 (by have := q.2; rw [hv, Bool.true_and] at this; exact this))]
              exact s3
        · rw [if_neg e]
          exact hrec _ ⟨by omega, s1, by rw [hs, if_neg (fun q => e q.1)]; exact s2, by rw [hs, if_neg (fun q => e q.1)]; exact s3⟩
end WN
