theorem fa_fb (p : Nat → Bool) : ∀ n, fa_cnt p n = fb_ct p n
  | 0 => rfl
  | n + 1 => by unfold fa_cnt fb_ct; rw [fa_fb p n]
theorem al_mono {p : Nat → Bool} {i n : Nat} (h : al p i = false) (hi : i ≤ n) : al p n = false := by
  cases e : al p n with
  | false => rfl
  | true =>
    rw [al_iff] at e
    have : al p i = true := (al_iff p i).mpr (fun j hj => e j (by omega))
    rw [this] at h
    cases h
theorem six_le (V : Nat) : six V ≤ 6 ∧ six V ≤ V := by unfold six; split <;> omega
theorem pow24 (v : Nat) : 2 ^ (2 * v) = 4 ^ v := by rw [Nat.pow_mul]
theorem x_tp {row v : Nat} (hr : row < 2 ^ 31) (hv : v < 6) (M : pv_M) : f_X0_toldParty (nI row) (nI v) M = some (nI (row / 4 ^ v % 4)) := by
  unfold f_X0_toldParty
  rw [pk_shrN hr _ (2 * v) ((show ∀ v, v < 6 → ((((2 * nI v) &&& 31) : Int32).toBitVec.smod 32).toNat = 2 * v by decide +kernel) v hv), pow24, pk_andN (by have := Nat.div_le_self row (4 ^ v); omega) 2 (by decide)]
theorem m_tp {row v : Nat} (hr : row < 2 ^ 31) (hv : v < 6) : (nI row >>> ((2 * nI v) &&& 31)) &&& 3 = nI (row / 4 ^ v % 4) := by
  have := x_tp hr hv ((fun _ _ => 0, fun _ _ => 0) : pv_M)
  unfold f_X0_toldParty at this
  exact Option.some.inj this
theorem cn_le {V : Nat} {ch : Nat → Nat} {p : Nat} : cnC V ch p ≤ V := fa_cnt_le _ _
theorem cn_upd {V : Nat} {ch : Nat → Nat} {v q p : Nat} (hv : v < V) : cnC V (chU ch v q) p + (if ch v = p then 1 else 0) = cnC V ch p + (if q = p then 1 else 0) := by
  unfold cnC chU
  rw [fa_fb, fa_fb]
  have h := fb_ct_upd (fun x => decide (ch x = p)) (decide (q = p)) (i := v) (n := V) hv
  have e : (fun x => decide ((if x = v then q else ch x) = p)) = (fun k => if k = v then decide (q = p) else decide (ch k = p)) := by
    funext x
    by_cases e : x = v
    · rw [if_pos e, if_pos e]
    · rw [if_neg e, if_neg e]
  rw [e]
  simpa using h
theorem cn_split (s p : Nat) (f g : Nat → Nat) : ∀ n, fa_cnt (fun v => decide ((if v < s then f v else g v) = p)) n = fa_cnt (fun v => decide (f v = p)) (if n < s then n else s) + fa_cnt (fun v => decide (s ≤ v ∧ g v = p)) n
  | 0 => by
    by_cases h : 0 < s
    · rw [if_pos h]; rfl
    · rw [if_neg h, show s = 0 by omega]; rfl
  | n + 1 => by
    have ih := cn_split s p f g n
    rw [cnt_if, cnt_if, ih]
    by_cases h : n < s
    · rw [if_pos h]
      by_cases h2 : n + 1 < s
      · rw [if_pos h2, cnt_if]
        simp only [if_pos h, decide_eq_true_eq]
        rw [if_neg (show ¬ (s ≤ n ∧ g n = p) by omega)]
        omega
      · rw [if_neg h2, show s = n + 1 by omega, cnt_if]
        simp only [show n < n + 1 by omega, if_true, decide_eq_true_eq]
        rw [if_neg (show ¬ (n + 1 ≤ n ∧ g n = p) by omega)]
        omega
    · rw [if_neg h, if_neg (show ¬ n + 1 < s by omega)]
      simp only [if_neg h, decide_eq_true_eq]
      by_cases h3 : g n = p
      · rw [if_pos h3, if_pos ⟨by omega, h3⟩]
        omega
      · rw [if_neg h3, if_neg (fun q => h3 q.2)]
        omega
section RE
variable (P V : Nat) (T : Nat → Nat → Nat → Nat) (U : Nat → Nat) (H : Nat → Int)
def bas (p : Nat) : Nat := fa_cnt (fun v => decide (six V ≤ v ∧ cho P T U H 0 v none = p)) V
def tmv (t : Nat → Nat) (q o p : Nat) : Nat := t p - (if p = q then 1 else 0) + (if p = o then 1 else 0)
def ctb (t : Nat → Nat) (j q : Nat) : Bool := al (fun o => decide (gn T U H 0 (bst (fun p => ((tmv t q o p : Nat) : Int)) 0 P) j ≤ gn T U H 0 (bst (fun p => ((t p : Nat) : Int)) 0 P) j)) P
end RE
theorem cn_row (P V : Nat) (T : Nat → Nat → Nat → Nat) (U : Nat → Nat) (H : Nat → Int) (row p : Nat) : cnC V (chR P V T U H row) p = fa_cnt (fun v => decide (row / 4 ^ v % 4 = p)) (six V) + bas P V T U H p := by
  have h := cn_split (six V) p (fun v => row / 4 ^ v % 4) (fun v => cho P T U H 0 v none) V
  have h6 := six_le V
  rw [show (if V < six V then V else six V) = six V by rw [if_neg (by omega)]] at h
  exact h
theorem ctb_cont {P V : Nat} {T : Nat → Nat → Nat → Nat} {U : Nat → Nat} {H : Nat → Int} (hP : 0 < P) {ch : Nat → Nat} {j : Nat} (hj : j < V) : ctb P T U H (cnC V ch) j (ch j) = cont P V T U H ch j := by
  unfold ctb cont
  refine al_cong (fun o ho => ?_)
  have e : bst (fun p => ((tmv (cnC V ch) (ch j) o p : Nat) : Int)) 0 P = wnr P V (chU ch j o) := by
    unfold wnr
    refine bst_cong hP (fun p hp => ?_) P (Nat.le_refl _)
    have h := cn_upd (V := V) (ch := ch) (v := j) (q := o) (p := p) hj
    have h2 : (if ch j = p then 1 else 0) ≤ cnC V ch p := by
      by_cases e : ch j = p
      · rw [if_pos e]
        have : 0 < fb_ct (fun v => decide (ch v = p)) V := fb_ct_pos.mpr ⟨j, hj, decide_eq_true e⟩
        unfold cnC
        rw [fa_fb]
        omega
      · rw [if_neg e]
        omega
    unfold tmv
    rw [show (if p = ch j then 1 else 0) = (if ch j = p then 1 else 0) by simp only [eq_comm], show (if p = o then 1 else 0) = (if o = p then 1 else 0) by simp only [eq_comm]]
    congr 1
    omega
  rw [e]
  rfl
section RE2
variable {BA : pv_BA} {c v : Nat} {M : pv_M} {n : Nat → Nat} {b : Nat → Nat → Nat} {cn : Nat} {cf : Nat → Nat → Nat} {kn : Nat} {kf : Nat → Nat → Nat} {bn : Nat} {bf : Nat → Nat → Nat} {l d : Nat} {pu ra rb : Nat → Nat} {P V : Nat} {T : Nat → Nat → Nat → Nat} {U : Nat → Nat} {H : Nat → Int}
theorem x_players (h : XR M.1 P V T U H) (w : WF P V T U H) : f_X0_players M = some (nI (six V)) := by
  have := w.2.1
  unfold f_X0_players six
  rw [pv_nm_eq, h.2.1, show (6 : Int32) = nI 6 from rfl, ite_le (by decide) (by omega), pv_nm_eq]
  by_cases e : V < 6
  · rw [if_neg (by omega), if_pos e]
  · rw [if_pos (by omega), if_neg e]
theorem x_told (h : XR M.1 P V T U H) (w : WF P V T U H) {row : Nat} (hr : row < 4096) : f_X0_isTold (nI row) M = some (if tlB P V row = true then 1 else 0) := by
  have h6 := six_le V
  have hw := w.1
  unfold f_X0_isTold
  rw [x_players h w, pv_cap_some]
  refine for1 (six V) (fun i => ∀ j, j < i → row / 4 ^ j % 4 < P) (fun q => q = some (if tlB P V row = true then 1 else 0)) ?_ ?_ pv_FU 0 (Nat.zero_le _) (by show six V - 0 < 5000; omega) (fun j hj => absurd hj (Nat.not_lt_zero _))
  · intro rec hI
    unfold f_X0_isTold_L7
    rw [if_pos (nI_le (Nat.le_refl _) (by omega)), if_pos]
    unfold tlB
    rw [al_iff]
    exact fun i hi => decide_eq_true (hI i hi)
  · intro rec i hi hI hrec
    unfold f_X0_isTold_L7
    rw [if_neg (nI_ge hi (by omega)), x_tp (by omega) (by omega), pv_cap_some, pv_nm_eq, h.1, ite_lt (by omega) (by omega), nI_1]
    by_cases e : row / 4 ^ i % 4 < P
    · rw [if_pos e]
      exact hrec (fun j hj => by
        by_cases e2 : j = i
        · rw [e2]; exact e
        · exact hI j (by omega))
    · rw [if_neg e, if_neg]
      unfold tlB
      rw [al_no hi (decide_eq_false e)]
      decide
/-- what prepare leaves: the others' votes, the players' gains -/
def Pre (M M' : pv_M) (P V : Nat) (T : Nat → Nat → Nat → Nat) (U : Nat → Nat) (H : Nat → Int) : Prop := (∀ a c, ¬ (a = 159 ∨ a = 160 ∨ (163 ≤ a ∧ a ≤ 168)) → M'.1 a c = M.1 a c) ∧ (∀ p, p < 4 → M'.1 160 p = nI (bas P V T U H p)) ∧ ∀ v p, v < six V → p < P → M'.1 (163 + v) p = iI (gn T U H 0 p v)
theorem x_prepare (h : XR M.1 P V T U H) (w : WF P V T U H) (hP : 0 < P) : ∃ M', f_X0_prepare M = some ((), M') ∧ Pre M M' P V T U H := by
  have h6 := six_le V
  have hw := w.1
  have hw2 := w.2.1
  have hs : ∀ x, x < V → (6 ≤ x ↔ six V ≤ x) := fun x hx => by unfold six; split <;> omega
  obtain ⟨M1, e1, -, e3⟩ := x_fill sa_160 0 M
  unfold f_X0_prepare
  rw [e1, pv_cal_some]
  refine for2 V (fun x (S : pv_M) => (∀ a c, ¬ (a = 159 ∨ a = 160 ∨ (163 ≤ a ∧ a ≤ 168)) → S.1 a c = M.1 a c) ∧ (∀ p, p < 4 → S.1 160 p = nI (fa_cnt (fun v => decide (six V ≤ v ∧ cho P T U H 0 v none = p)) x)) ∧ ∀ v p, v < x → v < six V → p < P → S.1 (163 + v) p = iI (gn T U H 0 p v)) (fun q => ∃ M' : pv_M, q = some ((), M') ∧ Pre M M' P V T U H) ?_ ?_ pv_FU 0 M1 (Nat.zero_le _) (by show V - 0 < 5000; omega) ⟨fun a c q => by rw [e3, if_neg (by omega)], fun p hp => by rw [e3, if_pos ⟨rfl, hp⟩]; rfl, fun v p hv => absurd hv (Nat.not_lt_zero _)⟩
  · rintro rec S ⟨s1, s2, s3⟩
    unfold f_X0_prepare_L10
    rw [pv_nm_eq, s1 _ _ (by omega), h.2.1, if_pos (nI_le (Nat.le_refl _) (by omega))]
    exact ⟨S, rfl, s1, s2, fun v p hv hp => s3 v p (by omega) hv hp⟩
  · rintro rec x S hx ⟨s1, s2, s3⟩ hrec
    have hX : XR S.1 P V T U H := h.fr (fun a c q => s1 a c (by omega))
    unfold f_X0_prepare_L10
    rw [pv_nm_eq, hX.2.1, if_neg (nI_ge hx (by omega)), show (6 : Int32) = nI 6 from rfl, ite_le (by decide) (by omega), nI_1]
    by_cases e : 6 ≤ x
    · obtain ⟨M3, f1, f2⟩ := x_fillGains w hX (show 0 < 10 by decide) hx sa_159 (by omega)
      have hcl : cho P T U H 0 x none < P := bst_lt (fun p => gn T U H 0 p x) (show (none : Option Nat).getD 0 < P from hP) P (Nat.le_refl _)
      have hg : f_X8_greatest 159 0 (nI P) (-1) M3 = some (nI (cho P T U H 0 x none)) := x_greatest (g := fun p => gn T U H 0 p x) (o := none) (s := 0) sa_159 (by omega) hP (fun i hi => by rw [f2, Nat.zero_add, if_pos ⟨rfl, hi⟩]) (fun i hi => by have := gn_sml w (show 0 < 10 by decide) hi hx; omega) (fun k q => by cases q)
      have m0 : M3.1 39 0 = nI P := by rw [f2, if_neg (by omega)]; exact hX.1
      rw [if_pos e, show f_X2_fillGains (nI x) 0 159 S = some ((), M3) from f1, pv_cal_some, pv_nm_eq, m0, hg, pv_cap_some, ld_160 (by omega), f2, if_neg (by omega), s2 _ (by omega), nI_1, st_160 (by omega)]
      refine hrec _ ⟨fun a c q => by rw [fst_u, if_neg (by omega), f2, if_neg (by omega)]; exact s1 a c q, fun p hp => ?_, fun v p hv hv6 hp => ?_⟩
      · rw [fst_u, cnt_if]
        have h6x : six V ≤ x := (hs x hx).mp e
        simp only [decide_eq_true_eq]
        by_cases e2 : cho P T U H 0 x none = p
        · rw [if_pos ⟨trivial, e2.symm⟩, if_pos ⟨h6x, e2⟩, e2]
        · rw [if_neg (fun q => e2 q.2.symm), if_neg (fun q => e2 q.2), f2, if_neg (by omega)]
          exact s2 p hp
      · rw [fst_u, if_neg (by omega), f2, if_neg (by omega)]
        have := (hs x hx).mp e
        exact s3 v p (by omega) hv6 hp
    · obtain ⟨M3, f1, f2⟩ := x_fillGains w hX (show 0 < 10 by decide) hx (sf_163 (show x < 6 by omega)) (by omega)
      rw [if_neg e, lr_162 (by omega), show f_X2_fillGains (nI x) 0 (163 + x) S = some ((), M3) from f1, pv_cal_some]
      refine hrec _ ⟨fun a c q => by rw [f2, if_neg (by omega)]; exact s1 a c q, fun p hp => ?_, fun v p hv hv6 hp => ?_⟩
      · rw [f2, if_neg (by omega), cnt_if, if_neg, Nat.add_zero]
        · exact s2 p hp
        · rw [decide_eq_true_eq]
          exact fun q => e ((hs x hx).mpr q.1)
      · rw [f2]
        by_cases e2 : v = x
        · rw [if_pos ⟨by omega, hp⟩, e2]
        · rw [if_neg (by omega)]
          exact s3 v p (by omega) hv6 hp
theorem tmv_le {t : Nat → Nat} {q o p B : Nat} (h : t p ≤ B) : tmv t q o p ≤ B + 1 := by
  unfold tmv
  split <;> split <;> omega
theorem x_content (h : XR M.1 P V T U H) (w : WF P V T U H) {t : Nat → Nat} {j q : Nat} (hj : j < six V) (hq : q < P) (ht : ∀ p, p < P → M.1 160 p = nI (t p) ∧ t p ≤ 100) (htq : 1 ≤ t q) (hg : ∀ p, p < P → M.1 (163 + j) p = iI (gn T U H 0 p j)) : ∃ M', f_X0_isContent (nI j) (nI q) M = some ((if ctb P T U H t j q = true then 1 else 0), M') ∧ ∀ a c, M'.1 a c = M.1 a c := by
  have h6 := six_le V
  have hw := w.1
  have hP : 0 < P := by omega
  have hjV : j < V := by omega
  have hg0 : ∀ (S : pv_M) (t' : Nat → Nat), S.1 39 0 = nI P → (∀ p, p < P → S.1 160 p = nI (t' p) ∧ t' p ≤ 1000) → f_X8_greatest 160 0 (nI P) (-1) S = some (nI (bst (fun p => ((t' p : Nat) : Int)) 0 P)) := fun S t' h0 ht' => x_greatest (g := fun p => ((t' p : Nat) : Int)) (o := none) (s := 0) sa_160 (by omega) hP (fun i hi => by rw [Nat.zero_add, iI_n]; exact (ht' i hi).1) (fun i hi => by have := (ht' i hi).2; omega) (fun k q => by cases q)
  obtain ⟨b0, hb0⟩ : ∃ b0, b0 = bst (fun p => ((t p : Nat) : Int)) 0 P := ⟨_, rfl⟩
  have hb0P : b0 < P := by rw [hb0]; exact bst_lt _ hP P (Nat.le_refl _)
  have hgb := gn_sml w (show 0 < 10 by decide) hb0P hjV
  unfold f_X0_isContent
  rw [lr_162 (by omega), pv_nm_eq, h.1, hg0 M t h.1 (fun p hp => ⟨(ht p hp).1, by have := (ht p hp).2; omega⟩), pv_cap_some, ← hb0, lf_163 (by omega) (by omega), hg b0 hb0P, ld_160 (by omega), (ht q hq).1, show (1 : Int32) = nI 1 from rfl, pk_sub htq, st_160 (by omega), pv_jn_eq]
  have hfl : ∀ (x : Int32) (S : pv_M), (∀ a c, S.1 a c = (pv_u M.1 160 q (nI (t q - 1))) a c) → (x = 0 ∨ x = 1) → ∃ M', (pv_ldI pv_T 160 (nI q) S (fun x6 => pv_stI pv_T 160 (nI q) (x6 + nI 1) S (fun M3 => (if x = 0 ∨ x = nI 1 then some (x, M3) else none)))) = some (x, M') ∧ ∀ a c, M'.1 a c = M.1 a c := by
    intro x S hS hx
    rw [ld_160 (by omega), hS, u_if, if_pos ⟨rfl, rfl⟩, st_160 (by omega), nI_add, show t q - 1 + 1 = t q by omega]
    rw [if_pos (show x = 0 ∨ x = nI 1 from hx)]
    refine ⟨_, rfl, fun a c => ?_⟩
    rw [fst_u, hS, u_if]
    by_cases e : a = 160 ∧ c = q
    · rw [if_pos e, e.1, e.2, (ht q hq).1]
    · rw [if_neg e, if_neg e]
  obtain ⟨cb, hcb⟩ : ∃ cb : Nat → Bool, cb = fun o => decide (gn T U H 0 (bst (fun p => ((tmv t q o p : Nat) : Int)) 0 P) j ≤ gn T U H 0 b0 j) := ⟨_, rfl⟩
  have hct : ctb P T U H t j q = al cb P := by rw [hcb, hb0]; rfl
  rw [hct]
  refine for3b P (fun o (x : Int32) (S : pv_M) => x = (if al cb o = true then 1 else 0) ∧ ∀ a c, S.1 a c = (pv_u M.1 160 q (nI (t q - 1))) a c) (fun z => ∃ M' : pv_M, z = some ((if al cb P = true then 1 else 0), M') ∧ ∀ a c, M'.1 a c = M.1 a c) ?_ ?_ pv_FU 0 (nI 1) _ (Nat.zero_le _) (by show P - 0 < 5000; omega) ⟨rfl, fun _ _ => rfl⟩
  · rintro rec x S ⟨rfl, hS⟩
    have s39 : S.1 39 0 = nI P := by rw [hS, u_if, if_neg (by omega)]; exact h.1
    unfold f_X0_isContent_L43
    rw [pv_nm_eq, s39, if_pos (nI_le (Nat.le_refl _) (by omega))]
    dsimp only
    exact hfl _ S hS (by split <;> simp)
  · rintro rec o x S ho ⟨rfl, hS⟩ hrec
    have s39 : S.1 39 0 = nI P := by rw [hS, u_if, if_neg (by omega)]; exact h.1
    unfold f_X0_isContent_L43
    rw [pv_nm_eq, s39, if_neg (nI_ge ho (by omega))]
    by_cases e : al cb o = true
    · obtain ⟨z, hz⟩ : ∃ z, z = t o - (if o = q then 1 else 0) := ⟨_, rfl⟩
      have hSo : S.1 160 o = nI z := by
        rw [hS, u_if, hz]
        by_cases e2 : o = q
        · rw [if_pos ⟨rfl, e2⟩, if_pos e2, e2]
        · rw [if_neg (fun z => e2 z.2), if_neg e2, (ht o ho).1, Nat.sub_zero]
      rw [bt1 e, ld_160 (by omega), hSo, nI_1, st_160 (by omega)]
      generalize hS5 : ((pv_u S.1 160 o (nI (z + 1)), S.2) : pv_M) = S5
      have c5 : ∀ a c, S5.1 a c = if a = 160 ∧ c = o then nI (z + 1) else S.1 a c := fun a c => by rw [← hS5, fst_u]
      have s539 : S5.1 39 0 = nI P := by rw [c5, if_neg (by omega)]; exact s39
      have hg5 : ∀ p, p < P → S5.1 (163 + j) p = iI (gn T U H 0 p j) := fun p hp => by rw [c5, if_neg (by omega), hS, u_if, if_neg (by omega)]; exact hg p hp
      have ht' : ∀ p, p < P → S5.1 160 p = nI (tmv t q o p) ∧ tmv t q o p ≤ 1000 := fun p hp => by
        refine ⟨?_, by have := tmv_le (t := t) (q := q) (o := o) (p := p) (ht p hp).2; omega⟩
        rw [c5]
        unfold tmv
        by_cases e2 : p = o
        · rw [if_pos ⟨rfl, e2⟩, if_pos e2, e2, hz]
        · rw [if_neg (fun z => e2 z.2), if_neg e2, Nat.add_zero, hS, u_if]
          by_cases e3 : p = q
          · rw [if_pos ⟨rfl, e3⟩, if_pos e3, e3]
          · rw [if_neg (fun z => e3 z.2), if_neg e3, (ht p hp).1, Nat.sub_zero]
      have hbo : bst (fun p => ((tmv t q o p : Nat) : Int)) 0 P < P := bst_lt _ hP P (Nat.le_refl _)
      have hgo := gn_sml w (show 0 < 10 by decide) hbo hjV
      have hnext : ∀ y : Nat, y = (if al cb (o + 1) = true then 1 else 0) → ∃ M' : pv_M, (pv_ldI pv_T 160 (nI o) S5 (fun x15 => pv_stI pv_T 160 (nI o) (x15 - 1) S5 (fun M6 => rec (nI y) (nI o + 1) M6))) = some ((if al cb P = true then 1 else 0), M') ∧ ∀ a c, M'.1 a c = M.1 a c := by
        rintro y rfl
        rw [ld_160 (by omega), c5, if_pos ⟨rfl, rfl⟩, show (1 : Int32) = nI 1 from rfl, pk_sub (by omega), st_160 (by omega), nI_add]
        refine hrec _ _ ⟨by split <;> rfl, fun a c => ?_⟩
        rw [fst_u]
        by_cases e2 : a = 160 ∧ c = o
        · rw [if_pos e2, Nat.add_sub_cancel, ← hSo, ← hS, e2.1, e2.2]
        · rw [if_neg e2, c5, if_neg e2]
          exact hS a c
      rw [pv_nm_eq, s539, hg0 S5 _ s539 ht', pv_cap_some, lf_163 (by omega) (by omega), hg5 _ hbo, pv_jn_eq, iIf_lt (by omega) (by omega) (by omega) (by omega)]
      by_cases e2 : gn T U H 0 b0 j < gn T U H 0 (bst (fun p => ((tmv t q o p : Nat) : Int)) 0 P) j
      · rw [if_pos e2]
        refine hnext 0 ?_
        rw [if_neg]
        unfold al
        rw [e, hcb]
        dsimp only
        rw [decide_eq_false (by omega)]
        decide
      · rw [if_neg e2]
        refine hnext 1 ?_
        rw [if_pos]
        unfold al
        rw [e, hcb]
        dsimp only
        rw [decide_eq_true (by omega)]
        rfl
    · rw [bt0 e, if_neg e]
      have : al cb P = false := al_mono (i := o) (by simpa using e) (by omega)
      rw [this]
      dsimp only
      exact hfl 0 S hS (Or.inl rfl)
theorem x_rest (h : XR M.1 P V T U H) (w : WF P V T U H) (hP : 0 < P) {row : Nat} (hr : row < 4096) (htl : tlB P V row = true) : ∃ M', f_X0_isRest (nI row) M = some ((if rsB P V T U H (chR P V T U H row) = true then 1 else 0), M') ∧ ∀ a c, ¬ (a = 159 ∨ a = 160 ∨ (163 ≤ a ∧ a ≤ 168)) → M'.1 a c = M.1 a c := by
  have h6 := six_le V
  have hw := w.1
  have hw2 := w.2.1
  have hdg : ∀ i, i < six V → row / 4 ^ i % 4 < P := fun i hi => by
    unfold tlB at htl
    rw [al_iff] at htl
    exact of_decide_eq_true (htl i hi)
  obtain ⟨M1, e1, e2, e3, e4⟩ := x_prepare h w hP
  unfold f_X0_isRest
  rw [x_players h w, pv_cap_some, e1, pv_cal_some, pv_jn_eq]
  refine for2 (six V) (fun i (S : pv_M) => (∀ a c, ¬ a = 160 → S.1 a c = M1.1 a c) ∧ ∀ p, p < 4 → S.1 160 p = nI (fa_cnt (fun v => decide (row / 4 ^ v % 4 = p)) i + bas P V T U H p)) (fun q => ∃ M' : pv_M, q = some ((if rsB P V T U H (chR P V T U H row) = true then 1 else 0), M') ∧ ∀ a c, ¬ (a = 159 ∨ a = 160 ∨ (163 ≤ a ∧ a ≤ 168)) → M'.1 a c = M.1 a c) ?_ ?_ pv_FU 0 M1 (Nat.zero_le _) (by show six V - 0 < 5000; omega) ⟨fun _ _ _ => rfl, fun p hp => by rw [e3 p hp]; show nI (bas P V T U H p) = nI (0 + bas P V T U H p); rw [Nat.zero_add]⟩
  · rintro rec S ⟨s1, s2⟩
    unfold f_X0_isRest_L11
    rw [if_pos (nI_le (Nat.le_refl _) (by omega))]
    dsimp only
    have ht : ∀ p, p < P → S.1 160 p = nI (cnC V (chR P V T U H row) p) ∧ cnC V (chR P V T U H row) p ≤ 100 := fun p hp => ⟨by rw [s2 p (by omega), cn_row], by have := cn_le (V := V) (ch := chR P V T U H row) (p := p); omega⟩
    have hX : XR S.1 P V T U H := h.fr (fun a c q => by rw [s1 _ _ (by omega)]; exact e2 a c (by omega))
    have hch : ∀ i, i < six V → chR P V T U H row i = row / 4 ^ i % 4 := fun i hi => if_pos hi
    refine for2 (six V) (fun i (S' : pv_M) => (∀ a c, S'.1 a c = S.1 a c) ∧ ∀ j, j < i → cont P V T U H (chR P V T U H row) j = true) (fun q => ∃ M' : pv_M, q = some ((if rsB P V T U H (chR P V T U H row) = true then 1 else 0), M') ∧ ∀ a c, ¬ (a = 159 ∨ a = 160 ∨ (163 ≤ a ∧ a ≤ 168)) → M'.1 a c = M.1 a c) ?_ ?_ pv_FU 0 S (Nat.zero_le _) (by show six V - 0 < 5000; omega) ⟨fun _ _ => rfl, fun j hj => absurd hj (Nat.not_lt_zero _)⟩
    · rintro rec S' ⟨q1, q2⟩
      unfold f_X0_isRest_L38
      rw [if_pos (nI_le (Nat.le_refl _) (by omega)), if_pos (show rsB P V T U H (chR P V T U H row) = true by unfold rsB; rw [al_iff]; exact q2)]
      exact ⟨S', rfl, fun a c q => by rw [q1, s1 _ _ (by omega)]; exact e2 a c q⟩
    · rintro rec i S' hi ⟨q1, q2⟩ hrec
      have hX' : XR S'.1 P V T U H := hX.fr (fun a c _ => q1 a c)
      have hdi := hdg i hi
      obtain ⟨N, f1, f2⟩ := x_content hX' w (t := cnC V (chR P V T U H row)) hi hdi (fun p hp => by rw [q1]; exact ht p hp) (by
        unfold cnC
        rw [fa_fb]
        have : 0 < fb_ct (fun v => decide (chR P V T U H row v = row / 4 ^ i % 4)) V := fb_ct_pos.mpr ⟨i, by omega, decide_eq_true (hch i hi)⟩
        omega) (fun p hp => by rw [q1, s1 _ _ (by omega)]; exact e4 i p hi hp)
      have hcc : ctb P T U H (cnC V (chR P V T U H row)) i (row / 4 ^ i % 4) = cont P V T U H (chR P V T U H row) i := by
        rw [← hch i hi]
        exact ctb_cont hP (by omega)
      rw [hcc] at f1
      unfold f_X0_isRest_L38
      rw [if_neg (nI_ge hi (by omega)), x_tp (by omega) (by omega), pv_cap_some, f1, pv_cal_some, nI_1]
      by_cases e : cont P V T U H (chR P V T U H row) i = true
      · rw [bt1 e]
        exact hrec _ ⟨fun a c => by rw [f2, q1], fun j hj => by
          by_cases e5 : j = i
          · rw [e5]; exact e
          · exact q2 j (by omega)⟩
      · rw [bt0 e, if_neg (show ¬ rsB P V T U H (chR P V T U H row) = true by unfold rsB; rw [al_no hi (by simpa using e)]; decide)]
        exact ⟨N, rfl, fun a c q => by rw [f2, q1, s1 _ _ (by omega)]; exact e2 a c q⟩
  · rintro rec i S hi ⟨s1, s2⟩ hrec
    have hdi := hdg i hi
    unfold f_X0_isRest_L11
    rw [if_neg (nI_ge hi (by omega)), x_tp (by omega) (by omega), pv_cap_some, ld_160 (by omega), s2 _ (by omega), nI_1, st_160 (by omega), nI_1]
    refine hrec _ ⟨fun a c q => by rw [fst_u, if_neg (by omega)]; exact s1 a c q, fun p hp => ?_⟩
    rw [fst_u, cnt_if]
    simp only [decide_eq_true_eq]
    by_cases e : row / 4 ^ i % 4 = p
    · rw [if_pos ⟨trivial, e.symm⟩, if_pos e, e]
      congr 1
      omega
    · rw [if_neg (fun q => e q.2.symm), if_neg e, Nat.add_zero]
      exact s2 p hp
end RE2
