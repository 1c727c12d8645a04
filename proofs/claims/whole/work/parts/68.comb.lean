/-! counting rows by their sums -/
def dg (r v : Nat) : Nat := r / 4 ^ v % 4
theorem dg_0 (r d : Nat) (hd : d < 4) : dg (4 * r + d) 0 = d := by
  unfold dg
  rw [Nat.pow_zero]
  omega
theorem dg_s (r d v : Nat) (hd : d < 4) : dg (4 * r + d) (v + 1) = dg r v := by
  unfold dg
  rw [Nat.pow_succ, Nat.mul_comm (4 ^ v) 4, ← Nat.div_div_eq_div_mul, show (4 * r + d) / 4 = r by omega]
theorem al_sh (p : Nat → Bool) : ∀ n, al p (n + 1) = (p 0 && al (fun i => p (i + 1)) n)
  | 0 => by
    show (true && p 0) = (p 0 && true)
    rw [Bool.true_and, Bool.and_true]
  | n + 1 => by
    have ih := al_sh p n
    show (al p (n + 1) && p (n + 1)) = (p 0 && (al (fun i => p (i + 1)) n && p (n + 1)))
    rw [ih, Bool.and_assoc]
theorem ct_sh (p : Nat → Bool) : ∀ n, fb_ct p (n + 1) = (if p 0 then 1 else 0) + fb_ct (fun i => p (i + 1)) n
  | 0 => by
    show 0 + (if p 0 then 1 else 0) = (if p 0 then 1 else 0) + 0
    omega
  | n + 1 => by
    have ih := ct_sh p n
    show fb_ct p (n + 1) + (if p (n + 1) then 1 else 0) = (if p 0 then 1 else 0) + (fb_ct (fun i => p (i + 1)) n + (if p (n + 1) then 1 else 0))
    rw [ih]
    omega
theorem ct4 (p : Nat → Bool) : ∀ n, fb_ct p (4 * n) = fb_sm (fun d => fb_ct (fun r => p (4 * r + d)) n) 4
  | 0 => rfl
  | n + 1 => by
    have ih := ct4 p n
    rw [show 4 * (n + 1) = 4 * n + 1 + 1 + 1 + 1 by omega, fb_ct_succ, fb_ct_succ, fb_ct_succ, fb_ct_succ, ih]
    show _ = 0 + (fb_ct (fun r => p (4 * r + 0)) n + _) + (fb_ct (fun r => p (4 * r + 1)) n + _) + (fb_ct (fun r => p (4 * r + 2)) n + _) + (fb_ct (fun r => p (4 * r + 3)) n + _)
    show 0 + fb_ct (fun r => p (4 * r + 0)) n + fb_ct (fun r => p (4 * r + 1)) n + fb_ct (fun r => p (4 * r + 2)) n + fb_ct (fun r => p (4 * r + 3)) n + _ + _ + _ + _ = _
    simp only [Nat.add_zero]
    omega
def dcr (u : Nat → Nat) (p : Nat) : Nat → Nat := fun k => if k = p then u p - 1 else u k
def rwf (P m : Nat) (C : Nat → Nat → Bool) : Nat → (Nat → Nat) → Nat
  | 0, _ => 1
  | k + 1, u => fb_sm (fun p => if 0 < u p ∧ C (m - (k + 1)) p = true then rwf P m C k (dcr u p) else 0) P
def ctd (k r p : Nat) : Nat := fb_ct (fun v => decide (dg r v = p)) k
def gdB (P m : Nat) (C : Nat → Nat → Bool) (k : Nat) (u : Nat → Nat) (r : Nat) : Bool := al (fun v => decide (dg r v < P) && C (m - k + v) (dg r v)) k && al (fun p => decide (ctd k r p = u p)) P
theorem ctd_s (k r d p : Nat) (hd : d < 4) : ctd (k + 1) (4 * r + d) p = (if d = p then 1 else 0) + ctd k r p := by
  unfold ctd
  rw [ct_sh, dg_0 r d hd]
  simp only [dg_s r d _ hd, decide_eq_true_eq]
theorem gd_s {P m : Nat} {C : Nat → Nat → Bool} {k : Nat} {u : Nat → Nat} {r d : Nat} (hk : k + 1 ≤ m) (hd : d < 4) : gdB P m C (k + 1) u (4 * r + d) = (decide (d < P ∧ 0 < u d ∧ C (m - (k + 1)) d = true) && gdB P m C k (dcr u d) r) := by
  have e : ∀ v, m - (k + 1) + (v + 1) = m - k + v := fun v => by omega
  unfold gdB
  rw [al_sh, dg_0 r d hd, Nat.add_zero]
  simp only [dg_s r d _ hd, e, ctd_s k r d _ hd]
  by_cases h1 : d < P
  · by_cases h2 : C (m - (k + 1)) d = true
    · have h3 : al (fun p => decide ((if d = p then 1 else 0) + ctd k r p = u p)) P = (decide (0 < u d) && al (fun p => decide (ctd k r p = dcr u d p)) P) := by
        rw [Bool.eq_iff_iff, Bool.and_eq_true, al_iff, al_iff, decide_eq_true_eq]
        constructor
        · intro h
          have hdd := of_decide_eq_true (h d h1)
          rw [if_pos rfl] at hdd
          refine ⟨by omega, fun p hp => decide_eq_true ?_⟩
          have hp2 := of_decide_eq_true (h p hp)
          unfold dcr
          by_cases e : p = d
          · subst e
            rw [if_pos rfl]
            omega
          · rw [if_neg e]
            rw [if_neg (fun q => e q.symm)] at hp2
            omega
        · rintro ⟨h0, h⟩ p hp
          have hp2 := of_decide_eq_true (h p hp)
          unfold dcr at hp2
          refine decide_eq_true ?_
          by_cases e : p = d
          · subst e
            rw [if_pos rfl] at hp2 ⊢
            omega
          · rw [if_neg e] at hp2
            rw [if_neg (fun q => e q.symm)]
            omega
      rw [h3, decide_eq_true h1, h2]
      by_cases h0 : 0 < u d
      · rw [decide_eq_true h0]
        simp [h1, h0]
      · rw [decide_eq_false h0]
        simp [h0]
    · rw [show C (m - (k + 1)) d = false by simpa using h2, decide_eq_false (fun q : d < P ∧ 0 < u d ∧ (false = true) => by cases q.2.2)]
      simp
  · rw [decide_eq_false h1, decide_eq_false (fun q => h1 q.1)]
    simp
theorem sm_cut {f : Nat → Nat} {P : Nat} (hP : P ≤ 4) (h : ∀ d, P ≤ d → f d = 0) : fb_sm f 4 = fb_sm f P := by
  have h0 := h 0
  have h1 := h 1
  have h2 := h 2
  have h3 := h 3
  rcases (show P = 0 ∨ P = 1 ∨ P = 2 ∨ P = 3 ∨ P = 4 by omega) with rfl | rfl | rfl | rfl | rfl
  · show 0 + f 0 + f 1 + f 2 + f 3 = 0
    rw [h0 (by omega), h1 (by omega), h2 (by omega), h3 (by omega)]
  · show 0 + f 0 + f 1 + f 2 + f 3 = 0 + f 0
    rw [h1 (by omega), h2 (by omega), h3 (by omega)]
    rfl
  · show 0 + f 0 + f 1 + f 2 + f 3 = 0 + f 0 + f 1
    rw [h2 (by omega), h3 (by omega)]
    rfl
  · show 0 + f 0 + f 1 + f 2 + f 3 = 0 + f 0 + f 1 + f 2
    rw [h3 (by omega)]
    rfl
  · rfl
theorem ct_false (n : Nat) : fb_ct (fun _ => false) n = 0 := fb_ct_zero.mpr (fun _ _ => rfl)
theorem rwf_ct {P m : Nat} {C : Nat → Nat → Bool} (hP : P ≤ 4) : ∀ k, k ≤ m → ∀ u, fb_sm u P = k → rwf P m C k u = fb_ct (gdB P m C k u) (4 ^ k)
  | 0, _, u, hu => by
    have hz := fb_sm_zero hu
    have : gdB P m C 0 u 0 = true := by
      unfold gdB
      rw [show al (fun v => decide (dg 0 v < P) && C (m - 0 + v) (dg 0 v)) 0 = true from rfl, Bool.true_and, al_iff]
      intro p hp
      rw [hz p hp]
      exact decide_eq_true rfl
    show 1 = 0 + (if gdB P m C 0 u 0 then 1 else 0)
    rw [this]
    rfl
  | k + 1, hk, u, hu => by
    rw [show 4 ^ (k + 1) = 4 * 4 ^ k by rw [Nat.pow_succ, Nat.mul_comm], ct4]
    conv => lhs; unfold rwf
    have hcong : fb_sm (fun d => fb_ct (fun r => gdB P m C (k + 1) u (4 * r + d)) (4 ^ k)) 4 = fb_sm (fun d => if d < P ∧ 0 < u d ∧ C (m - (k + 1)) d = true then fb_ct (gdB P m C k (dcr u d)) (4 ^ k) else 0) 4 := by
      refine fb_sm_cong (fun d hd => ?_)
      by_cases e : d < P ∧ 0 < u d ∧ C (m - (k + 1)) d = true
      · rw [if_pos e]
        refine fb_ct_cong (fun r _ => ?_)
        rw [gd_s hk hd, decide_eq_true e, Bool.true_and]
      · rw [if_neg e, ← ct_false (4 ^ k)]
        refine fb_ct_cong (fun r _ => ?_)
        rw [gd_s hk hd, decide_eq_false e, Bool.false_and]
    rw [hcong, sm_cut hP (fun d hd => if_neg (fun q => by omega))]
    refine fb_sm_cong (fun p hp => ?_)
    by_cases e : 0 < u p ∧ C (m - (k + 1)) p = true
    · rw [if_pos e, if_pos ⟨hp, e⟩]
      refine rwf_ct hP k (by omega) _ ?_
      have := fb_sm_upd u (u p - 1) (i := p) (n := P) hp
      have e2 : fb_sm (dcr u p) P = fb_sm (fun k => if k = p then u p - 1 else u k) P := rfl
      rw [e2]
      omega
    · rw [if_neg e, if_neg (fun q => e q.2)]
theorem sm_swap (f : Nat → Nat → Bool) (L : Nat) : ∀ N, fb_sm (fun x => fb_ct (f x) N) L = fb_sm (fun r => fb_ct (fun x => f x r) L) N
  | 0 => by
    show fb_sm (fun _ => 0) L = 0
    rw [fb_sm_const, Nat.mul_zero]
  | N + 1 => by
    have ih := sm_swap f L N
    rw [fb_sm_succ, ← ih]
    have : ∀ L, fb_ct (fun x => f x N) L = fb_sm (fun x => if f x N then 1 else 0) L := by
      intro L
      induction L with
      | zero => rfl
      | succ L ih2 => rw [fb_ct_succ, fb_sm_succ, ih2]
    rw [this, ← fb_sm_add]
    rfl
theorem sm_ind (h : Nat → Bool) : ∀ N, fb_sm (fun r => if h r then 1 else 0) N = fb_ct h N
  | 0 => rfl
  | N + 1 => by rw [fb_sm_succ, fb_ct_succ, sm_ind h N]
theorem ct_one {c : Nat} {b : Bool} : ∀ L, fb_ct (fun x => decide (x = c) && b) L = if c < L ∧ b = true then 1 else 0
  | 0 => by rw [if_neg (fun q => absurd q.1 (Nat.not_lt_zero _))]; rfl
  | L + 1 => by
    rw [fb_ct_succ, ct_one L]
    by_cases e : L = c
    · subst e
      rw [if_neg (fun q => absurd q.1 (Nat.lt_irrefl _)), decide_eq_true rfl, Bool.true_and]
      by_cases hb : b = true
      · rw [if_pos hb, if_pos ⟨Nat.lt_succ_self _, hb⟩]
      · rw [if_neg hb, if_neg (fun q => hb q.2)]
    · rw [decide_eq_false e, Bool.false_and, if_neg (show ¬ (false = true) by decide), Nat.add_zero]
      by_cases h2 : c < L ∧ b = true
      · rw [if_pos h2, if_pos ⟨by omega, h2.2⟩]
      · rw [if_neg h2, if_neg (fun q => h2 ⟨by omega, q.2⟩)]
def upN (s : Nat → Nat) (p x : Nat) : Nat → Nat := fun q => if q = p then x else s q
def spd (P : Nat) (W : (Nat → Nat) → Nat) : Nat → Nat → (Nat → Nat) → Nat
  | 0, left, s => if left = 0 then W s else 0
  | k + 1, left, s => fb_sm (fun x => spd P W k (left - x) (upN s (P - (k + 1)) x)) (left + 1)
def hB (P m : Nat) (Q : Nat → Bool) (k left : Nat) (s : Nat → Nat) (r : Nat) : Bool := al (fun q => decide (ctd m r q = s q)) (P - k) && (decide (fb_sm (ctd m r) P = fb_sm (ctd m r) (P - k) + left) && Q r)
theorem spd_ct {P m : Nat} {Q : Nat → Bool} {W : (Nat → Nat) → Nat} (hW : ∀ s, fb_sm s P = m → W s = fb_ct (fun r => al (fun q => decide (ctd m r q = s q)) P && Q r) (4 ^ m)) : ∀ k, k ≤ P → ∀ left s, fb_sm s (P - k) + left = m → spd P W k left s = fb_ct (hB P m Q k left s) (4 ^ m)
  | 0, _, left, s, hs => by
    unfold spd
    rw [Nat.sub_zero] at hs
    by_cases e : left = 0
    · rw [if_pos e, hW s (by omega)]
      refine fb_ct_cong (fun r _ => ?_)
      unfold hB
      rw [Nat.sub_zero, decide_eq_true (show fb_sm (ctd m r) P = fb_sm (ctd m r) P + left by omega), Bool.true_and]
    · rw [if_neg e]
      refine (fb_ct_zero.mpr (fun r _ => ?_)).symm
      unfold hB
      rw [Nat.sub_zero, decide_eq_false (show ¬ fb_sm (ctd m r) P = fb_sm (ctd m r) P + left by omega), Bool.false_and, Bool.and_false]
  | k + 1, hk, left, s, hs => by
    unfold spd
    obtain ⟨p0, hp0⟩ : ∃ p0, p0 = P - (k + 1) := ⟨_, rfl⟩
    have hpk : P - k = p0 + 1 := by omega
    have ih : ∀ x, x < left + 1 → spd P W k (left - x) (upN s (P - (k + 1)) x) = fb_ct (hB P m Q k (left - x) (upN s (P - (k + 1)) x)) (4 ^ m) := fun x hx => by
      refine spd_ct hW k (by omega) _ _ ?_
      rw [hpk, fb_sm_succ, ← hp0]
      have e1 : fb_sm (upN s p0 x) p0 = fb_sm s p0 := fb_sm_out s x (i := p0) (n := p0) (Nat.le_refl _)
      have e2 : upN s p0 x p0 = x := if_pos rfl
      rw [e1, e2]
      rw [← hp0] at hs
      omega
    rw [fb_sm_cong ih, sm_swap, ← sm_ind]
    refine fb_sm_cong (fun r _ => ?_)
    have hone : fb_ct (fun x => hB P m Q k (left - x) (upN s (P - (k + 1)) x) r) (left + 1) = fb_ct (fun x => decide (x = ctd m r p0) && hB P m Q (k + 1) left s r) (left + 1) := by
      refine fb_ct_cong (fun x hx => ?_)
      unfold hB
      rw [hpk, ← hp0]
      have ea : al (fun q => decide (ctd m r q = upN s p0 x q)) (p0 + 1) = (al (fun q => decide (ctd m r q = s q)) p0 && decide (x = ctd m r p0)) := by
        show (al (fun q => decide (ctd m r q = upN s p0 x q)) p0 && decide (ctd m r p0 = upN s p0 x p0)) = _
        rw [show upN s p0 x p0 = x from if_pos rfl, al_cong (q := fun q => decide (ctd m r q = s q)) (fun i hi => by
          rw [show upN s p0 x i = s i from if_neg (by omega)]), show decide (ctd m r p0 = x) = decide (x = ctd m r p0) by simp only [eq_comm]]
      rw [ea, fb_sm_succ]
      by_cases e : x = ctd m r p0
      · rw [decide_eq_true e, Bool.and_true, Bool.true_and]
        congr 2
        by_cases e2 : fb_sm (ctd m r) P = fb_sm (ctd m r) p0 + left
        · rw [decide_eq_true e2, decide_eq_true (by omega)]
        · rw [decide_eq_false e2, decide_eq_false (by omega)]
      · rw [decide_eq_false e, Bool.and_false, Bool.false_and, Bool.false_and]
    rw [hone, ct_one]
    by_cases e : hB P m Q (k + 1) left s r = true
    · have hlt : ctd m r p0 < left + 1 := by
        have e' := e
        unfold hB at e'
        rw [Bool.and_eq_true, Bool.and_eq_true, decide_eq_true_eq, ← hp0] at e'
        have h2 : fb_sm (ctd m r) p0 + ctd m r p0 ≤ fb_sm (ctd m r) P := fb_sm_part (ctd m r) (by omega)
        omega
      rw [if_pos e, if_pos ⟨hlt, e⟩]
    · rw [if_neg e, if_neg (fun q => e q.2)]
theorem ctd_all {P : Nat} {r : Nat} : ∀ m, (∀ v, v < m → dg r v < P) → fb_sm (ctd m r) P = m
  | 0, _ => by
    show fb_sm (fun _ => 0) P = 0
    rw [fb_sm_const, Nat.mul_zero]
  | m + 1, h => by
    have ih := ctd_all m (fun v hv => h v (by omega))
    have e : fb_sm (ctd (m + 1) r) P = fb_sm (fun p => ctd m r p + (if decide (dg r m = p) then 1 else 0)) P := rfl
    rw [e, fb_sm_add (ctd m r), ih, sm_ind]
    have : fb_ct (fun p => decide (dg r m = p)) P = fb_ct (fun p => decide (p = dg r m) && true) P := fb_ct_cong (fun p _ => by rw [Bool.and_true]; simp only [eq_comm])
    rw [this, ct_one, if_pos ⟨h m (by omega), rfl⟩]
/-- the class's count is the model's -/
theorem ctb_cong {P : Nat} {T : Nat → Nat → Nat → Nat} {U : Nat → Nat} {H : Nat → Int} (hP : 0 < P) {t t' : Nat → Nat} (h : ∀ p, p < P → t p = t' p) (j q : Nat) : ctb P T U H t j q = ctb P T U H t' j q := by
  unfold ctb
  refine al_cong (fun o ho => ?_)
  rw [bst_cong (g := fun p => ((t p : Nat) : Int)) (g' := fun p => ((t' p : Nat) : Int)) hP (fun p hp => by rw [h p hp]) P (Nat.le_refl _), bst_cong (g := fun p => ((tmv t q o p : Nat) : Int)) (g' := fun p => ((tmv t' q o p : Nat) : Int)) hP (fun p hp => by unfold tmv; rw [h p hp]) P (Nat.le_refl _)]
section CB
variable (P V : Nat) (T : Nat → Nat → Nat → Nat) (U : Nat → Nat) (H : Nat → Int)
def DsB (s : Nat → Nat) (j p : Nat) : Bool := decide (0 < s p) && ctb P T U H (fun p => s p + bas P V T U H p) j p
def Wsp (s : Nat → Nat) : Nat := rwf P (six V) (DsB P V T U H s) (six V) s
end CB
theorem rs_dg {P V : Nat} {T : Nat → Nat → Nat → Nat} {U : Nat → Nat} {H : Nat → Int} (hP : 0 < P) (r : Nat) : rsB P V T U H (chR P V T U H r) = al (fun j => ctb P T U H (fun p => ctd (six V) r p + bas P V T U H p) j (dg r j)) (six V) := by
  have h6 := six_le V
  unfold rsB
  refine al_cong (fun j hj => ?_)
  rw [← ctb_cont hP (show j < V by omega), show chR P V T U H r j = dg r j from if_pos hj]
  refine ctb_cong hP (fun p hp => ?_) _ _
  rw [cn_row, fa_fb]
  rfl
theorem rsts_eq {P V : Nat} {T : Nat → Nat → Nat → Nat} {U : Nat → Nat} {H : Nat → Int} (hP : 0 < P) (hP4 : P ≤ 4) (s : Nat → Nat) : spd P (Wsp P V T U H) P (six V) s = rsts P V T U H := by
  have hW : ∀ s, fb_sm s P = six V → Wsp P V T U H s = fb_ct (fun r => al (fun q => decide (ctd (six V) r q = s q)) P && (tlB P V r && rsB P V T U H (chR P V T U H r))) (4 ^ six V) := by
    intro s hs
    unfold Wsp
    rw [rwf_ct hP4 (six V) (Nat.le_refl _) s hs]
    refine fb_ct_cong (fun r _ => ?_)
    unfold gdB
    rw [Nat.sub_self, rs_dg hP]
    rw [Bool.eq_iff_iff]
    simp only [Bool.and_eq_true, al_iff, tlB, decide_eq_true_eq]
    constructor
    · rintro ⟨h1, h2⟩
      refine ⟨h2, fun v hv => (h1 v hv).1, fun j hj => ?_⟩
      have h3 := (h1 j hj).2
      rw [Nat.zero_add] at h3
      unfold DsB at h3
      rw [Bool.and_eq_true] at h3
      rw [ctb_cong hP (t' := fun p => s p + bas P V T U H p) (fun p hp => by rw [h2 p hp])]
      exact h3.2
    · rintro ⟨h2, h1, h3⟩
      refine ⟨fun v hv => ⟨h1 v hv, ?_⟩, h2⟩
      have h4 := h3 v hv
      have hdv : dg r v < P := h1 v hv
      rw [Nat.zero_add]
      unfold DsB
      rw [Bool.and_eq_true]
      refine ⟨decide_eq_true ?_, ?_⟩
      · rw [← h2 _ hdv]
        exact fb_ct_pos.mpr ⟨v, hv, decide_eq_true rfl⟩
      · rw [ctb_cong hP (t' := fun p => ctd (six V) r p + bas P V T U H p) (fun p hp => by rw [h2 p hp])]
        exact h4
  rw [spd_ct hW P (Nat.le_refl _) (six V) s (by rw [Nat.sub_self]; show 0 + six V = six V; omega)]
  unfold rsts
  rw [fa_fb]
  refine fb_ct_cong (fun r _ => ?_)
  unfold hB
  rw [Nat.sub_self, show al (fun q => decide (ctd (six V) r q = s q)) 0 = true from rfl, Bool.true_and, show fb_sm (ctd (six V) r) 0 = 0 from rfl, Nat.zero_add]
  by_cases e : tlB P V r = true
  · have hd : ∀ v, v < six V → dg r v < P := fun v hv => by
      unfold tlB at e
      rw [al_iff] at e
      exact of_decide_eq_true (e v hv)
    rw [decide_eq_true (ctd_all (six V) hd), Bool.true_and]
  · dsimp only
    rw [show tlB P V r = false by simpa using e, Bool.false_and, Bool.and_false]
