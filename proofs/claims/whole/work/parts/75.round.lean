/-! rounds of trade: a row of towns is a number to the base 4 -/
def dgt (n code i : Nat) : Nat := code / 4 ^ (n - 1 - i) % 4
def prF (r f : Nat → Nat) : Nat → Nat
  | 0 => 1
  | i + 1 => prF r f i * r (4 * f i + f (i + 1))
def cpr (r : Nat → Nat) (n code : Nat) : Nat := prF r (dgt n code) (n - 1) * r (4 * dgt n code (n - 1) + dgt n code 0)
def tok (n code i : Nat) : Bool := decide (dgt n code 0 ≤ dgt n code i) && al (fun j => decide (dgt n code j ≠ dgt n code i)) i
def tou (n code : Nat) : Bool := al (tok n code) n
section RD
variable (ra rb : Nat → Nat)
def upS (s : Option (Nat × Nat)) : Nat := match s with
  | none => 1
  | some x => cpr ra x.1 x.2
def lnS (s : Option (Nat × Nat)) : Nat := match s with
  | none => 0
  | some x => x.1
def twS (s : Option (Nat × Nat)) (i : Nat) : Nat := match s with
  | none => 0
  | some x => dgt x.1 x.2 i
def stp (n code : Nat) (s : Option (Nat × Nat)) : Option (Nat × Nat) := if tou n code = true ∧ upS ra s * cpr rb n code < cpr ra n code * upS rb s then some (n, code) else s
def scn (n lo : Nat) (s : Option (Nat × Nat)) : Nat → Option (Nat × Nat)
  | 0 => s
  | m + 1 => stp ra rb n (lo + m) (scn n lo s m)
def rnd : Nat → Option (Nat × Nat)
  | 0 => none
  | k + 1 => scn ra rb (k + 2) 0 (rnd k) (4 ^ (k + 2))
end RD
theorem scn_add (ra rb : Nat → Nat) (n lo : Nat) (s : Option (Nat × Nat)) (a : Nat) : ∀ b, scn ra rb n lo s (a + b) = scn ra rb n (lo + a) (scn ra rb n lo s a) b
  | 0 => rfl
  | b + 1 => by
    show stp ra rb n (lo + (a + b)) (scn ra rb n lo s (a + b)) = stp ra rb n (lo + a + b) (scn ra rb n (lo + a) (scn ra rb n lo s a) b)
    rw [scn_add ra rb n lo s a b, Nat.add_assoc]
theorem scn_skip {ra rb : Nat → Nat} {n lo : Nat} {s : Option (Nat × Nat)} : ∀ m, (∀ j, lo ≤ j → j < lo + m → tou n j = false) → scn ra rb n lo s m = s
  | 0, _ => rfl
  | m + 1, h => by
    show stp ra rb n (lo + m) (scn ra rb n lo s m) = s
    rw [scn_skip m (fun j h1 h2 => h j h1 (by omega))]
    unfold stp
    rw [if_neg (fun q => by rw [h (lo + m) (by omega) (by omega)] at q; cases q.1)]
theorem dgt_lt (n code i : Nat) : dgt n code i < 4 := Nat.mod_lt _ (by decide)
/-- what begins with the same digits -/
theorem dgt_pre {n d c x i : Nat} (hd : d ≤ n) (hi : i < d) (hx : x < 4 ^ (n - d)) : dgt n (c * 4 ^ (n - d) + x) i = dgt d c i := by
  unfold dgt
  have e : 4 ^ (n - 1 - i) = 4 ^ (n - d) * 4 ^ (d - 1 - i) := by
    rw [← Nat.pow_add]
    congr 1
    omega
  rw [e, ← Nat.div_div_eq_div_mul, Nat.mul_comm c, Nat.mul_add_div (Nat.pow_pos (by decide)), Nat.div_eq_of_lt hx, Nat.add_zero]
theorem dgt_last (d c t : Nat) (ht : t < 4) : dgt (d + 1) (4 * c + t) d = t := by
  unfold dgt
  rw [show d + 1 - 1 - d = 0 by omega, Nat.pow_zero]
  omega
theorem dgt_snoc {d c t i : Nat} (ht : t < 4) (hi : i < d) : dgt (d + 1) (4 * c + t) i = dgt d c i := by
  have := dgt_pre (n := d + 1) (d := d) (c := c) (x := t) (i := i) (by omega) hi (by rw [show d + 1 - d = 1 by omega]; exact ht)
  rw [show d + 1 - d = 1 by omega, Nat.pow_one, Nat.mul_comm] at this
  exact this
/-- a row whose beginning is no good is no good -/
theorem tou_pre {n d c x : Nat} (hd : d < n) (hx : x < 4 ^ (n - (d + 1))) (h : tok (d + 1) c d = false) : tou n (c * 4 ^ (n - (d + 1)) + x) = false := by
  refine al_no hd ?_
  have e : ∀ i, i ≤ d → dgt n (c * 4 ^ (n - (d + 1)) + x) i = dgt (d + 1) c i := fun i hi => dgt_pre (by omega) (by omega) hx
  unfold tok at h ⊢
  rw [e 0 (by omega), e d (Nat.le_refl _), al_cong (q := fun j => decide (dgt (d + 1) c j ≠ dgt (d + 1) c d)) (fun j hj => by rw [e j (by omega)])]
  exact h
theorem prF_rg {r f : Nat → Nat} (hr : ∀ k, k < 16 → 1 ≤ r k ∧ r k ≤ 9) (hf : ∀ i, f i < 4) : ∀ i, 1 ≤ prF r f i ∧ prF r f i ≤ 9 ^ i
  | 0 => ⟨Nat.le_refl _, Nat.le_refl _⟩
  | i + 1 => by
    have ih := prF_rg hr hf i
    have h1 := hf i
    have h2 := hf (i + 1)
    obtain ⟨k1, k2⟩ := hr (4 * f i + f (i + 1)) (by omega)
    unfold prF
    rw [Nat.pow_succ]
    exact ⟨Nat.mul_pos ih.1 k1, Nat.mul_le_mul ih.2 k2⟩
theorem prF_cong {r f f' : Nat → Nat} : ∀ i, (∀ j, j ≤ i → f j = f' j) → prF r f i = prF r f' i
  | 0, _ => rfl
  | i + 1, h => by
    unfold prF
    rw [prF_cong i (fun j hj => h j (by omega)), h i (by omega), h (i + 1) (by omega)]
theorem cpr_rg {r : Nat → Nat} (hr : ∀ k, k < 16 → 1 ≤ r k ∧ r k ≤ 9) {n code : Nat} (hn : n ≤ 4) : 1 ≤ cpr r n code ∧ cpr r n code ≤ 6561 := by
  have h := prF_rg hr (fun i => dgt_lt n code i) (n - 1)
  have h1 := dgt_lt n code (n - 1)
  have h2 := dgt_lt n code 0
  obtain ⟨k1, k2⟩ := hr (4 * dgt n code (n - 1) + dgt n code 0) (by omega)
  unfold cpr
  refine ⟨Nat.mul_pos h.1 k1, ?_⟩
  have h9 : 9 ^ (n - 1) ≤ 729 := Nat.le_trans (Nat.pow_le_pow_right (by decide) (show n - 1 ≤ 3 by omega)) (by decide)
  exact Nat.le_trans (Nat.mul_le_mul (Nat.le_trans h.2 h9) k2) (by decide)
theorem upS_rg {r : Nat → Nat} (hr : ∀ k, k < 16 → 1 ≤ r k ∧ r k ≤ 9) {s : Option (Nat × Nat)} (hs : lnS s ≤ 4) : 1 ≤ upS r s ∧ upS r s ≤ 6561 := by
  cases s with
  | none => exact ⟨Nat.le_refl _, show 1 ≤ 6561 by decide⟩
  | some x => exact cpr_rg hr hs
theorem stp_ln {ra rb : Nat → Nat} {n code : Nat} {s : Option (Nat × Nat)} (hn : n ≤ 4) (hs : lnS s ≤ 4) : lnS (stp ra rb n code s) ≤ 4 := by
  unfold stp
  split
  · exact hn
  · exact hs
theorem scn_ln {ra rb : Nat → Nat} {n lo : Nat} {s : Option (Nat × Nat)} (hn : n ≤ 4) (hs : lnS s ≤ 4) : ∀ m, lnS (scn ra rb n lo s m) ≤ 4
  | 0 => hs
  | m + 1 => stp_ln hn (scn_ln hn hs m)
theorem rnd_ln {ra rb : Nat → Nat} : ∀ k, k ≤ 3 → lnS (rnd ra rb k) ≤ 4
  | 0, _ => show 0 ≤ 4 by decide
  | k + 1, h => scn_ln (by omega) (rnd_ln k (by omega)) _
theorem mul_sm {a b : Nat} (ha : a ≤ 6561) (hb : b ≤ 6561) : a * b < 2 ^ 31 := Nat.lt_of_le_of_lt (Nat.mul_le_mul ha hb) (by decide)
section RD2
variable {BA : pv_BA} {c v : Nat} {M : pv_M} {n : Nat → Nat} {b : Nat → Nat → Nat} {cn : Nat} {cf : Nat → Nat → Nat} {kn : Nat} {kf : Nat → Nat → Nat} {bn : Nat} {bf : Nat → Nat → Nat} {l d : Nat} {pu ra rb : Nat → Nat} {P V : Nat} {T : Nat → Nat → Nat → Nat} {U : Nat → Nat} {H : Nat → Int}
def CB (S : pv_M) (ra rb : Nat → Nat) (s : Option (Nat × Nat)) : Prop := S.1 183 0 = nI (upS ra s) ∧ S.1 183 1 = nI (upS rb s) ∧ S.1 183 2 = nI (lnS s) ∧ lnS s ≤ 4 ∧ ∀ i, i < lnS s → S.1 184 i = nI (twS s i)
def RAg (ra rb : Nat → Nat) : Prop := (∀ k, k < 16 → 1 ≤ ra k ∧ ra k ≤ 9) ∧ ∀ k, k < 16 → 1 ≤ rb k ∧ rb k ≤ 9
def RM (S : pv_M) (ra rb : Nat → Nat) : Prop := ∀ k, k < 16 → S.1 186 k = nI (ra k) ∧ S.1 187 k = nI (rb k)
theorem x_come {S : pv_M} {ra rb : Nat → Nat} (hr : RAg ra rb) {s : Option (Nat × Nat)} (hS : CB S ra rb s) {m code : Nat} (hm : m ≤ 4) (ht : tou m code = true) (hw : ∀ i, i < m → S.1 185 i = nI (dgt m code i)) : ∃ S', f_X6_comeBack (nI m) (nI (cpr ra m code)) (nI (cpr rb m code)) S = some ((), S') ∧ CB S' ra rb (stp ra rb m code s) ∧ ∀ a c, ¬ (a = 183 ∨ a = 184) → S'.1 a c = S.1 a c := by
  obtain ⟨c1, c2, c3, c4, c5⟩ := hS
  have u1 := upS_rg hr.1 c4
  have u2 := upS_rg hr.2 c4
  have p1 := cpr_rg hr.1 (code := code) hm
  have p2 := cpr_rg hr.2 (code := code) hm
  unfold f_X6_comeBack stp
  rw [pv_nm_eq, c2, pv_nm_eq, c1, pk_mul, pk_mul, ite_lt (mul_sm u1.2 p2.2) (mul_sm p1.2 u2.2)]
  by_cases e : upS ra s * cpr rb m code < cpr ra m code * upS rb s
  · rw [if_pos e, if_pos ⟨ht, e⟩, pv_nm_eq, pv_nm_eq, pv_nm_eq]
    generalize hN : ((pv_u (pv_u (pv_u S.1 183 0 (nI (cpr ra m code)), S.2).1 183 1 (nI (cpr rb m code)), (pv_u S.1 183 0 (nI (cpr ra m code)), S.2).2).1 183 2 (nI m), (pv_u (pv_u S.1 183 0 (nI (cpr ra m code)), S.2).1 183 1 (nI (cpr rb m code)), (pv_u S.1 183 0 (nI (cpr ra m code)), S.2).2).2) : pv_M) = N
    have hNc : ∀ a c, N.1 a c = if a = 183 ∧ c = 2 then nI m else if a = 183 ∧ c = 1 then nI (cpr rb m code) else if a = 183 ∧ c = 0 then nI (cpr ra m code) else S.1 a c := fun a c => by rw [← hN, fst_u, fst_u, fst_u]
    obtain ⟨k1, k2, k3⟩ := x_cpy (M := N) (a := 185) (b := 184) (i := 0) (j := 0) (k := m) sa_185 sa_184 (by omega) (by omega)
    rw [show pv_cpyb pv_T 185 0 184 0 (nI m) = true from k1, pv_ck_true, pv_nm_eq]
    have k3' : ∀ a c, (pv_cpy N 185 0 184 0 (nI m)).1 a c = if a = 184 ∧ 0 ≤ c ∧ c < 0 + m then N.1 185 (0 + (c - 0)) else N.1 a c := k3
    refine ⟨_, rfl, ⟨?_, ?_, ?_, hm, fun i hi => ?_⟩, fun a c q => ?_⟩
    · rw [k3', if_neg (by omega), hNc, if_neg (by omega), if_neg (by omega), if_pos ⟨rfl, rfl⟩]
      rfl
    · rw [k3', if_neg (by omega), hNc, if_neg (by omega), if_pos ⟨rfl, rfl⟩]
      rfl
    · rw [k3', if_neg (by omega), hNc, if_pos ⟨rfl, rfl⟩]
      rfl
    · have hi' : i < m := hi
      rw [k3', if_pos (by omega), hNc, if_neg (by omega), if_neg (by omega), if_neg (by omega), show 0 + (i - 0) = i by omega, hw i hi']
      rfl
    · rw [k3', if_neg (by omega), hNc, if_neg (by omega), if_neg (by omega), if_neg (by omega)]
  · rw [if_neg e, if_neg (fun q => e q.2)]
    exact ⟨S, rfl, ⟨c1, c2, c3, c4, c5⟩, fun _ _ _ => rfl⟩
theorem x_onWay {S : pv_M} {d c t : Nat} (hd : d ≤ 4) (ht : t < 4) (hw : ∀ i, i < d → S.1 185 i = nI (dgt d c i)) : f_X6_isOnWay (nI t) (nI d) S = some (if al (fun j => decide (dgt d c j ≠ t)) d = true then 0 else 1) := by
  unfold f_X6_isOnWay
  refine for1 d (fun i => ∀ j, j < i → dgt d c j ≠ t) (fun q => q = some (if al (fun j => decide (dgt d c j ≠ t)) d = true then 0 else 1)) ?_ ?_ pv_FU 0 (Nat.zero_le _) (by show d - 0 < 5000; omega) (fun j hj => absurd hj (Nat.not_lt_zero _))
  · intro rec hI
    unfold f_X6_isOnWay_L2
    rw [if_pos (nI_le (Nat.le_refl _) (by omega)), if_pos]
    rw [al_iff]
    exact fun i hi => decide_eq_true (hI i hi)
  · intro rec i hi hI hrec
    have hl := dgt_lt d c i
    unfold f_X6_isOnWay_L2
    rw [if_neg (nI_ge hi (by omega)), ld_185 (by omega), hw i hi, ite_eq (by omega) (by omega), nI_1]
    by_cases e : dgt d c i = t
    · rw [if_pos e, al_no hi (decide_eq_false (fun q => q e)), if_neg (by decide)]
    · rw [if_neg e]
      exact hrec (fun j hj => by
        by_cases e2 : j = i
        · rw [e2]; exact e
        · exact hI j (by omega))
theorem x_goOn {ra rb : Nat → Nat} (hr : RAg ra rb) {m : Nat} (hm : m ≤ 4) : ∀ (D d c : Nat) (s : Option (Nat × Nat)) (S : pv_M), m - d < D → 1 ≤ d → d ≤ m → RM S ra rb → CB S ra rb s → (∀ i, i < d → S.1 185 i = nI (dgt d c i)) → (∀ i, i < d → tok d c i = true) → ∃ S', f_X6_goOn D (nI d) (nI m) (nI (prF ra (dgt d c) (d - 1))) (nI (prF rb (dgt d c) (d - 1))) S = some ((), S') ∧ CB S' ra rb (scn ra rb m (c * 4 ^ (m - d)) s (4 ^ (m - d))) ∧ ∀ a x, ¬ (a = 183 ∨ a = 184 ∨ (a = 185 ∧ d ≤ x)) → S'.1 a x = S.1 a x
  | 0, d, c, s, S, h, _, _, _, _, _, _ => absurd h (Nat.not_lt_zero _)
  | D + 1, d, c, s, S, hD, hd, hdm, hR, hS, hw, htk => by
    have hd1 : d - 1 < d := by omega
    have l0 := dgt_lt d c 0
    have l1 := dgt_lt d c (d - 1)
    show ∃ S', f_X6_goOn_B (f_X6_goOn D) (nI d) (nI m) (nI (prF ra (dgt d c) (d - 1))) (nI (prF rb (dgt d c) (d - 1))) S = some ((), S') ∧ _
    unfold f_X6_goOn_B
    rw [show nI d - 1 = nI (d - 1) from pk_sub (a := d) (b := 1) hd, ld_185 (by omega), hw _ hd1, show (4 : Int32) = nI 4 from rfl, pk_mul, pv_nm_eq, ite_lt (by omega) (by omega), show (0 : Int32) = nI 0 from rfl, ld_185 (by decide), hw 0 (by omega), nI_1, pv_nm_eq]
    by_cases e : d < m
    · rw [if_pos e]
      obtain ⟨w, hwd⟩ : ∃ w, w = 4 ^ (m - (d + 1)) := ⟨_, rfl⟩
      have h4 : 4 ^ (m - d) = 4 * w := by
        rw [hwd, show m - d = m - (d + 1) + 1 by omega, Nat.pow_succ, Nat.mul_comm]
      have hlo : ∀ t, c * 4 ^ (m - d) + t * w = (4 * c + t) * w := fun t => by
        rw [h4, Nat.add_mul]
        congr 1
        rw [← Nat.mul_assoc, Nat.mul_comm c 4]
      have hbad : ∀ t s', t < 4 → tok (d + 1) (4 * c + t) d = false → scn ra rb m (c * 4 ^ (m - d) + t * w) s' w = s' := fun t s' ht hb => by
        refine scn_skip w (fun j h1 h2 => ?_)
        rw [hlo] at h1 h2
        obtain ⟨x, hx⟩ : ∃ x, j = (4 * c + t) * w + x := ⟨j - (4 * c + t) * w, by omega⟩
        rw [hx, hwd]
        exact tou_pre e (by rw [← hwd]; omega) hb
      have hstep : ∀ t, scn ra rb m (c * 4 ^ (m - d)) s ((t + 1) * w) = scn ra rb m (c * 4 ^ (m - d) + t * w) (scn ra rb m (c * 4 ^ (m - d)) s (t * w)) w := fun t => by
        rw [Nat.succ_mul]
        exact scn_add ra rb m (c * 4 ^ (m - d)) s (t * w) w
      have htok : ∀ t, t < 4 → tok (d + 1) (4 * c + t) d = (decide (dgt d c 0 ≤ t) && al (fun j => decide (dgt d c j ≠ t)) d) := fun t ht => by
        unfold tok
        rw [dgt_last d c t ht, dgt_snoc ht (show 0 < d by omega), al_cong (q := fun j => decide (dgt d c j ≠ t)) (fun j hj => by rw [dgt_snoc ht hj])]
      have hlow : ∀ t, t ≤ dgt d c 0 + 1 → scn ra rb m (c * 4 ^ (m - d)) s (t * w) = s := by
        intro t
        induction t with
        | zero => intro _; rw [Nat.zero_mul]; rfl
        | succ t ih =>
          intro ht
          rw [hstep, ih (by omega)]
          refine hbad t s (by omega) ?_
          rw [htok t (by omega)]
          by_cases q : dgt d c 0 = t
          · rw [al_no (show 0 < d by omega) (decide_eq_false (fun z => z q)), Bool.and_false]
          · rw [decide_eq_false (by omega), Bool.false_and]
      rw [h4]
      refine for2 4 (fun t (R : pv_M) => dgt d c 0 + 1 ≤ t ∧ CB R ra rb (scn ra rb m (c * (4 * w)) s (t * w)) ∧ ∀ a x, ¬ (a = 183 ∨ a = 184 ∨ (a = 185 ∧ d ≤ x)) → R.1 a x = S.1 a x) (fun q => ∃ S' : pv_M, q = some ((), S') ∧ CB S' ra rb (scn ra rb m (c * (4 * w)) s (4 * w)) ∧ ∀ a x, ¬ (a = 183 ∨ a = 184 ∨ (a = 185 ∧ d ≤ x)) → S'.1 a x = S.1 a x) ?_ ?_ pv_FU (dgt d c 0 + 1) S (by omega) (by show 4 - (dgt d c 0 + 1) < 5000; omega) ⟨Nat.le_refl _, by rw [← h4, hlow _ (Nat.le_refl _)]; exact hS, fun _ _ _ => rfl⟩
      · rintro rec R ⟨-, r1, r2⟩
        unfold f_X6_goOn_L66
        rw [if_pos (by decide)]
        exact ⟨R, rfl, r1, r2⟩
      · rintro rec t R ht ⟨ht1, r1, r2⟩ hrec
        have hwR : ∀ i, i < d → R.1 185 i = nI (dgt d c i) := fun i hi => by rw [r2 _ _ (by omega)]; exact hw i hi
        have hs := hstep t
        rw [h4] at hs
        unfold f_X6_goOn_L66
        rw [show (4 : Int32) = nI 4 from rfl, if_neg (nI_ge ht (by decide)), x_onWay (by omega) ht hwR, pv_cap_some, nI_1]
        by_cases ew : al (fun j => decide (dgt d c j ≠ t)) d = true
        · have hRM : RM R ra rb := fun k hk => by rw [r2 _ _ (by omega), r2 _ _ (by omega)]; exact hR k hk
          obtain ⟨k1, k2⟩ := hRM (dgt d c (d - 1) * 4 + t) (by omega)
          rw [if_pos ew, if_pos rfl, st_185 (by omega), nI_add, ld_186 (by omega), fst_u, if_neg (by omega), k1, ld_187 (by omega), fst_u, if_neg (by omega), k2, pk_mul, pk_mul, nI_1]
          have hpr : ∀ r : Nat → Nat, prF r (dgt d c) (d - 1) * r (dgt d c (d - 1) * 4 + t) = prF r (dgt (d + 1) (4 * c + t)) (d + 1 - 1) := fun r => by
            obtain ⟨d', rfl⟩ : ∃ d', d = d' + 1 := ⟨d - 1, by omega⟩
            rw [show d' + 1 + 1 - 1 = d' + 1 by omega, show d' + 1 - 1 = d' by omega]
            conv => rhs; unfold prF
            rw [prF_cong (f := dgt (d' + 1 + 1) (4 * c + t)) (f' := dgt (d' + 1) c) d' (fun j hj => dgt_snoc ht (by omega)), dgt_snoc ht (show d' < d' + 1 by omega), dgt_last (d' + 1) c t ht, Nat.mul_comm 4]
          obtain ⟨S', g1, g2, g3⟩ := x_goOn hr hm D (d + 1) (4 * c + t) (scn ra rb m (c * (4 * w)) s (t * w)) (pv_u R.1 185 d (nI t), R.2) (by omega) (by omega) (by omega) (fun k hk => by rw [fst_u, if_neg (by omega), fst_u, if_neg (by omega)]; exact hRM k hk) (by
            obtain ⟨c1, c2, c3, c4, c5⟩ := r1
            exact ⟨by rw [fst_u, if_neg (by omega)]; exact c1, by rw [fst_u, if_neg (by omega)]; exact c2, by rw [fst_u, if_neg (by omega)]; exact c3, c4, fun i hi => by rw [fst_u, if_neg (by omega)]; exact c5 i hi⟩) (fun i hi => by
            rw [fst_u]
            by_cases ei : i = d
            · rw [if_pos ⟨rfl, ei⟩, ei, dgt_last d c t ht]
            · rw [if_neg (fun z => ei z.2), dgt_snoc ht (show i < d by omega)]
              exact hwR i (by omega)) (fun i hi => by
            by_cases ei : i = d
            · rw [ei, htok t ht, ew, decide_eq_true (by omega)]
              rfl
            · have hi' : i < d := by omega
              have := htk i hi'
              unfold tok at this ⊢
              rw [dgt_snoc ht hi', dgt_snoc ht (show 0 < d by omega), al_cong (q := fun j => decide (dgt d c j ≠ dgt d c i)) (fun j hj => by rw [dgt_snoc ht (show j < d by omega)])]
              exact this)
          rw [hpr, hpr, g1, pv_cal_some]
          refine hrec _ ⟨by omega, ?_, fun a x q => ?_⟩
          · rw [hs, ← h4, hlo, hwd]
            rw [← hwd, ← h4] at g2
            rw [hwd] at g2
            exact g2
          · rw [g3 a x (by omega), fst_u, if_neg (by omega)]
            exact r2 a x q
        · rw [if_neg ew, if_neg (by decide), nI_1]
          refine hrec _ ⟨by omega, ?_, r2⟩
          rw [hs]
          have hb := hbad t (scn ra rb m (c * (4 * w)) s (t * w)) ht (by rw [htok t ht, show al (fun j => decide (dgt d c j ≠ t)) d = false by simpa using ew, Bool.and_false])
          rw [h4] at hb
          rw [hb]
          exact r1
    · have hdm2 : d = m := by omega
      subst hdm2
      obtain ⟨k1, k2⟩ := hR (dgt d c (d - 1) * 4 + dgt d c 0) (by omega)
      have htt : tou d c = true := (al_iff _ _).mpr htk
      obtain ⟨S', g1, g2, g3⟩ := x_come hr hS hm htt hw
      have hcp : ∀ r : Nat → Nat, prF r (dgt d c) (d - 1) * r (dgt d c (d - 1) * 4 + dgt d c 0) = cpr r d c := fun r => by unfold cpr; rw [Nat.mul_comm 4]
      rw [if_neg e, ld_185 (by decide), hw 0 (by omega), nI_add, ld_186 (by omega), k1, ld_185 (by decide), hw 0 (by omega), nI_add, ld_187 (by omega), k2, pk_mul, pk_mul, hcp, hcp, g1, pv_cal_some]
      refine ⟨S', rfl, ?_, fun a x q => g3 a x (by omega)⟩
      rw [Nat.sub_self, Nat.pow_zero, Nat.mul_one]
      exact g2
end RD2
