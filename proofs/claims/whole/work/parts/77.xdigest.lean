theorem for3g {ρ A B : Type} {body : (A → Int32 → B → Option ρ) → A → Int32 → B → Option ρ} (cn : Nat → Int32) (n : Nat) (I : Nat → A → B → Prop) (P : Option ρ → Prop) (hx : ∀ rec a b, I n a b → P (body rec a (cn n) b)) (hs : ∀ rec i a b, i < n → I i a b → (∀ a' b', I (i + 1) a' b' → P (rec a' (cn (i + 1)) b')) → P (body rec a (cn i) b)) : ∀ (F i : Nat) (a : A) (b : B), i ≤ n → n - i < F → I i a b → P (pv_lp3 body F a (cn i) b)
  | 0, _, _, _, _, h, _ => absurd h (Nat.not_lt_zero _)
  | F + 1, i, a, b, hi, hF, hI => by
    show P (body (pv_lp3 body F) a (cn i) b)
    rcases Nat.lt_or_ge i n with h | h
    · exact hs _ i a b h hI (fun a' b' hI' => for3g cn n I P hx hs F (i + 1) a' b' h (by omega) hI')
    · have e : i = n := by omega
      subst e
      exact hx _ a b hI
theorem for2g {ρ S : Type} {body : (S → Int32 → Option ρ) → S → Int32 → Option ρ} (cn : Nat → Int32) (n : Nat) (I : Nat → S → Prop) (P : Option ρ → Prop) (hx : ∀ rec s, I n s → P (body rec s (cn n))) (hs : ∀ rec i s, i < n → I i s → (∀ s', I (i + 1) s' → P (rec s' (cn (i + 1)))) → P (body rec s (cn i))) : ∀ (F i : Nat) (s : S), i ≤ n → n - i < F → I i s → P (pv_lp2 body F s (cn i))
  | 0, _, _, _, h, _ => absurd h (Nat.not_lt_zero _)
  | F + 1, i, s, hi, hF, hI => by
    show P (body (pv_lp2 body F) s (cn i))
    rcases Nat.lt_or_ge i n with h | h
    · exact hs _ i s h hI (fun s' hI' => for2g cn n I P hx hs F (i + 1) s' h (by omega) hI')
    · have e : i = n := by omega
      subst e
      exact hx _ s hI
/-! the digest, as both make it -/
def fo (v : Nat → Int64) (h : Int64) : Nat → Int64
  | 0 => h
  | k + 1 => 31 * fo v h k + v k
def foP (v w : Nat → Int64) (h : Int64) : Nat → Int64
  | 0 => h
  | k + 1 => 31 * (31 * foP v w h k + v k) + w k
def foY (e g : Nat → Int64) (t v : Nat → Nat → Int64) (P : Nat) (h : Int64) : Nat → Int64
  | 0 => h
  | k + 1 => foP (t k) (v k) (31 * (31 * foY e g t v P h k + e k) + g k) P
def dyr (i : Nat) : Nat := if i = 0 then 0 else if i = 1 then 1 else 9
theorem dyr_lt (i : Nat) : dyr i < 10 := by unfold dyr; split; · decide
                                            · split <;> decide
section DD
variable (P V : Nat) (T : Nat → Nat → Nat → Nat) (U : Nat → Nat) (H : Nat → Int) (l : Nat)
def eVk (k : Nat) : Int64 := (elv P V T U H l (dyr (k / 3)) (k % 3)).toInt64
def gVk (k : Nat) : Int64 := (nI (grt P V T U H l (dyr (k / 3)) (k % 3))).toInt64
def tVk (k p : Nat) : Int64 := (nI (T (dyr (k / 3)) p (k % 3))).toInt64
def vVk (k p : Nat) : Int64 := (nI (tly P V T U H l (dyr (k / 3)) (k % 3) (olds P V T U H l (k % 3) (dyr (k / 3))) p)).toInt64
def DY (h : Int64) : Int64 := 31 * foY (eVk P V T U H l) (gVk P V T U H l) (tVk T) (vVk P V T U H l) P h 9 + (nI (spl P V T U H 30)).toInt64
def hgV (w : Nat) : Int32 := if w < V then oldI (hdg P T U H w 1000) else -2
def DV (h : Int64) : Int64 := foP (fun p => (wnV P V T U H p 0).toInt64) (fun p => (wnV P V T U H p 1).toInt64) (31 * (31 * h + (rstV P V T U H 0).toInt64) + (nI (if P = 0 then 0 else rsts P V T U H)).toInt64) P
end DD
def ruV (pu : Nat → Nat) (kn : Nat) (kf G : Nat → Nat → Nat) (d x : Nat) : Int32 := if fa_first (rui pu kn kf G d) 80 < 80 then nI (kf (fa_first (rui pu kn kf G d) 80 % 8) (5 * x)) else -1
def DP (pu : Nat → Nat) (kn : Nat) (kf : Nat → Nat → Nat) (l d P V : Nat) (T : Nat → Nat → Nat → Nat) (U : Nat → Nat) (H : Nat → Int) (h : Int64) : Int64 := fo (fun i => (wrs kf (grt P V T U H l) i).toInt64) (fo (fun x => (ruV pu kn kf (grt P V T U H l) d x).toInt64) (foP (fun w => (iI (mny pu kf (grt P V T U H l) d w 9 kn)).toInt64) (fun w => (hgV P V T U H w).toInt64) h 8) 2) kn
noncomputable def DR (n : Nat) (b : Nat → Nat) (h : Int64) : Int64 := 31 * (31 * foP (fun i => wrV n b 0 (i + 1) 0) (fun i => wrV n b 0 (i + 1) 1) h 5 + (clV n b).toInt64) + (oldI (drO n b (2 ^ itm 2 n b))).toInt64
def DO (ra rb : Nat → Nat) (h : Int64) : Int64 := fo (fun j => (rdV ra rb j).toInt64) h 5
theorem mix_eq (a b : Int64) (M : pv_M) : f_X8_mix a b M = some (31 * a + b) := rfl
section XD
variable {BA : pv_BA} {c v : Nat} {M : pv_M} {n : Nat → Nat} {b : Nat → Nat → Nat} {cn : Nat} {cf : Nat → Nat → Nat} {kn : Nat} {kf : Nat → Nat → Nat} {bn : Nat} {bf : Nat → Nat → Nat} {l d : Nat} {pu ra rb : Nat → Nat} {P V : Nat} {T : Nat → Nat → Nat → Nat} {U : Nat → Nat} {H : Nat → Int}
theorem xd_Y (K : KS BAo c v M n b cn cf kn kf bn bf l d pu ra rb P V T U H) (hc : c < 900) (h0 : Int64) : ∃ M', f_X8_mixYears h0 M = some (DY P V T U H l h0, M') ∧ KS BAo c v M' n b cn cf kn kf bn bf l d pu ra rb P V T U H := by
  have hw := K.wf
  have hw1 := hw.1
  obtain ⟨F, hF⟩ : ∃ F : Nat → Int64, F = foY (eVk P V T U H l) (gVk P V T U H l) (tVk T) (vVk P V T U H l) P h0 := ⟨_, rfl⟩
  have hFs : ∀ k, F (k + 1) = foP (tVk T k) (vVk P V T U H l k) (31 * (31 * F k + eVk P V T U H l k) + gVk P V T U H l k) P := fun k => by rw [hF]; rfl
  have hD : DY P V T U H l h0 = 31 * F 9 + (nI (spl P V T U H 30)).toInt64 := by rw [hF]; rfl
  rw [hD]
  unfold f_X8_mixYears
  rw [pv_jn_eq]
  refine for3b 3 (fun i (x : Int64) (S : pv_M) => x = F (3 * i) ∧ S = M) (fun q => ∃ M' : pv_M, q = some (31 * F 9 + (nI (spl P V T U H 30)).toInt64, M') ∧ KS BAo c v M' n b cn cf kn kf bn bf l d pu ra rb P V T U H) ?_ ?_ pv_FU 0 h0 M (by decide) (by decide) ⟨by rw [hF]; rfl, rfl⟩
  · rintro rec x S ⟨rfl, rfl⟩
    unfold f_X8_mixYears_L15
    rw [if_pos (by decide)]
    obtain ⟨M', e1, K', -⟩ := xs_split BAo_ok K hc
    dsimp only
    rw [e1, pv_cal_some, mix_eq, pv_cap_some]
    exact ⟨M', rfl, K'⟩
  · rintro rec i x S hi ⟨rfl, rfl⟩ hrec
    have hdy : pv_dy i = nI (dyr i) := by rcases (show i = 0 ∨ i = 1 ∨ i = 2 by omega) with rfl | rfl | rfl <;> rfl
    have hy := dyr_lt i
    unfold f_X8_mixYears_L15
    rw [show (3 : Int32) = nI 3 from rfl, if_neg (nI_ge hi (by decide)), nI_clamp (by omega), decide_eq_true (nI_pos (show i < 2 ^ 31 by omega)), decide_eq_true hi, show (true && true) = true from rfl, pv_ck_true, hdy, pv_nm_eq]
    refine for3b 3 (fun u (x : Int64) (R : pv_M) => x = F (3 * i + u) ∧ R = S) (fun q => ∃ M' : pv_M, q = some (31 * F 9 + (nI (spl P V T U H 30)).toInt64, M') ∧ KS BAo c v M' n b cn cf kn kf bn bf l d pu ra rb P V T U H) ?_ ?_ pv_FU 0 _ S (by decide) (by decide) ⟨rfl, rfl⟩
    · rintro rec2 x R ⟨rfl, rfl⟩
      unfold f_X8_mixYears_L32
      rw [if_pos (by decide), nI_1]
      exact hrec _ _ ⟨by rw [show 3 * (i + 1) = 3 * i + 3 by omega], rfl⟩
    · rintro rec2 u x R hu ⟨rfl, rfl⟩ hrec2
      have q1 : (3 * i + u) / 3 = i := by omega
      have q2 : (3 * i + u) % 3 = u := by omega
      unfold f_X8_mixYears_L32
      rw [show (3 : Int32) = nI 3 from rfl, if_neg (nI_ge hu (by decide)), xs_elected K hc hy hu, pv_cal_some, mix_eq, pv_cap_some, xs_great K hc hy hu, pv_cal_some, mix_eq, pv_cap_some]
      have he : (elv P V T U H l (dyr i) u).toInt64 = eVk P V T U H l (3 * i + u) := by unfold eVk; rw [q1, q2]
      have hg : (nI (grt P V T U H l (dyr i) u)).toInt64 = gVk P V T U H l (3 * i + u) := by unfold gVk; rw [q1, q2]
      rw [he, hg]
      refine for3b P (fun p (x : Int64) (B : pv_M) => x = foP (tVk T (3 * i + u)) (vVk P V T U H l (3 * i + u)) (31 * (31 * F (3 * i + u) + eVk P V T U H l (3 * i + u)) + gVk P V T U H l (3 * i + u)) p ∧ B = R) (fun q => ∃ M' : pv_M, q = some (31 * F 9 + (nI (spl P V T U H 30)).toInt64, M') ∧ KS BAo c v M' n b cn cf kn kf bn bf l d pu ra rb P V T U H) ?_ ?_ pv_FU 0 _ R (Nat.zero_le _) (by show P - 0 < 5000; omega) ⟨rfl, rfl⟩
      · rintro rec3 x B ⟨rfl, rfl⟩
        unfold f_X8_mixYears_L69
        rw [pv_nm_eq, K.xr.1, if_pos (nI_le (Nat.le_refl _) (by omega)), nI_1]
        exact hrec2 _ _ ⟨by rw [show 3 * i + (u + 1) = 3 * i + u + 1 by omega, hFs], rfl⟩
      · rintro rec3 p x B hp ⟨rfl, rfl⟩ hrec3
        unfold f_X8_mixYears_L69
        rw [pv_nm_eq, K.xr.1, if_neg (nI_ge hp (by omega)), xs_ticket K hc hy hp hu, pv_cal_some, mix_eq, pv_cap_some, xs_votes K hc hy hu hp, pv_cal_some, mix_eq, pv_cap_some, nI_1]
        refine hrec3 _ _ ⟨?_, rfl⟩
        conv => rhs; unfold foP
        unfold tVk vVk
        rw [q1, q2]
theorem xd_P (K : KS BAo c v M n b cn cf kn kf bn bf l d pu ra rb P V T U H) (hc : c < 900) (h0 : Int64) : ∃ M', f_X8_mixPeople h0 M = some (DP pu kn kf l d P V T U H h0, M') ∧ KS BAo c v M' n b cn cf kn kf bn bf l d pu ra rb P V T U H := by
  obtain ⟨F1, hF1⟩ : ∃ F1 : Nat → Int64, F1 = foP (fun w => (iI (mny pu kf (grt P V T U H l) d w 9 kn)).toInt64) (fun w => (hgV P V T U H w).toInt64) h0 := ⟨_, rfl⟩
  have hF1s : ∀ w, F1 (w + 1) = 31 * (31 * F1 w + (iI (mny pu kf (grt P V T U H l) d w 9 kn)).toInt64) + (hgV P V T U H w).toInt64 := fun w => by rw [hF1]; rfl
  obtain ⟨h2, hh2⟩ : ∃ h2 : Int64, h2 = fo (fun x => (ruV pu kn kf (grt P V T U H l) d x).toInt64) (F1 8) 2 := ⟨_, rfl⟩
  have hD : DP pu kn kf l d P V T U H h0 = fo (fun i => (wrs kf (grt P V T U H l) i).toInt64) h2 kn := by rw [hh2, hF1]; rfl
  rw [hD]
  unfold f_X8_mixPeople
  rw [pv_jn_eq]
  refine for3b 8 (fun w (x : Int64) (S : pv_M) => x = F1 w ∧ KS BAo c v S n b cn cf kn kf bn bf l d pu ra rb P V T U H) (fun q => ∃ M' : pv_M, q = some (fo (fun i => (wrs kf (grt P V T U H l) i).toInt64) h2 kn, M') ∧ KS BAo c v M' n b cn cf kn kf bn bf l d pu ra rb P V T U H) ?_ ?_ pv_FU 0 h0 M (by decide) (by decide) ⟨by rw [hF1]; rfl, K⟩
  · rintro rec x S ⟨rfl, KS'⟩
    obtain ⟨M1, e1, K1, -⟩ := xs_ruined BAo_ok KS' hc (x := 0) (by decide)
    obtain ⟨M2, e2, K2, -⟩ := xs_ruined BAo_ok K1 hc (x := 1) (by decide)
    have hkn := K2.2.2.1.1
    unfold f_X8_mixPeople_L5
    rw [if_pos (by decide)]
    dsimp only
    rw [show f_X8_ruined 0 S = some (ruV pu kn kf (grt P V T U H l) d 0, M1) from e1, pv_cal_some, mix_eq, pv_cap_some, show f_X8_ruined 1 M1 = some (ruV pu kn kf (grt P V T U H l) d 1, M2) from e2, pv_cal_some, mix_eq, pv_cap_some]
    refine for3b kn (fun i (x : Int64) (R : pv_M) => x = fo (fun i => (wrs kf (grt P V T U H l) i).toInt64) h2 i ∧ R = M2) (fun q => ∃ M' : pv_M, q = some (fo (fun i => (wrs kf (grt P V T U H l) i).toInt64) h2 kn, M') ∧ KS BAo c v M' n b cn cf kn kf bn bf l d pu ra rb P V T U H) ?_ ?_ pv_FU 0 _ M2 (Nat.zero_le _) (by show kn - 0 < 5000; omega) ⟨by rw [hh2]; rfl, rfl⟩
    · rintro rec2 x R ⟨rfl, rfl⟩
      unfold f_X8_mixPeople_L69
      rw [pv_nm_eq, K2.2.2.1.2.1, if_pos (nI_le (Nat.le_refl _) (by omega))]
      exact ⟨R, rfl, K2⟩
    · rintro rec2 i x R hi ⟨rfl, rfl⟩ hrec2
      unfold f_X8_mixPeople_L69
      rw [pv_nm_eq, K2.2.2.1.2.1, if_neg (nI_ge hi (by omega)), xs_worst K2 hc hi, pv_cal_some, mix_eq, pv_cap_some, nI_1]
      exact hrec2 _ _ ⟨rfl, rfl⟩
  · rintro rec w x S hw ⟨rfl, KS'⟩ hrec
    obtain ⟨M1, e1, K1, -⟩ := xs_hedge KS' hc w hw
    unfold f_X8_mixPeople_L5
    rw [show (8 : Int32) = nI 8 from rfl, if_neg (nI_ge hw (by decide)), show f_X8_money (nI w) 9 S = _ from xs_money KS' hc hw (show 9 < 10 by decide), pv_cal_some, mix_eq, pv_cap_some, e1, pv_cal_some, mix_eq, pv_cap_some, nI_1]
    exact hrec _ _ ⟨by rw [hF1s]; rfl, K1⟩
theorem xd_V (K : KS BAo c v M n b cn cf kn kf bn bf l d pu ra rb P V T U H) (hc : c < 900) (h0 : Int64) : ∃ M', f_X8_mixVotes h0 M = some (DV P V T U H h0, M') ∧ KS BAo c v M' n b cn cf kn kf bn bf l d pu ra rb P V T U H := by
  have hw1 := K.wf.1
  obtain ⟨M1, e1, K1, -⟩ := xs_rest K hc (row := 0) (by decide)
  obtain ⟨M2, e2, K2, -⟩ := xs_rests K1 hc
  obtain ⟨h1, hh1⟩ : ∃ h1 : Int64, h1 = 31 * (31 * h0 + (rstV P V T U H 0).toInt64) + (nI (if P = 0 then 0 else rsts P V T U H)).toInt64 := ⟨_, rfl⟩
  have hD : DV P V T U H h0 = foP (fun p => (wnV P V T U H p 0).toInt64) (fun p => (wnV P V T U H p 1).toInt64) h1 P := by rw [hh1]; rfl
  rw [hD]
  unfold f_X8_mixVotes
  rw [show f_X8_rest 0 M = some (rstV P V T U H 0, M1) from e1, pv_cal_some, mix_eq, pv_cap_some, e2, pv_cal_some, mix_eq, pv_cap_some, ← hh1]
  refine for3b P (fun p (x : Int64) (S : pv_M) => x = foP (fun p => (wnV P V T U H p 0).toInt64) (fun p => (wnV P V T U H p 1).toInt64) h1 p ∧ KS BAo c v S n b cn cf kn kf bn bf l d pu ra rb P V T U H) (fun q => ∃ M' : pv_M, q = some (foP (fun p => (wnV P V T U H p 0).toInt64) (fun p => (wnV P V T U H p 1).toInt64) h1 P, M') ∧ KS BAo c v M' n b cn cf kn kf bn bf l d pu ra rb P V T U H) ?_ ?_ pv_FU 0 h1 M2 (Nat.zero_le _) (by show P - 0 < 5000; omega) ⟨rfl, K2⟩
  · rintro rec x S ⟨rfl, KS'⟩
    unfold f_X8_mixVotes_L24
    rw [pv_nm_eq, KS'.xr.1, if_pos (nI_le (Nat.le_refl _) (by omega))]
    exact ⟨S, rfl, KS'⟩
  · rintro rec p x S hp ⟨rfl, KS'⟩ hrec
    obtain ⟨N1, g1, L1, -⟩ := xs_wins KS' hc hp (x := 0) (by decide)
    obtain ⟨N2, g2, L2, -⟩ := xs_wins L1 hc hp (x := 1) (by decide)
    unfold f_X8_mixVotes_L24
    rw [pv_nm_eq, KS'.xr.1, if_neg (nI_ge hp (by omega)), show f_X8_wins (nI p) 0 S = some (wnV P V T U H p 0, N1) from g1, pv_cal_some, mix_eq, pv_cap_some, show f_X8_wins (nI p) 1 N1 = some (wnV P V T U H p 1, N2) from g2, pv_cal_some, mix_eq, pv_cap_some, nI_1]
    exact hrec _ _ ⟨rfl, L2⟩
theorem KS.fr180 (K : KS BAo c v M n b cn cf kn kf bn bf l d pu ra rb P V T U H) {M' : pv_M} (hF : ∀ a c, a ≠ 180 → M'.1 a c = M.1 a c) : KS BAo c v M' n b cn cf kn kf bn bf l d pu ra rb P V T U H := K.fr BAo_ok (fun k j q => hF k j (fun z => q (Or.inr (by unfold PX; omega))))
theorem xd_R (K : KS BAo c v M n b cn cf kn kf bn bf l d pu ra rb P V T U H) (h0 : Int64) : ∃ M', f_X8_mixRatios h0 M = some (DR (n 2) (b 2) h0, M') ∧ KS BAo c v M' n b cn cf kn kf bn bf l d pu ra rb P V T U H := by
  obtain ⟨F, hF⟩ : ∃ F : Nat → Int64, F = foP (fun i => wrV (n 2) (b 2) 0 (i + 1) 0) (fun i => wrV (n 2) (b 2) 0 (i + 1) 1) h0 := ⟨_, rfl⟩
  have hFs : ∀ i, F (i + 1) = 31 * (31 * F i + wrV (n 2) (b 2) 0 (i + 1) 0) + wrV (n 2) (b 2) 0 (i + 1) 1 := fun i => by rw [hF]; rfl
  have hD : DR (n 2) (b 2) h0 = 31 * (31 * F 5 + (clV (n 2) (b 2)).toInt64) + (oldI (drO (n 2) (b 2) (2 ^ itm 2 (n 2) (b 2)))).toInt64 := by rw [hF]; rfl
  rw [hD]
  unfold f_X8_mixRatios
  rw [pv_jn_eq]
  refine for3b 6 (fun i (x : Int64) (S : pv_M) => 1 ≤ i ∧ x = F (i - 1) ∧ KS BAo c v S n b cn cf kn kf bn bf l d pu ra rb P V T U H) (fun q => ∃ M' : pv_M, q = some (31 * (31 * F 5 + (clV (n 2) (b 2)).toInt64) + (oldI (drO (n 2) (b 2) (2 ^ itm 2 (n 2) (b 2)))).toInt64, M') ∧ KS BAo c v M' n b cn cf kn kf bn bf l d pu ra rb P V T U H) ?_ ?_ pv_FU 1 h0 M (by decide) (by decide) ⟨Nat.le_refl _, by rw [hF]; rfl, K⟩
  · rintro rec x S ⟨-, rfl, KS'⟩
    obtain ⟨M1, e1, -, e3⟩ := x_clash KS'.1
    have K1 := KS'.fr180 e3
    obtain ⟨M2, g1, g2⟩ := x_drop K1.1
    unfold f_X8_mixRatios_L5
    rw [if_pos (by decide)]
    dsimp only
    unfold f_X8_clash f_X8_drop
    rw [show f_X7_firstClash 5 S = some (clV (n 2) (b 2), M1) from e1, pv_cal_some, pv_cal_some, mix_eq, pv_cap_some, g1, pv_cal_some, pv_cal_some, mix_eq, pv_cap_some]
    exact ⟨M2, rfl, K1.fr180 g2⟩
  · rintro rec i x S hi ⟨hi1, rfl, KS'⟩ hrec
    obtain ⟨M1, e1, e2⟩ := x_worth KS'.1 (x := 0) (y := i) (w := 0) (by decide) hi (by omega) (by decide)
    have K1 := KS'.fr180 e2
    obtain ⟨M2, g1, g2⟩ := x_worth K1.1 (x := 0) (y := i) (w := 1) (by decide) hi (by omega) (by decide)
    unfold f_X8_mixRatios_L5
    rw [show (6 : Int32) = nI 6 from rfl, if_neg (nI_ge hi (by decide)), show f_X8_worth 0 (nI i) 0 S = _ from e1, pv_cal_some, mix_eq, pv_cap_some, show f_X8_worth 0 (nI i) 1 M1 = _ from g1, pv_cal_some, mix_eq, pv_cap_some, nI_1]
    refine hrec _ _ ⟨by omega, ?_, K1.fr180 g2⟩
    obtain ⟨i', rfl⟩ : ∃ i', i = i' + 1 := ⟨i - 1, by omega⟩
    rw [show i' + 1 + 1 - 1 = i' + 1 by omega, show i' + 1 - 1 = i' by omega, hFs]
noncomputable def DG (fv : Nat → Int32) (n : Nat → Nat) (b : Nat → Nat → Nat) (cn kn : Nat) (kf : Nat → Nat → Nat) (bn : Nat) (bf : Nat → Nat → Nat) (l d : Nat) (pu ra rb : Nat → Nat) (P V : Nat) (T : Nat → Nat → Nat → Nat) (U : Nat → Nat) (H : Nat → Int) : Int64 :=
  31 * DO ra rb (DR (n 2) (b 2) (DV P V T U H (DP pu kn kf l d P V T U H (DY P V T U H l (fo (fun t => (fv t).toInt64) (fo (fun k => (cntS n b cn kn bn l d 0 k).toInt64) 17 8) 3))))) + (nI (yrs bf (grt P V T U H l) bn 10)).toInt64
theorem cntS_fi {fi : Int32} {w : Nat} (hw : w < 8) : cntS n b cn kn bn l d fi w = cntS n b cn kn bn l d 0 w := by
  unfold cntS
  rcases (show w = 0 ∨ w = 1 ∨ w = 2 ∨ w = 3 ∨ w = 4 ∨ w = 5 ∨ w = 6 ∨ w = 7 by omega) with rfl | rfl | rfl | rfl | rfl | rfl | rfl | rfl <;> rfl
theorem rdI_s {j : Nat} (hj : j < 5) : rdI j + 1 = rdI (j + 1) := (show ∀ j, j < 5 → rdI j + 1 = rdI (j + 1) by decide +kernel) j hj
theorem xs_digest (K : KS BAo c v M n b cn cf kn kf bn bf l d pu ra rb P V T U H) (hc : c < 900) {fv : Nat → Int32} (hfv : ∀ t, t < 3 → FltIs t (n t) (b t) (fv t)) : ∃ M', f_X8_digest M = some (DG fv n b cn kn kf bn bf l d pu ra rb P V T U H, M') ∧ KS BAo c v M' n b cn cf kn kf bn bf l d pu ra rb P V T U H := by
  obtain ⟨h1, hh1⟩ : ∃ h1 : Int64, h1 = fo (fun k => (cntS n b cn kn bn l d 0 k).toInt64) 17 8 := ⟨_, rfl⟩
  obtain ⟨h2, hh2⟩ : ∃ h2 : Int64, h2 = fo (fun t => (fv t).toInt64) h1 3 := ⟨_, rfl⟩
  obtain ⟨M1, e1, K1⟩ := xd_Y K hc h2
  obtain ⟨M2, e2, K2⟩ := xd_P K1 hc (DY P V T U H l h2)
  obtain ⟨M3, e3, K3⟩ := xd_V K2 hc (DP pu kn kf l d P V T U H (DY P V T U H l h2))
  obtain ⟨M4, e4, K4⟩ := xd_R K3 (DV P V T U H (DP pu kn kf l d P V T U H (DY P V T U H l h2)))
  obtain ⟨h6, hh6⟩ : ∃ h6 : Int64, h6 = DR (n 2) (b 2) (DV P V T U H (DP pu kn kf l d P V T U H (DY P V T U H l h2))) := ⟨_, rfl⟩
  have hD : DG fv n b cn kn kf bn bf l d pu ra rb P V T U H = 31 * fo (fun j => (rdV ra rb j).toInt64) h6 5 + (nI (yrs bf (grt P V T U H l) bn 10)).toInt64 := by rw [hh6, hh2, hh1]; rfl
  rw [hD]
  unfold f_X8_digest
  rw [K.settle hc, pv_cal_some, pv_jn_eq]
  refine for2b 8 (fun k (x : Int64) => x = fo (fun k => (cntS n b cn kn bn l d 0 k).toInt64) 17 k) (fun q => ∃ M' : pv_M, q = some (31 * fo (fun j => (rdV ra rb j).toInt64) h6 5 + (nI (yrs bf (grt P V T U H l) bn 10)).toInt64, M') ∧ KS BAo c v M' n b cn cf kn kf bn bf l d pu ra rb P V T U H) ?_ ?_ pv_FU 0 17 (by decide) (by decide) rfl
  · rintro rec x rfl
    unfold f_X8_digest_L10
    rw [if_pos (by decide), ← hh1]
    dsimp only
    rw [pv_jn_eq]
    refine for2b 3 (fun t (x : Int64) => x = fo (fun t => (fv t).toInt64) h1 t) (fun q => ∃ M' : pv_M, q = some (31 * fo (fun j => (rdV ra rb j).toInt64) h6 5 + (nI (yrs bf (grt P V T U H l) bn 10)).toInt64, M') ∧ KS BAo c v M' n b cn cf kn kf bn bf l d pu ra rb P V T U H) ?_ ?_ pv_FU 0 h1 (by decide) (by decide) rfl
    · rintro rec2 x rfl
      unfold f_X8_digest_L35
      rw [if_pos (by decide), ← hh2]
      unfold f_X8_digest_J57
      rw [e1, pv_cal_some, e2, pv_cal_some, e3, pv_cal_some, e4, pv_cal_some, ← hh6, pv_jn_eq]
      refine for3g rdI 5 (fun j (x : Int64) (S : pv_M) => x = fo (fun j => (rdV ra rb j).toInt64) h6 j ∧ KS BAo c v S n b cn cf kn kf bn bf l d pu ra rb P V T U H) (fun q => ∃ M' : pv_M, q = some (31 * fo (fun j => (rdV ra rb j).toInt64) h6 5 + (nI (yrs bf (grt P V T U H l) bn 10)).toInt64, M') ∧ KS BAo c v M' n b cn cf kn kf bn bf l d pu ra rb P V T U H) ?_ ?_ pv_FU 0 h6 M4 (by decide) (by decide) ⟨rfl, K4⟩
      · rintro rec3 x S ⟨rfl, KS'⟩
        unfold f_X8_digest_L84
        rw [if_pos (by decide)]
        dsimp only
        rw [xs_years KS' hc, pv_cal_some, mix_eq, pv_cap_some]
        exact ⟨S, rfl, KS'⟩
      · rintro rec3 j x S hj ⟨rfl, KS'⟩ hrec3
        obtain ⟨N, g1, g2⟩ := xs_round KS'.2.2.2.2.2.2.1 (show j < 6 by omega)
        unfold f_X8_digest_L84
        rw [if_neg ((show ∀ j, j < 5 → ¬ (2 : Int32) < rdI j by decide +kernel) j hj), g1, pv_cal_some, mix_eq, pv_cap_some, rdI_s hj]
        exact hrec3 _ _ ⟨rfl, KS'.fr BAo_ok (fun k j q => g2 k j (fun z => q (Or.inr (by unfold PX; omega))))⟩
    · rintro rec2 t x ht rfl hrec2
      obtain ⟨r, f1, f2⟩ := x_fault ht (K.1 t ht).2 (K.1 t ht).1.1 (fun i hi => ((K.1 t ht).1.2.2 i hi).1)
      have er : r = fv t := f2.one (hfv t ht)
      subst er
      unfold f_X8_digest_L35 f_X8_fault
      rw [if_neg (show ¬ (2 : Int32) < nI t from nI_nlt (show t ≤ 2 by omega) (by decide)), xg_isText, pv_cap_some, bt1 ⟨nI_le (Nat.zero_le _) (by omega), nI_le (show t ≤ 2 by omega) (by decide)⟩, x_textOf ht, pv_cap_some, isT_tx ht, pv_ck_true, f1, pv_cap_some, pv_cap_some, mix_eq, pv_cap_some, nI_1]
      exact hrec2 _ rfl
  · rintro rec k x hk rfl hrec
    obtain ⟨g1, g2, g3, g4, g5, -⟩ := K
    unfold f_X8_digest_L10
    rw [if_neg (show ¬ (7 : Int32) < nI k from nI_nlt (show k ≤ 7 by omega) (by decide)), x_count g1 g2 g3 g4 g5 (by omega), cntS_fi hk, pv_cap_some, mix_eq, pv_cap_some, nI_1]
    exact hrec _ rfl
end XD
