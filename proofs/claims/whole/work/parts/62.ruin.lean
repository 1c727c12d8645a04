theorem first_is {p : Nat → Bool} {n t : Nat} (h1 : ∀ s, s < t → p s = false) (h2 : p t = true) (h3 : t < n) : fa_first p n = t := by
  have hle := fa_first_le p n
  rcases Nat.lt_trichotomy (fa_first p n) t with q | q | q
  · have := fa_first_yes p n (by omega)
    rw [h1 _ q] at this
    cases this
  · exact q
  · have := fa_first_no p n t q
    rw [h2] at this
    cases this
theorem first_none {p : Nat → Bool} {n : Nat} (h1 : ∀ s, s < n → p s = false) : fa_first p n = n := by
  have hle := fa_first_le p n
  rcases Nat.lt_or_ge (fa_first p n) n with q | q
  · have := fa_first_yes p n q
    rw [h1 _ q] at this
    cases this
  · omega
section R
variable (pu : Nat → Nat) (kn : Nat) (kf : Nat → Nat → Nat) (G : Nat → Nat → Nat) (d : Nat)
def rhd : Nat → Nat → Int
  | 0, w => (pu w : Nat)
  | t + 1, w => if t % 8 < kn ∧ kf (t % 8) 5 = t / 8 then rhd t w - (if w = kf (t % 8) 0 then ((pyS kf G d (t % 8) : Nat) : Int) else 0) + (if w = kf (t % 8) 1 then ((pyS kf G d (t % 8) : Nat) : Int) else 0) else rhd t w
def rui (t : Nat) : Bool := decide ((t % 8 < kn ∧ kf (t % 8) 5 = t / 8) ∧ rhd pu kn kf G d (t + 1) (kf (t % 8) 0) < 0)
end R
theorem rhd_sml {pu : Nat → Nat} {kn : Nat} {kf G : Nat → Nat → Nat} {d : Nat} (hp : ∀ w, w < 8 → pu w ≤ 999) (hy : ∀ i, i < kn → pyS kf G d i ≤ 891) {w : Nat} (hw : w < 8) : ∀ t : Nat, -(891 * (t : Int)) ≤ rhd pu kn kf G d t w ∧ rhd pu kn kf G d t w ≤ 999 + 891 * (t : Int)
  | 0 => by
    have := hp w hw
    show -(891 * ((0 : Nat) : Int)) ≤ ((pu w : Nat) : Int) ∧ ((pu w : Nat) : Int) ≤ 999 + 891 * ((0 : Nat) : Int)
    omega
  | t + 1 => by
    have ih := rhd_sml hp hy hw t
    unfold rhd
    by_cases e : t % 8 < kn ∧ kf (t % 8) 5 = t / 8
    · have := hy _ e.1
      rw [if_pos e]
      split <;> split <;> omega
    · rw [if_neg e]
      omega
theorem rhd_idle {pu : Nat → Nat} {kn : Nat} {kf G : Nat → Nat → Nat} {d y : Nat} (hkn : kn ≤ 8) : ∀ j, kn + j ≤ 8 → (∀ w, rhd pu kn kf G d (8 * y + (kn + j)) w = rhd pu kn kf G d (8 * y + kn) w) ∧ ∀ t, 8 * y + kn ≤ t → t < 8 * y + (kn + j) → rui pu kn kf G d t = false
  | 0, _ => ⟨fun _ => rfl, fun t h1 h2 => by omega⟩
  | j + 1, h => by
    obtain ⟨i1, i2⟩ := rhd_idle (pu := pu) (kf := kf) (G := G) (d := d) (y := y) hkn j (by omega)
    refine ⟨fun w => ?_, fun t h1 h2 => ?_⟩
    · rw [show 8 * y + (kn + (j + 1)) = 8 * y + (kn + j) + 1 by omega]
      conv => lhs; unfold rhd
      rw [if_neg (by omega)]
      exact i1 w
    · by_cases e : t < 8 * y + (kn + j)
      · exact i2 t h1 e
      · unfold rui
        rw [decide_eq_false_iff_not]
        omega
theorem rd2 (F : Nat → Nat → Int32) (L : Nat → Nat → Int64) (k : Nat) {i j : Nat} (A B : Int32) (h : i ≠ j) : ((pv_u ((pv_u F k i A, L) : pv_M).1 k j B, ((pv_u F k i A, L) : pv_M).2) : pv_M).1 k i = A := by
  rw [fst_u, if_neg (by omega), fst_u, if_pos ⟨rfl, rfl⟩]
section R2
variable {BA : pv_BA} {c v : Nat} {M : pv_M} {n : Nat → Nat} {b : Nat → Nat → Nat} {cn : Nat} {cf : Nat → Nat → Nat} {kn : Nat} {kf : Nat → Nat → Nat} {bn : Nat} {bf : Nat → Nat → Nat} {l d : Nat} {pu ra rb : Nat → Nat} {P V : Nat} {T : Nat → Nat → Nat → Nat} {U : Nat → Nat} {H : Nat → Int}
theorem x_ruin (g : GX M kn kf l d P V T U H) (h6 : I6 M pu) : ∃ M', f_X8_firstRuin M = some ((if fa_first (rui pu kn kf (grt P V T U H l) d) 80 < 80 then nI (fa_first (rui pu kn kf (grt P V T U H l) d) 80 % 8) else -1), M') ∧ ∀ a c, a ≠ 38 → M'.1 a c = M.1 a c := by
  have g3 := g.2.1
  have hn := g3.1
  have hd := g.1.2.1
  obtain ⟨G, hG⟩ : ∃ G, G = grt P V T U H l := ⟨_, rfl⟩
  rw [← hG]
  have hpy : ∀ i, i < kn → pyS kf G d i ≤ 891 := fun i hi => by rw [hG]; exact pyS_le g.2.2.1 g3 hi hd
  have hsm : ∀ t w, w < 8 → t ≤ 80 → -80000 ≤ rhd pu kn kf G d t w ∧ rhd pu kn kf G d t w ≤ 80000 := fun t w hw ht => by
    have := rhd_sml (pu := pu) (G := G) (fun w hw => (h6 w hw).1) hpy hw t
    omega
  unfold f_X8_firstRuin
  obtain ⟨c1, c2, c3⟩ := x_cpy (M := M) (a := 37) (b := 38) (i := 0) (j := 0) (k := 8) sa_37 sa_38 (by decide) (by decide)
  rw [show pv_cpyb pv_T 37 0 38 0 8 = true from c1, pv_ck_true, pv_nm_eq]
  have hM1 : ∀ a c, (pv_cpy M 37 0 38 0 8).1 a c = if a = 38 ∧ c < 8 then nI (pu c) else M.1 a c := fun a c => by
    have := c3 a c
    rw [show (0 : Int32) = nI 0 from rfl, show (8 : Int32) = nI 8 from rfl, this]
    by_cases e : a = 38 ∧ c < 8
    · rw [if_pos (by omega), if_pos e, show 0 + (c - 0) = c by omega, (h6 c e.2).2.1]
    · rw [if_neg (by omega), if_neg e]
  generalize pv_cpy M 37 0 38 0 8 = M1 at hM1
  refine for2 10 (fun y (S : pv_M) => (∀ a c, a ≠ 38 → S.1 a c = M.1 a c) ∧ (∀ w, w < 8 → S.1 38 w = iI (rhd pu kn kf G d (8 * y) w)) ∧ ∀ t, t < 8 * y → rui pu kn kf G d t = false) (fun q => ∃ M' : pv_M, q = some ((if fa_first (rui pu kn kf G d) 80 < 80 then nI (fa_first (rui pu kn kf G d) 80 % 8) else -1), M') ∧ ∀ a c, a ≠ 38 → M'.1 a c = M.1 a c) ?_ ?_ pv_FU 0 M1 (Nat.zero_le _) (by decide) ⟨fun a c q => by rw [hM1, if_neg (by omega)], fun w hw => by rw [hM1, if_pos ⟨rfl, hw⟩, ← iI_n]; rfl, fun t ht => absurd ht (by omega)⟩
  · rintro rec S ⟨s1, s2, s3⟩
    unfold f_X8_firstRuin_L17
    rw [if_pos (by decide), first_none (p := rui pu kn kf G d) (n := 80) (fun s hs => s3 s hs), if_neg (by decide)]
    exact ⟨S, rfl, s1⟩
  · rintro rec y S hy ⟨s1, s2, s3⟩ hrec
    unfold f_X8_firstRuin_L17
    rw [show (10 : Int32) = nI 10 from rfl, if_neg (nI_ge hy (by decide))]
    refine for2 kn (fun k (S : pv_M) => (∀ a c, a ≠ 38 → S.1 a c = M.1 a c) ∧ (∀ w, w < 8 → S.1 38 w = iI (rhd pu kn kf G d (8 * y + k) w)) ∧ ∀ t, t < 8 * y + k → rui pu kn kf G d t = false) (fun q => ∃ M' : pv_M, q = some ((if fa_first (rui pu kn kf G d) 80 < 80 then nI (fa_first (rui pu kn kf G d) 80 % 8) else -1), M') ∧ ∀ a c, a ≠ 38 → M'.1 a c = M.1 a c) ?_ ?_ pv_FU 0 S (Nat.zero_le _) (by show kn - 0 < 5000; omega) ⟨s1, s2, s3⟩
    · rintro rec2 S ⟨s1, s2, s3⟩
      unfold f_X8_firstRuin_L25
      rw [pv_nm_eq, s1 _ _ (by decide), g3.2.1, if_pos (nI_le (Nat.le_refl _) (by omega)), nI_1]
      obtain ⟨i1, i2⟩ := rhd_idle (pu := pu) (kf := kf) (G := G) (d := d) (y := y) hn (8 - kn) (by omega)
      rw [show kn + (8 - kn) = 8 by omega, show 8 * y + 8 = 8 * (y + 1) by omega] at i1 i2
      refine hrec _ ⟨s1, fun w hw => by rw [i1]; exact s2 w hw, fun t ht => ?_⟩
      by_cases e : t < 8 * y + kn
      · exact s3 t e
      · exact i2 t (by omega) ht
    · rintro rec2 k S hk ⟨s1, s2, s3⟩ hrec2
      have q1 : (8 * y + k) / 8 = y := by omega
      have q2 : (8 * y + k) % 8 = k := by omega
      obtain ⟨z0, z1, z2, z3, z4, z5, z6, z7⟩ := (g3.2.2.2 k hk).1
      have gS : GX S kn kf l d P V T U H := g.fr (fun a c q => s1 a c (by omega))
      have rS := fun {j : Nat} (hj : j < 6) => (gS.2.1.row hk hj).1
      unfold f_X8_firstRuin_L25
      rw [pv_nm_eq, s1 _ _ (by decide), g3.2.1, if_neg (nI_ge hk (by omega)), lr_20 (by omega), show (5 : Int32) = nI 5 from rfl, lf_21 (by omega) (by decide), rS (by decide), ite_eq (by omega) (by omega), nI_1]
      by_cases e : kf k 5 = y
      · have hst : ∀ w, rhd pu kn kf G d (8 * y + k + 1) w = rhd pu kn kf G d (8 * y + k) w - (if w = kf k 0 then ((pyS kf G d k : Nat) : Int) else 0) + (if w = kf k 1 then ((pyS kf G d k : Nat) : Int) else 0) := fun w => by
          conv => lhs; unfold rhd
          rw [q1, q2, if_pos ⟨hk, e⟩]
        have hpd : f_X8_paid (21 + k) S = some (nI (pyS kf G d k)) := by rw [hG]; exact x_paid gS hk
        rw [if_pos e, hpd, pv_cap_some, show (0 : Int32) = nI 0 from rfl, show (1 : Int32) = nI 1 from rfl, lf_21 (by omega) (by decide), rS (by decide), ld_38 z0, s2 _ z0, ← iI_n (pyS kf G d k), iI_sub, st_38 z0, lf_21 (by omega) (by decide), fst_u, if_neg (by omega), rS (by decide), ld_38 z1, fst_u, if_neg (by omega), s2 _ z1, iI_add, st_38 z1, lf_21 (by omega) (by decide), fst_u, if_neg (by omega), fst_u, if_neg (by omega), rS (by decide), ld_38 z0, rd2 _ _ _ _ _ z2]
        have h0 := hst (kf k 0)
        rw [if_pos rfl, if_neg z2, Int.add_zero] at h0
        have b0 := hsm (8 * y + k + 1) (kf k 0) z0 (by omega)
        rw [h0] at b0
        rw [← iI_n 0, iIf_le (by decide) (by decide) (by omega) (by omega)]
        by_cases neg : rhd pu kn kf G d (8 * y + k) (kf k 0) - ((pyS kf G d k : Nat) : Int) < 0
        · have hr : rui pu kn kf G d (8 * y + k) = true := by
            unfold rui
            rw [decide_eq_true_eq, q1, q2, h0]
            exact ⟨⟨hk, e⟩, neg⟩
          rw [if_neg (by show ¬ ((0 : Nat) : Int) ≤ _; omega), first_is s3 hr (show 8 * y + k < 80 by omega), if_pos (by omega), q2]
          exact ⟨_, rfl, fun a c q => by rw [fst_u, if_neg (by omega), fst_u, if_neg (by omega)]; exact s1 a c q⟩
        · have hr : rui pu kn kf G d (8 * y + k) = false := by
            unfold rui
            rw [decide_eq_false_iff_not, q1, q2, h0]
            exact fun z => neg z.2
          rw [if_pos (by show ((0 : Nat) : Int) ≤ _; omega)]
          refine hrec2 _ ⟨fun a c q => by rw [fst_u, if_neg (by omega), fst_u, if_neg (by omega)]; exact s1 a c q, fun w hw => ?_, fun t ht => ?_⟩
          · rw [fst_u, fst_u, show 8 * y + (k + 1) = 8 * y + k + 1 by omega, hst w]
            by_cases w1 : w = kf k 1
            · rw [if_pos ⟨rfl, w1⟩, if_pos w1, if_neg (by omega), w1, Int.sub_zero]
            · rw [if_neg (by omega), if_neg w1, Int.add_zero]
              by_cases w0 : w = kf k 0
              · rw [if_pos ⟨rfl, w0⟩, if_pos w0, w0]
              · rw [if_neg (by omega), if_neg w0, Int.sub_zero]
                exact s2 w hw
          · by_cases e2 : t = 8 * y + k
            · rw [e2]
              exact hr
            · exact s3 t (by omega)
      · rw [if_neg e]
        have hst : ∀ w, rhd pu kn kf G d (8 * y + k + 1) w = rhd pu kn kf G d (8 * y + k) w := fun w => by
          conv => lhs; unfold rhd
          rw [q1, q2, if_neg (fun z => e z.2)]
        refine hrec2 _ ⟨s1, fun w hw => by rw [show 8 * y + (k + 1) = 8 * y + k + 1 by omega, hst]; exact s2 w hw, fun t ht => ?_⟩
        by_cases e2 : t = 8 * y + k
        · rw [e2]
          unfold rui
          rw [decide_eq_false_iff_not, q1, q2]
          exact fun z => e z.1.2
        · exact s3 t (by omega)
theorem m_ruin (g : GY M kn kf l d P V T U H) (h6 : I6 M pu) {x : Nat} (hx : x < 2) : ∃ M', f_X9_ruinedOf (nI x) M = some ((if fa_first (rui pu kn kf (grt P V T U H l) d) 80 < 80 then nI (kf (fa_first (rui pu kn kf (grt P V T U H l) d) 80 % 8) (5 * x)) else -1), M') ∧ ∀ a c, a ≠ 212 → M'.1 a c = M.1 a c := by
  have g3 := g.2.1
  have hn := g3.1
  have hd := g.1.2.1
  obtain ⟨G, hG⟩ : ∃ G, G = grt P V T U H l := ⟨_, rfl⟩
  rw [← hG]
  have hpy : ∀ i, i < kn → pyS kf G d i ≤ 891 := fun i hi => by rw [hG]; exact pyS_le g.2.2.1 g3 hi hd
  have hsm : ∀ t w, w < 8 → t ≤ 80 → -80000 ≤ rhd pu kn kf G d t w ∧ rhd pu kn kf G d t w ≤ 80000 := fun t w hw ht => by
    have := rhd_sml (pu := pu) (G := G) (fun w hw => (h6 w hw).1) hpy hw t
    omega
  unfold f_X9_ruinedOf
  rw [pv_jn_eq]
  refine for2 8 (fun w (S : pv_M) => ∀ a c, S.1 a c = if a = 212 ∧ c < w then nI (pu c) else M.1 a c) (fun q => ∃ M' : pv_M, q = some ((if fa_first (rui pu kn kf G d) 80 < 80 then nI (kf (fa_first (rui pu kn kf G d) 80 % 8) (5 * x)) else -1), M') ∧ ∀ a c, a ≠ 212 → M'.1 a c = M.1 a c) ?_ ?_ pv_FU 0 M (Nat.zero_le _) (by decide) (fun a c => by rw [if_neg (by omega)])
  · intro rec M1 hM1
    unfold f_X9_ruinedOf_L2
    rw [if_pos (by decide)]
    dsimp only
    rw [pv_jn_eq]
    refine for2 10 (fun y (S : pv_M) => (∀ a c, a ≠ 212 → S.1 a c = M.1 a c) ∧ (∀ w, w < 8 → S.1 212 w = iI (rhd pu kn kf G d (8 * y) w)) ∧ ∀ t, t < 8 * y → rui pu kn kf G d t = false) (fun q => ∃ M' : pv_M, q = some ((if fa_first (rui pu kn kf G d) 80 < 80 then nI (kf (fa_first (rui pu kn kf G d) 80 % 8) (5 * x)) else -1), M') ∧ ∀ a c, a ≠ 212 → M'.1 a c = M.1 a c) ?_ ?_ pv_FU 0 M1 (Nat.zero_le _) (by decide) ⟨fun a c q => by rw [hM1, if_neg (by omega)], fun w hw => by rw [hM1, if_pos ⟨rfl, hw⟩, ← iI_n]; rfl, fun t ht => absurd ht (by omega)⟩
    · rintro rec S ⟨s1, s2, s3⟩
      unfold f_X9_ruinedOf_L28
      rw [if_pos (by decide), first_none (p := rui pu kn kf G d) (n := 80) (fun s hs => s3 s hs), if_neg (by decide)]
      exact ⟨S, rfl, s1⟩
    · rintro rec y S hy ⟨s1, s2, s3⟩ hrec
      unfold f_X9_ruinedOf_L28
      rw [show (10 : Int32) = nI 10 from rfl, if_neg (nI_ge hy (by decide))]
      refine for2 kn (fun k (S : pv_M) => (∀ a c, a ≠ 212 → S.1 a c = M.1 a c) ∧ (∀ w, w < 8 → S.1 212 w = iI (rhd pu kn kf G d (8 * y + k) w)) ∧ ∀ t, t < 8 * y + k → rui pu kn kf G d t = false) (fun q => ∃ M' : pv_M, q = some ((if fa_first (rui pu kn kf G d) 80 < 80 then nI (kf (fa_first (rui pu kn kf G d) 80 % 8) (5 * x)) else -1), M') ∧ ∀ a c, a ≠ 212 → M'.1 a c = M.1 a c) ?_ ?_ pv_FU 0 S (Nat.zero_le _) (by show kn - 0 < 5000; omega) ⟨s1, s2, s3⟩
      · rintro rec2 S ⟨s1, s2, s3⟩
        unfold f_X9_ruinedOf_L36
        rw [pv_nm_eq, s1 _ _ (by decide), g3.2.2.1, if_pos (nI_le (Nat.le_refl _) (by omega)), nI_1]
        obtain ⟨i1, i2⟩ := rhd_idle (pu := pu) (kf := kf) (G := G) (d := d) (y := y) hn (8 - kn) (by omega)
        rw [show kn + (8 - kn) = 8 by omega, show 8 * y + 8 = 8 * (y + 1) by omega] at i1 i2
        refine hrec _ ⟨s1, fun w hw => by rw [i1]; exact s2 w hw, fun t ht => ?_⟩
        by_cases e : t < 8 * y + kn
        · exact s3 t e
        · exact i2 t (by omega) ht
      · rintro rec2 k S hk ⟨s1, s2, s3⟩ hrec2
        have q1 : (8 * y + k) / 8 = y := by omega
        have q2 : (8 * y + k) % 8 = k := by omega
        obtain ⟨z0, z1, z2, z3, z4, z5, z6, z7⟩ := (g3.2.2.2 k hk).1
        have gY : ∀ S' : pv_M, (∀ a c, a ≠ 212 → S'.1 a c = M.1 a c) → f_X9_pays (nI k) S' = some (nI (pyS kf G d k)) := fun S' h' => by
          rw [hG]
          exact m_pays (g.fr (fun a c q => h' a c (by omega))) hk
        have rS : ∀ S' : pv_M, (∀ a c, a ≠ 212 → S'.1 a c = M.1 a c) → ∀ j, j < 6 → S'.1 211 (6 * k + j) = nI (kf k j) := fun S' h' j hj => by
          rw [h' _ _ (by decide)]
          exact (g3.row hk hj).2
        have r0 : S.1 211 (6 * k) = nI (kf k 0) := rS S s1 0 (by decide)
        unfold f_X9_ruinedOf_L36
        rw [pv_nm_eq, s1 _ _ (by decide), g3.2.2.1, if_neg (nI_ge hk (by omega)), show (6 : Int32) = nI 6 from rfl, show (5 : Int32) = nI 5 from rfl, show (1 : Int32) = nI 1 from rfl, show (0 : Int32) = nI 0 from rfl, pk_mul, nI_add, nI_add, nI_add, ld_211 (by omega), rS S s1 5 (by decide), ite_eq (by omega) (by omega)]
        by_cases e : kf k 5 = y
        · have hst : ∀ w, rhd pu kn kf G d (8 * y + k + 1) w = rhd pu kn kf G d (8 * y + k) w - (if w = kf k 0 then ((pyS kf G d k : Nat) : Int) else 0) + (if w = kf k 1 then ((pyS kf G d k : Nat) : Int) else 0) := fun w => by
            conv => lhs; unfold rhd
            rw [q1, q2, if_pos ⟨hk, e⟩]
          have f1 : ∀ a c, a ≠ 212 → ((pv_u S.1 212 (kf k 0) (iI (rhd pu kn kf G d (8 * y + k) (kf k 0) - ((pyS kf G d k : Nat) : Int))), S.2) : pv_M).1 a c = M.1 a c := fun a c q => by rw [fst_u, if_neg (by omega)]; exact s1 a c q
          rw [if_pos e, ld_211 (by omega), r0, ld_212 z0, s2 _ z0, gY S s1, pv_cap_some, ← iI_n (pyS kf G d k), iI_sub, st_212 z0, ld_211 (by omega), rS _ f1 1 (by decide), ld_212 z1, fst_u, if_neg (by omega), s2 _ z1, gY _ f1, pv_cap_some, ← iI_n (pyS kf G d k), iI_add, st_212 z1, ld_212 z0, rd2 _ _ _ _ _ z2]
          have h0 := hst (kf k 0)
          rw [if_pos rfl, if_neg z2, Int.add_zero] at h0
          have b0 := hsm (8 * y + k + 1) (kf k 0) z0 (by omega)
          rw [h0] at b0
          rw [← iI_n 0, iIf_le (by decide) (by decide) (by omega) (by omega)]
          by_cases neg : rhd pu kn kf G d (8 * y + k) (kf k 0) - ((pyS kf G d k : Nat) : Int) < 0
          · have hr : rui pu kn kf G d (8 * y + k) = true := by
              unfold rui
              rw [decide_eq_true_eq, q1, q2, h0]
              exact ⟨⟨hk, e⟩, neg⟩
            rw [if_neg (by show ¬ ((0 : Nat) : Int) ≤ _; omega), first_is s3 hr (show 8 * y + k < 80 by omega), if_pos (by omega), q2]
            have hx2 : (nI x = iI ((0 : Nat) : Int)) = (x = 0) := by rw [iI_n]; exact eqn (by omega) (by decide)
            refine ⟨(pv_u (pv_u S.1 212 (kf k 0) (iI (rhd pu kn kf G d (8 * y + k) (kf k 0) - ((pyS kf G d k : Nat) : Int)))) 212 (kf k 1) (iI (rhd pu kn kf G d (8 * y + k) (kf k 1) + ((pyS kf G d k : Nat) : Int))), S.2), ?_, fun a c q => by rw [fst_u, if_neg (by omega), u_if, if_neg (by omega)]; exact s1 a c q⟩
            simp only [hx2]
            rcases (show x = 0 ∨ x = 1 by omega) with rfl | rfl
            · rfl
            · rw [if_neg (by decide), ← e]
          · have hr : rui pu kn kf G d (8 * y + k) = false := by
              unfold rui
              rw [decide_eq_false_iff_not, q1, q2, h0]
              exact fun z => neg z.2
            rw [if_pos (by show ((0 : Nat) : Int) ≤ _; omega)]
            refine hrec2 _ ⟨fun a c q => by rw [fst_u, if_neg (by omega), fst_u, if_neg (by omega)]; exact s1 a c q, fun w hw => ?_, fun t ht => ?_⟩
            · rw [fst_u, fst_u, show 8 * y + (k + 1) = 8 * y + k + 1 by omega, hst w]
              by_cases w1 : w = kf k 1
              · rw [if_pos ⟨rfl, w1⟩, if_pos w1, if_neg (by omega), w1, Int.sub_zero]
              · rw [if_neg (by omega), if_neg w1, Int.add_zero]
                by_cases w0 : w = kf k 0
                · rw [if_pos ⟨rfl, w0⟩, if_pos w0, w0]
                · rw [if_neg (by omega), if_neg w0, Int.sub_zero]
                  exact s2 w hw
            · by_cases e2 : t = 8 * y + k
              · rw [e2]
                exact hr
              · exact s3 t (by omega)
        · rw [if_neg e]
          have hst : ∀ w, rhd pu kn kf G d (8 * y + k + 1) w = rhd pu kn kf G d (8 * y + k) w := fun w => by
            conv => lhs; unfold rhd
            rw [q1, q2, if_neg (fun z => e z.2)]
          refine hrec2 _ ⟨s1, fun w hw => by rw [show 8 * y + (k + 1) = 8 * y + k + 1 by omega, hst]; exact s2 w hw, fun t ht => ?_⟩
          by_cases e2 : t = 8 * y + k
          · rw [e2]
            unfold rui
            rw [decide_eq_false_iff_not, q1, q2]
            exact fun z => e z.1.2
          · exact s3 t (by omega)
  · intro rec w S hw hS hrec
    unfold f_X9_ruinedOf_L2
    rw [show (8 : Int32) = nI 8 from rfl, if_neg (nI_ge hw (by decide)), ld_206 hw, hS, if_neg (by omega), (h6 w hw).2.2, st_212 hw, nI_1]
    refine hrec _ (fun a c => ?_)
    rw [fst_u, hS]
    by_cases e : a = 212 ∧ c = w
    · rw [if_pos e, if_pos (by omega), e.2]
    · rw [if_neg e]
      ((repeat' split) <;> first | rfl | (exfalso; omega))
theorem xs_ruined (hB : BAok BA) (K : KS BA c v M n b cn cf kn kf bn bf l d pu ra rb P V T U H) (hc : c < 900) {x : Nat} (hx : x < 2) : ∃ M', f_X8_ruined (nI x) M = some ((if fa_first (rui pu kn kf (grt P V T U H l) d) 80 < 80 then nI (kf (fa_first (rui pu kn kf (grt P V T U H l) d) 80 % 8) (5 * x)) else -1), M') ∧ KS BA c v M' n b cn cf kn kf bn bf l d pu ra rb P V T U H ∧ (∀ a c, a ≠ 38 → M'.1 a c = M.1 a c) := by
  have g := K.gx hc
  have g3 := g.2.1
  have hn := g3.1
  obtain ⟨M', e1, e2⟩ := x_ruin g K.2.2.2.2.2.1
  refine ⟨M', ?_, K.fr hB (fun k j q => e2 k j (fun z => q (Or.inr (Or.inl z)))), e2⟩
  unfold f_X8_ruined
  rw [w_0_1, pv_cap_some, bt1 ⟨nI_le (Nat.zero_le _) (by omega), nI_le (show x ≤ 1 by omega) (by decide)⟩, K.settle hc, pv_cal_some, e1, pv_cal_some]
  by_cases h : fa_first (rui pu kn kf (grt P V T U H l) d) 80 < 80
  · have hy := fa_first_yes _ _ h
    unfold rui at hy
    rw [decide_eq_true_eq] at hy
    have hk := hy.1.1
    rw [if_pos h, if_neg (m1_ne (by omega)), lr_20 (by omega), if_pos h, ite_eq0 (by omega), show (0 : Int32) = nI 0 from rfl]
    have r := fun {j : Nat} (hj : j < 6) => (g3.row hk hj).1
    rcases (show x = 0 ∨ x = 1 by omega) with rfl | rfl
    · rw [if_pos rfl, lf_21 (by omega) (by decide), e2 _ _ (by omega)]
      exact congrArg (fun z => some (z, M')) (r (by decide))
    · rw [if_neg (by decide), show (5 : Int32) = nI 5 from rfl, lf_21 (by omega) (by decide), e2 _ _ (by omega)]
      exact congrArg (fun z => some (z, M')) (r (by decide))
  · rw [if_neg h, if_pos rfl, if_neg h]
theorem op_ruined (hB : BAok BA) (a1 : Int32) : OP RIo (CAo BA) (f_X8_ruined a1) (f_X9_ruined a1) := by
  by_cases g1 : nI 0 ≤ a1 ∧ a1 ≤ nI 1
  · refine OP_of hB (fun M M1 e1 e2 _ => by unfold f_X8_ruined; rw [w_0_1, pv_cap_some, bt1 g1, e1, w_0_1, pv_cap_some, bt1 g1, e2]) ?_
    intro c v M n b cn cf kn kf bn bf l d pu ra rb P V T U H K hc
    obtain ⟨x, hx, rfl⟩ := rng (by decide) g1
    obtain ⟨M1, e1, K1, -⟩ := xs_ruined hB K (by omega) (show x < 2 by omega)
    obtain ⟨M2, y1, y2, y3, y4, y5⟩ := K1.nowT
    have K2 := K1.frM hB y2.M
    obtain ⟨M3, f1, f2⟩ := m_ruin (K1.gyT y2 y4 y5) K2.2.2.2.2.2.1 (show x < 2 by omega)
    refine ⟨_, M1, M3, e1, ?_, (K2.frM hB (fun k j q => f2 k j (fun z => q (by unfold PM; omega)))).inv hB⟩
    unfold f_X9_ruined
    rw [y1, pv_cal_some, mg_isTwo, pv_cap_some, bt1 g1, f1, pv_cal_some]
  · intro c M hc hI
    obtain ⟨M2, e2, e3⟩ := now_bad hI
    refine ⟨-2, M, M2, ?_, ?_, e3⟩
    · unfold f_X8_ruined
      simp (disch := omega) only [↓pv_nm_eq, ↓pv_jn_eq, ↓reduceIte, pv_nm_eq, pv_jn_eq, pv_cap_some, pv_cal_some, pv_ck_true, lit_eq, pk_mul, nI_add, sbn, eqn, len', ltn, if_true, if_false, ite_true, ite_false, eq_self, u_s, u_e, u_k, u_j, Nat.zero_le, Nat.one_ne_zero, Nat.reduceEqDiff, Nat.reduceLT, Nat.reduceLeDiff, Nat.reduceAdd, Nat.reduceMul, Nat.reduceSub, and_self, and_true, true_and, ite_self, ↓gcm_isText, ↓gcm_isSheet, ↓gcm_isTwo, ↓gcm_isYear, ↓gcm_isUnit, ↓gcm_isAnyVoter, ↓gcx_isText, ↓gcx_isYear, ↓gcx_isUnit, ↓gcx_isPerson, ↓gcx_isSheet, ↓gcx_isForm, ↓gcx_isTown, ↓gcx_isKind, ↓gc_w, ↓gi_0_1, ↓gi_0_2, ↓gi_0_3, ↓gi_0_5, ↓gi_0_7, ↓gi_0_9, ↓gi_0_255, ↓gi_0_999, ↓gi_1_9, ↓gi_1_99, ↓gi_0_4095, ↓gi_m2_3, mg_isText, mg_isSheet, mg_isTwo, mg_isYear, mg_isUnit, mg_isAnyVoter, xg_isText, xg_isYear, xg_isUnit, xg_isPerson, xg_isSheet, xg_isForm, xg_isTown, xg_isKind, within_n, i_0_1, i_0_2, i_0_3, i_0_5, i_0_7, i_0_9, i_0_255, i_0_999, i_1_9, i_1_99, i_0_4095, i_m2_3, g1]
    · unfold f_X9_ruined
      rw [e2, pv_cal_some]
      simp (disch := omega) only [↓pv_nm_eq, ↓pv_jn_eq, ↓reduceIte, pv_nm_eq, pv_jn_eq, pv_cap_some, pv_cal_some, pv_ck_true, lit_eq, pk_mul, nI_add, sbn, eqn, len', ltn, if_true, if_false, ite_true, ite_false, eq_self, u_s, u_e, u_k, u_j, Nat.zero_le, Nat.one_ne_zero, Nat.reduceEqDiff, Nat.reduceLT, Nat.reduceLeDiff, Nat.reduceAdd, Nat.reduceMul, Nat.reduceSub, and_self, and_true, true_and, ite_self, ↓gcm_isText, ↓gcm_isSheet, ↓gcm_isTwo, ↓gcm_isYear, ↓gcm_isUnit, ↓gcm_isAnyVoter, ↓gcx_isText, ↓gcx_isYear, ↓gcx_isUnit, ↓gcx_isPerson, ↓gcx_isSheet, ↓gcx_isForm, ↓gcx_isTown, ↓gcx_isKind, ↓gc_w, ↓gi_0_1, ↓gi_0_2, ↓gi_0_3, ↓gi_0_5, ↓gi_0_7, ↓gi_0_9, ↓gi_0_255, ↓gi_0_999, ↓gi_1_9, ↓gi_1_99, ↓gi_0_4095, ↓gi_m2_3, mg_isText, mg_isSheet, mg_isTwo, mg_isYear, mg_isUnit, mg_isAnyVoter, xg_isText, xg_isYear, xg_isUnit, xg_isPerson, xg_isSheet, xg_isForm, xg_isTown, xg_isKind, within_n, i_0_1, i_0_2, i_0_3, i_0_5, i_0_7, i_0_9, i_0_255, i_0_999, i_1_9, i_1_99, i_0_4095, i_m2_3, g1]
end R2
