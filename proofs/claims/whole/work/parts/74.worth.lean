def pcn (b : Nat) : Nat := fb_ct (fun i => b.testBit i) 8
theorem bc8 {b : Nat} (hb : b < 256) (M : pv_M) : f_J6_bitCount_0f7a4 (nI b) M = some (nI (pcn b)) := (show ∀ b, b < 256 → f_J6_bitCount_0f7a4 (nI b) ((fun _ _ => 0, fun _ _ => 0) : pv_M) = some (nI (pcn b)) by decide +kernel) b hb
theorem ones8 {b : Nat} (hb : b < 256) (M : pv_M) : f_X9_ones (nI b) M = some (nI (pcn b)) := (show ∀ b, b < 256 → f_X9_ones (nI b) ((fun _ _ => 0, fun _ _ => 0) : pv_M) = some (nI (pcn b)) by decide +kernel) b hb
theorem pcn_le {b : Nat} : pcn b ≤ 8 := fb_ct_le _ _
theorem pcn_n {n k : Nat} (hn : n ≤ 8) (hk : k < 2 ^ n) : (k = 2 ^ n - 1 ∧ pcn k = n) ∨ (k ≠ 2 ^ n - 1 ∧ pcn k < n) := (show ∀ n, n ≤ 8 → ∀ k, k < 2 ^ n → (k = 2 ^ n - 1 ∧ pcn k = n) ∨ (k ≠ 2 ^ n - 1 ∧ pcn k < n) by decide +kernel) n hn k hk
section DR
variable (n : Nat) (b : Nat → Nat)
noncomputable def okD (bt : Nat) : Bool := decide (¬ fa_first (cls (RA b) (RB b) (RT b) bt) (itm 2 n b) < itm 2 n b)
noncomputable def drO : Nat → Option Nat := lst pcn (okD n b)
noncomputable def clV : Int32 := fcI (cls (RA b) (RB b) (RT b) 0) (itm 2 n b)
noncomputable def wrV (x y w : Nat) : Int64 := if (wS (RA b) (RB b) (RT b) 0 (itm 2 n b)).1 x = (wS (RA b) (RB b) (RT b) 0 (itm 2 n b)).1 y then lN ((if w = 0 then (wS (RA b) (RB b) (RT b) 0 (itm 2 n b)).2.1 x * (wS (RA b) (RB b) (RT b) 0 (itm 2 n b)).2.2 y else (wS (RA b) (RB b) (RT b) 0 (itm 2 n b)).2.2 x * (wS (RA b) (RB b) (RT b) 0 (itm 2 n b)).2.1 y) / Nat.gcd ((wS (RA b) (RB b) (RT b) 0 (itm 2 n b)).2.1 x * (wS (RA b) (RB b) (RT b) 0 (itm 2 n b)).2.2 y) ((wS (RA b) (RB b) (RT b) 0 (itm 2 n b)).2.2 x * (wS (RA b) (RB b) (RT b) 0 (itm 2 n b)).2.1 y)) else -9223372036854775805
end DR
theorem okD_all {n : Nat} {b : Nat → Nat} : okD n b (2 ^ itm 2 n b - 1) = true := by
  unfold okD
  rw [decide_eq_true_eq, first_none]
  · exact Nat.lt_irrefl _
  · intro s hs
    unfold cls
    rw [Nat.testBit_two_pow_sub_one, decide_eq_true hs]
    rfl
section DR2
variable {BA : pv_BA} {c v : Nat} {M : pv_M} {n : Nat → Nat} {b : Nat → Nat → Nat} {cn : Nat} {cf : Nat → Nat → Nat} {kn : Nat} {kf : Nat → Nat → Nat} {bn : Nat} {bf : Nat → Nat → Nat} {l d : Nat} {pu ra rb : Nat → Nat} {P V : Nat} {T : Nat → Nat → Nat → Nat} {U : Nat → Nat} {H : Nat → Int}
theorem drO_some (hle : itm 2 (n 2) (b 2) ≤ 8) : oldI (drO (n 2) (b 2) (2 ^ itm 2 (n 2) (b 2))) = nI ((drO (n 2) (b 2) (2 ^ itm 2 (n 2) (b 2))).getD (2 ^ itm 2 (n 2) (b 2) - 1)) := by
  have hpos : 0 < 2 ^ itm 2 (n 2) (b 2) := Nat.pow_pos (by decide)
  obtain ⟨m, hm⟩ : ∃ m, m = 2 ^ itm 2 (n 2) (b 2) - 1 := ⟨_, rfl⟩
  have e : 2 ^ itm 2 (n 2) (b 2) = m + 1 := by omega
  have hall := okD_all (n := n 2) (b := b 2)
  rw [← hm] at hall
  rw [← hm, e]
  have hs : drO (n 2) (b 2) (m + 1) = if lsb pcn (drO (n 2) (b 2) m) m = true ∧ okD (n 2) (b 2) m = true then some m else drO (n 2) (b 2) m := rfl
  cases h : drO (n 2) (b 2) m with
  | none =>
    rw [hs, h, if_pos ⟨rfl, hall⟩]
    rfl
  | some c =>
    rw [hs, h]
    split <;> rfl
theorem x_drop (h1 : I1 M n b) : ∃ M', f_X7_fewestDropped 5 M = some (oldI (drO (n 2) (b 2) (2 ^ itm 2 (n 2) (b 2))), M') ∧ ∀ a c, a ≠ 180 → M'.1 a c = M.1 a c := by
  have hle := (itm_le (b := b 2) (h1 2 (by decide)).1.1).1
  rw [drO_some hle]
  have hx5 : f_X5_items 5 M = some (nI (itm 2 (n 2) (b 2))) := x_it h1 (show 2 < 3 by decide)
  obtain ⟨q, hq⟩ : ∃ q, q = itm 2 (n 2) (b 2) := ⟨_, rfl⟩
  have hok := okD_all (n := n 2) (b := b 2)
  rw [← hq] at hle hok hx5 ⊢
  have hpos : 0 < 2 ^ q := Nat.pow_pos (by decide)
  have h256 : 2 ^ q ≤ 256 := Nat.le_trans (Nat.pow_le_pow_right (by decide) hle) (by decide)
  obtain ⟨D, hD⟩ : ∃ D : Nat → Option Nat, D = drO (n 2) (b 2) := ⟨_, rfl⟩
  have ds : ∀ k, D (k + 1) = if lsb pcn (D k) k = true ∧ okD (n 2) (b 2) k = true then some k else D k := fun k => by rw [hD]; rfl
  have dl : ∀ k c, D k = some c → c < k := fun k c h => by rw [hD] at h; exact lst_lt h
  have d0 : D 0 = none := by rw [hD]; rfl
  rw [← hD]
  unfold f_X7_fewestDropped
  rw [show pv_isT 5 = true from rfl, pv_ck_true, hx5, pv_cap_some, shl1 (by omega), show nI (2 ^ q) - 1 = nI (2 ^ q - 1) from pk_sub (a := 2 ^ q) (b := 1) (by omega), pv_nm_eq]
  refine for3b (2 ^ q) (fun k (x : Int32) (S : pv_M) => x = nI ((D k).getD (2 ^ q - 1)) ∧ ∀ a c, a ≠ 180 → S.1 a c = M.1 a c) (fun z => ∃ M' : pv_M, z = some (nI ((D (2 ^ q)).getD (2 ^ q - 1)), M') ∧ ∀ a c, a ≠ 180 → M'.1 a c = M.1 a c) ?_ ?_ pv_FU 0 _ M (Nat.zero_le _) (by show 2 ^ q - 0 < 5000; omega) ⟨by rw [d0]; rfl, fun _ _ _ => rfl⟩
  · rintro rec x S ⟨rfl, s1⟩
    unfold f_X7_fewestDropped_L14
    rw [shl1 (by omega), if_pos (nI_le (Nat.le_refl _) (by omega))]
    exact ⟨S, rfl, s1⟩
  · rintro rec k x S hk ⟨rfl, s1⟩ hrec
    have hg : (D k).getD (2 ^ q - 1) < 2 ^ q := by
      cases h : D k with
      | none => show 2 ^ q - 1 < 2 ^ q; omega
      | some c => have := dl k c h; show c < 2 ^ q; omega
    have pk := pcn_n hle hk
    have p1 := pcn_le (b := k)
    have p2 := pcn_le (b := (D k).getD (2 ^ q - 1))
    have h1S : I1 S n b := h1.fr (fun a c z => s1 a c (by omega))
    obtain ⟨S', f1, f2⟩ := x_agrees h1S (bt := k) (by omega)
    rw [← hq] at f1
    have hE : (fa_first (cls (RA (b 2)) (RB (b 2)) (RT (b 2)) k) q < q) = ¬ (okD (n 2) (b 2) k = true) := by
      unfold okD
      rw [← hq, decide_eq_true_eq]
      exact propext ⟨fun z w => w z, fun z => Decidable.of_not_not z⟩
    simp only [hE, ite_not] at f1
    unfold f_X7_fewestDropped_L14
    rw [shl1 (by omega), if_neg (nI_ge hk (by omega)), bc8 (by omega), pv_cap_some, bc8 (by omega), pv_cap_some, ite_lt (by omega) (by omega), nI_1]
    have hlsb : k ≠ 2 ^ q - 1 → (lsb pcn (D k) k = true ↔ pcn k < pcn ((D k).getD (2 ^ q - 1))) := fun hne => by
      cases h : D k with
      | none =>
        have := pcn_n hle (k := 2 ^ q - 1) (by omega)
        show true = true ↔ pcn k < pcn (2 ^ q - 1)
        exact ⟨fun _ => by omega, fun _ => rfl⟩
      | some c => exact decide_eq_true_iff
    by_cases ek : k = 2 ^ q - 1
    · have hno : ¬ pcn k < pcn ((D k).getD (2 ^ q - 1)) := by
        have := pcn_n hle hg
        omega
      rw [if_neg hno]
      refine hrec _ _ ⟨?_, s1⟩
      rw [ds k]
      cases h : D k with
      | none =>
        rw [if_pos ⟨rfl, by rw [ek]; exact hok⟩, ek]
        rfl
      | some c =>
        rw [h] at hno
        rw [if_neg (fun z => hno (of_decide_eq_true z.1))]
    · by_cases e : pcn k < pcn ((D k).getD (2 ^ q - 1))
      · rw [if_pos e, f1, pv_cal_some]
        by_cases e2 : okD (n 2) (b 2) k = true
        · rw [bt1 e2]
          refine hrec _ _ ⟨?_, fun a c z => by rw [f2 a c z]; exact s1 a c z⟩
          rw [ds k, if_pos ⟨(hlsb ek).mpr e, e2⟩]
          rfl
        · rw [bt0 e2]
          refine hrec _ _ ⟨?_, fun a c z => by rw [f2 a c z]; exact s1 a c z⟩
          rw [ds k, if_neg (fun z => e2 z.2)]
      · rw [if_neg e]
        refine hrec _ _ ⟨?_, s1⟩
        rw [ds k, if_neg (fun z => e ((hlsb ek).mp z.1))]
theorem Told.fr {M' : pv_M} (h : Told M n b) (hF : ∀ a c, a = 203 ∨ a = 204 → M'.1 a c = M.1 a c) : Told M' n b := fun t ht => by
  obtain ⟨t1, t2⟩ := h t ht
  exact ⟨by rw [hF _ _ (Or.inl rfl)]; exact t1, fun i hi k hk => by rw [hF _ _ (Or.inr rfl)]; exact t2 i hi k hk⟩
theorem m_drop (h1 : I1 M n b) (hT : Told M n b) : ∃ M', f_X9_dropNow M = some (oldI (drO (n 2) (b 2) (2 ^ itm 2 (n 2) (b 2))), M') ∧ ∀ a c, ¬ (a = 216 ∨ (a = 196 ∧ c = 26)) → M'.1 a c = M.1 a c := by
  have hle := (itm_le (b := b 2) (h1 2 (by decide)).1.1).1
  have ht2 := (hT 2 (by decide)).1
  obtain ⟨q, hq⟩ : ∃ q, q = itm 2 (n 2) (b 2) := ⟨_, rfl⟩
  rw [← hq] at hle ht2 ⊢
  have hpos : 0 < 2 ^ q := Nat.pow_pos (by decide)
  have h256 : 2 ^ q ≤ 256 := Nat.le_trans (Nat.pow_le_pow_right (by decide) hle) (by decide)
  obtain ⟨D, hD⟩ : ∃ D : Nat → Option Nat, D = drO (n 2) (b 2) := ⟨_, rfl⟩
  have ds : ∀ k, D (k + 1) = if lsb pcn (D k) k = true ∧ okD (n 2) (b 2) k = true then some k else D k := fun k => by rw [hD]; rfl
  have dl : ∀ k c, D k = some c → c < k := fun k c h => by rw [hD] at h; exact lst_lt h
  have d0 : D 0 = none := by rw [hD]; rfl
  rw [← hD]
  unfold f_X9_dropNow
  refine for3b (2 ^ q) (fun k (x : Int32) (S : pv_M) => x = oldI (D k) ∧ ∀ a c, ¬ (a = 216 ∨ (a = 196 ∧ c = 26)) → S.1 a c = M.1 a c) (fun z => ∃ M' : pv_M, z = some (oldI (D (2 ^ q)), M') ∧ ∀ a c, ¬ (a = 216 ∨ (a = 196 ∧ c = 26)) → M'.1 a c = M.1 a c) ?_ ?_ pv_FU 0 _ M (Nat.zero_le _) (by show 2 ^ q - 0 < 5000; omega) ⟨by rw [d0]; rfl, fun _ _ _ => rfl⟩
  · rintro rec x S ⟨rfl, s1⟩
    unfold f_X9_dropNow_L4
    rw [show (2 : Int32) = nI 2 from rfl, ld_203 (by decide), s1 _ _ (by omega), ht2, shl1 (by omega), if_pos (nI_le (Nat.le_refl _) (by omega))]
    exact ⟨S, rfl, s1⟩
  · rintro rec k x S hk ⟨rfl, s1⟩ hrec
    obtain ⟨S', f1, -, -, f2⟩ := m_finds (M := S) (h1.fr (fun a c z => s1 a c (by omega))) (hT.fr (fun a c z => s1 a c (by omega))) (bt := k) (by omega)
    rw [← hq] at f1
    have hE : (fa_first (cls (RA (b 2)) (RB (b 2)) (RT (b 2)) k) q < q) = ¬ (okD (n 2) (b 2) k = true) := by
      unfold okD
      rw [← hq, decide_eq_true_eq]
      exact propext ⟨fun z w => w z, fun z => Decidable.of_not_not z⟩
    simp only [hE, ite_not] at f1
    have p1 := pcn_le (b := k)
    unfold f_X9_dropNow_L4
    rw [show (2 : Int32) = nI 2 from rfl, ld_203 (by decide), s1 _ _ (by omega), ht2, shl1 (by omega), if_neg (nI_ge hk (by omega)), pv_jn_eq, nI_1]
    have hyes : lsb pcn (D k) k = true → ∃ M' : pv_M, pv_cal (f_X9_finds (nI k) S) (fun x5 M2 => (if x5 = 0 then rec (oldI (D k)) (nI (k + 1)) M2 else rec (nI k) (nI (k + 1)) M2)) = some (oldI (D (2 ^ q)), M') ∧ ∀ a c, ¬ (a = 216 ∨ (a = 196 ∧ c = 26)) → M'.1 a c = M.1 a c := fun e => by
      rw [f1, pv_cal_some]
      by_cases e2 : okD (n 2) (b 2) k = true
      · rw [bt1 e2]
        refine hrec _ _ ⟨?_, fun a c z => by rw [f2 a c z]; exact s1 a c z⟩
        rw [ds k, if_pos ⟨e, e2⟩]
        rfl
      · rw [bt0 e2]
        refine hrec _ _ ⟨?_, fun a c z => by rw [f2 a c z]; exact s1 a c z⟩
        rw [ds k, if_neg (fun z => e2 z.2)]
    cases h : D k with
    | none =>
      rw [h] at hyes
      rw [if_pos (show oldI none = -1 from rfl)]
      dsimp only
      rw [if_neg (by decide)]
      exact hyes rfl
    | some w =>
      have hw := dl k w h
      have p2 := pcn_le (b := w)
      rw [h] at hyes
      rw [if_neg (show ¬ oldI (some w) = -1 from m1_ne (i := w) (by omega)), ones8 (by omega), pv_cap_some, show oldI (some w) = nI w from rfl, ones8 (by omega), pv_cap_some, ite_le (by omega) (by omega)]
      by_cases e : pcn k < pcn w
      · rw [if_neg (by omega)]
        dsimp only
        rw [if_neg (by decide)]
        exact hyes (decide_eq_true e)
      · rw [if_pos (by omega)]
        dsimp only
        rw [if_pos rfl]
        refine hrec _ _ ⟨?_, s1⟩
        rw [ds k, h, if_neg (fun z => e (of_decide_eq_true z.1))]
        rfl
theorem m_clash (h1 : I1 M n b) : ∃ M', f_X9_clash M = some (clV (n 2) (b 2), M') ∧ Told M' n b ∧ ∀ a c, ¬ ((a = 196 ∧ (c = 7 ∨ c = 26)) ∨ a = 203 ∨ a = 204 ∨ a = 216) → M'.1 a c = M.1 a c := by
  obtain ⟨M1, r1, r2, r3⟩ := m_reads h1
  obtain ⟨M1', t1, t2⟩ := m_readsT h1
  have e : M1 = M1' := by
    have := r1.symm.trans t1
    cases this
    rfl
  subst e
  obtain ⟨M2, f1, f2, f3, f4⟩ := m_finds (M := M1) (h1.fr (fun a c q => t2 a c (by omega))) r3 (bt := 0) (by decide)
  refine ⟨M2, ?_, r3.fr (fun a c q => f4 a c (by omega)), fun a c q => by rw [f4 a c (by omega)]; exact t2 a c (by omega)⟩
  unfold f_X9_clash clV
  rw [r1, pv_cal_some, show f_X9_finds 0 M1 = _ from f1, pv_cal_some, pv_nm_eq, f3]
theorem op_clash : OP RIo (CAo BA) f_X8_clash f_X9_clash := by
  intro c M hc hI
  obtain ⟨n, b, cn, cf, kn, kf, bn, bf, l, d, pu, ra, rb, h1, h2, h3, h4, h5, h6, h7, h8, h9⟩ := id hI
  obtain ⟨M1, e1, -, e3⟩ := x_clash h1
  obtain ⟨M2, f1, -, f3⟩ := m_clash (M := M1) (h1.fr (fun a c q => e3 a c (by omega)))
  refine ⟨clV (n 2) (b 2), M1, M2, ?_, f1, (hI.frM (fun k j q => ?_)).more⟩
  · unfold f_X8_clash clV
    rw [e1, pv_cal_some]
  · rw [f3 k j (fun z => q (Or.inl (by unfold PM; omega))), e3 k j (fun z => q (Or.inr (by unfold PX; omega)))]
theorem op_drop : OP RIo (CAo BA) f_X8_drop f_X9_drop := by
  intro c M hc hI
  obtain ⟨n, b, cn, cf, kn, kf, bn, bf, l, d, pu, ra, rb, h1, h2, h3, h4, h5, h6, h7, h8, h9⟩ := id hI
  obtain ⟨M1, e1, e3⟩ := x_drop h1
  have h1' : I1 M1 n b := h1.fr (fun a c q => e3 a c (by omega))
  obtain ⟨M2, r1, r2, r3⟩ := m_reads h1'
  obtain ⟨M3, f1, f3⟩ := m_drop (M := M2) (h1'.fr (fun a c q => r2 a c (by unfold PM; omega))) r3
  refine ⟨oldI (drO (n 2) (b 2) (2 ^ itm 2 (n 2) (b 2))), M1, M3, ?_, ?_, (hI.frM (fun k j q => ?_)).more⟩
  · unfold f_X8_drop
    rw [e1, pv_cal_some]
  · unfold f_X9_drop
    rw [r1, pv_cal_some, f1, pv_cal_some]
  · rw [f3 k j (fun z => q (Or.inl (by unfold PM; omega))), r2 k j (fun z => q (Or.inl z)), e3 k j (fun z => q (Or.inr (by unfold PX; omega)))]
theorem x_above {s : pv_WS} (h : WI s) {S : pv_M} (hS : WX S s) {x y : Nat} (hx : x < 6) (hy : y < 6) : f_X7_aboveOf (nI x) (nI y) S = some (lN (s.2.1 x * s.2.2 y / Nat.gcd (s.2.1 x * s.2.2 y) (s.2.2 x * s.2.1 y))) := by
  obtain ⟨a1, a2, a3⟩ := hS x hx
  obtain ⟨b1, b2, b3⟩ := hS y hy
  have lx := h.le hx
  have ly := h.le hy
  obtain ⟨-, x2, x3, -⟩ := h.1 x hx
  obtain ⟨-, y2, y3, -⟩ := h.1 y hy
  have p1 : 0 < s.2.1 x * s.2.2 y := Nat.mul_pos x2 y3
  have q1 : s.2.1 x * s.2.2 y < 2 ^ 62 := Nat.lt_of_le_of_lt (Nat.mul_le_mul lx.1 ly.2) (by decide)
  have q2 : s.2.2 x * s.2.1 y < 2 ^ 62 := Nat.lt_of_le_of_lt (Nat.mul_le_mul lx.2 ly.1) (by decide)
  have e62 : (2 : Nat) ^ 62 < 2 ^ 63 := by decide
  have hg : 0 < Nat.gcd (s.2.1 x * s.2.2 y) (s.2.2 x * s.2.1 y) := Nat.gcd_pos_of_pos_left _ p1
  have hgl : Nat.gcd (s.2.1 x * s.2.2 y) (s.2.2 x * s.2.1 y) ≤ s.2.1 x * s.2.2 y := Nat.gcd_le_left _ p1
  unfold f_X7_aboveOf
  rw [ldL_n sa_181 hx, a2, ldL_n sa_182 hy, b3, lN_mul, pv_nm_eq, ldL_n sa_182 hx, a3, ldL_n sa_181 hy, b2, lN_mul, pv_nm_eq, x_cd q1 q2 p1, pv_cap_some, decide_eq_true (lN_ne0 hg (by omega)), pv_ck_true, pk_lDiv (by omega) hg (by omega)]
theorem x_worth (h1 : I1 M n b) {x y w : Nat} (hx : x < 6) (hy : y < 6) (hxy : x ≠ y) (hw : w < 2) : ∃ M', f_X8_worth (nI x) (nI y) (nI w) M = some (wrV (n 2) (b 2) x y w, M') ∧ ∀ a c, a ≠ 180 → M'.1 a c = M.1 a c := by
  obtain ⟨M1, e1, e2, e3⟩ := x_clash h1
  have hWI := wS_inv (bt := 0) (rat_rg (n := n 2) (b := b 2)) _ (Nat.le_refl _)
  refine ⟨M1, ?_, e3⟩
  unfold f_X8_worth wrV
  rw [xg_isKind, pv_cap_some, bt1 ⟨nI_le (Nat.zero_le _) (by omega), nI_le (show x ≤ 5 by omega) (by decide)⟩, xg_isKind, pv_cap_some, bt1 ⟨nI_le (Nat.zero_le _) (by omega), nI_le (show y ≤ 5 by omega) (by decide)⟩, if_neg (fun q => hxy ((nI_eq (by omega) (by omega)).mp q)), w_0_1, pv_cap_some, bt1 ⟨nI_le (Nat.zero_le _) (by omega), nI_le (show w ≤ 1 by omega) (by decide)⟩, e1, pv_cal_some]
  obtain ⟨s, hs⟩ : ∃ s, s = wS (RA (b 2)) (RB (b 2)) (RT (b 2)) 0 (itm 2 (n 2) (b 2)) := ⟨_, rfl⟩
  rw [← hs] at e2 hWI ⊢
  unfold f_X7_isTold
  rw [ld_180 hx, (e2 x hx).1, ld_180 hy, (e2 y hy).1, ite_eq (by have := (hWI.1 x hx).1; omega) (by have := (hWI.1 y hy).1; omega)]
  by_cases e : s.1 x = s.1 y
  · rw [if_pos e, pv_cap_some, if_neg (by decide), if_pos e, x_above hWI e2 hx hy, pv_cap_some, x_above hWI e2 hy hx, pv_cap_some, ite_eq0 (by omega)]
    by_cases hw0 : w = 0
    · rw [if_pos hw0, if_pos hw0]
    · rw [if_neg hw0, if_neg hw0, Nat.mul_comm (s.2.1 y) (s.2.2 x), Nat.mul_comm (s.2.2 y) (s.2.1 x), Nat.gcd_comm (s.2.2 x * s.2.1 y)]
  · rw [if_neg e, pv_cap_some, if_pos rfl, if_neg e]
theorem m_worthOf (h1 : I1 M n b) (hT : Told M n b) {x y w : Nat} (hx : x < 6) (hy : y < 6) (hw : w < 2) : ∃ M', f_X9_worthOf (nI x) (nI y) (nI w) M = some (wrV (n 2) (b 2) x y w, M') ∧ ∀ a c, ¬ (a = 216 ∨ (a = 196 ∧ c = 26)) → M'.1 a c = M.1 a c := by
  obtain ⟨M1, e1, e2, -, e3⟩ := m_finds h1 hT (bt := 0) (by decide)
  have hWI := wS_inv (bt := 0) (rat_rg (n := n 2) (b := b 2)) _ (Nat.le_refl _)
  refine ⟨M1, ?_, e3⟩
  unfold f_X9_worthOf wrV
  rw [show f_X9_finds 0 M = _ from e1, pv_cal_some]
  obtain ⟨s, hs⟩ : ∃ s, s = wS (RA (b 2)) (RB (b 2)) (RT (b 2)) 0 (itm 2 (n 2) (b 2)) := ⟨_, rfl⟩
  rw [← hs] at e2 hWI ⊢
  obtain ⟨a1, a2, a3⟩ := e2 x hx
  obtain ⟨b1, b2', b3⟩ := e2 y hy
  have lx := hWI.le hx
  have ly := hWI.le hy
  obtain ⟨gx, x2, x3, -⟩ := hWI.1 x hx
  obtain ⟨gy, y2, y3, -⟩ := hWI.1 y hy
  have p1 : 0 < s.2.1 x * s.2.2 y := Nat.mul_pos x2 y3
  have q1 : s.2.1 x * s.2.2 y < 2 ^ 62 := Nat.lt_of_le_of_lt (Nat.mul_le_mul lx.1 ly.2) (by decide)
  have q2 : s.2.2 x * s.2.1 y < 2 ^ 62 := Nat.lt_of_le_of_lt (Nat.mul_le_mul lx.2 ly.1) (by decide)
  have e62 : (2 : Nat) ^ 62 < 2 ^ 63 := by decide
  have hg : 0 < Nat.gcd (s.2.1 x * s.2.2 y) (s.2.2 x * s.2.1 y) := Nat.gcd_pos_of_pos_left _ p1
  have hgl : Nat.gcd (s.2.1 x * s.2.2 y) (s.2.2 x * s.2.1 y) ≤ s.2.1 x * s.2.2 y := Nat.gcd_le_left _ p1
  rw [ld_216 hx, a1, ld_216 hy, b1, ite_eq (by omega) (by omega)]
  by_cases e : s.1 x = s.1 y
  · rw [if_pos e, if_pos e, ldL_n sa_217 hx, a2, ldL_n sa_218 hy, b3, lN_mul, pv_nm_eq, ldL_n sa_218 hx, a3, ldL_n sa_217 hy, b2', lN_mul, pv_nm_eq, pv_jn_eq, m_cd q1 q2, ite_eq0 (by omega)]
    by_cases hw0 : w = 0
    · rw [if_pos hw0, if_pos hw0]
      dsimp only
      rw [pv_cap_some, decide_eq_true (lN_ne0 hg (by omega)), pv_ck_true, pk_lDiv (by omega) hg (by omega)]
    · rw [if_neg hw0, if_neg hw0]
      dsimp only
      rw [pv_cap_some, decide_eq_true (lN_ne0 hg (by omega)), pv_ck_true, pk_lDiv (by omega) hg (by omega)]
  · rw [if_neg e, if_neg e]
    unfold f_X9_no
    rw [pv_cap_some]
    rfl
theorem no2 : ((-9223372036854775808 : Int64) - (-2 : Int32).toInt64) = -9223372036854775806 := by decide
theorem m_worth (h1 : I1 M n b) {x y w : Nat} (hx : x < 6) (hy : y < 6) (hxy : x ≠ y) (hw : w < 2) : ∃ M', f_X9_worth (nI x) (nI y) (nI w) M = some (wrV (n 2) (b 2) x y w, M') ∧ Told M' n b ∧ ∀ a c, ¬ ((a = 196 ∧ (c = 7 ∨ c = 26)) ∨ a = 203 ∨ a = 204 ∨ a = 216) → M'.1 a c = M.1 a c := by
  obtain ⟨M1, r1, r2, r3⟩ := m_reads h1
  obtain ⟨M1', t1, t2⟩ := m_readsT h1
  have e : M1 = M1' := by
    have := r1.symm.trans t1
    cases this
    rfl
  subst e
  obtain ⟨M2, f1, f2⟩ := m_worthOf (M := M1) (h1.fr (fun a c q => t2 a c (by omega))) r3 hx hy hw
  refine ⟨M2, ?_, r3.fr (fun a c q => f2 a c (by omega)), fun a c q => by rw [f2 a c (by omega)]; exact t2 a c (by omega)⟩
  unfold f_X9_worth
  rw [r1, pv_cal_some, i_0_5, pv_cap_some, pv_jn_eq, bt1 ⟨nI_le (Nat.zero_le _) (by omega), nI_le (show x ≤ 5 by omega) (by decide)⟩, i_0_5, pv_cap_some, bt1 ⟨nI_le (Nat.zero_le _) (by omega), nI_le (show y ≤ 5 by omega) (by decide)⟩, if_neg (fun q => hxy ((nI_eq (by omega) (by omega)).mp q)), mg_isTwo, pv_cap_some, bt1 ⟨nI_le (Nat.zero_le _) (by omega), nI_le (show w ≤ 1 by omega) (by decide)⟩, f1, pv_cal_some]
theorem op_worth (a1 a2 a3 : Int32) : OPL RIo (CAo BA) (f_X8_worth a1 a2 a3) (f_X9_worth a1 a2 a3) := by
  intro c M hc hI
  obtain ⟨n, b, cn, cf, kn, kf, bn, bf, l, d, pu, ra, rb, h1, h2, h3, h4, h5, h6, h7, h8, h9⟩ := id hI
  obtain ⟨R, r1, r2, r3⟩ := m_reads h1
  have hbad : Inv RIo (CAo BA) (c + 1) R := (hI.mFr r2).more
  by_cases g1 : nI 0 ≤ a1 ∧ a1 ≤ nI 5
  · by_cases g2 : nI 0 ≤ a2 ∧ a2 ≤ nI 5
    · by_cases g3 : a1 = a2
      · refine ⟨-9223372036854775806, M, R, ?_, ?_, hbad⟩
        · unfold f_X8_worth
          rw [xg_isKind, pv_cap_some, bt1 g1, xg_isKind, pv_cap_some, bt1 g2, if_pos g3]
        · unfold f_X9_worth f_X9_no
          rw [r1, pv_cal_some, i_0_5, pv_cap_some, pv_jn_eq, bt1 g1, i_0_5, pv_cap_some, bt1 g2, if_pos g3, pv_cap_some, no2]
      · by_cases g4 : nI 0 ≤ a3 ∧ a3 ≤ nI 1
        · obtain ⟨x, hx, rfl⟩ := rng (by decide) g1
          obtain ⟨y, hy, rfl⟩ := rng (by decide) g2
          obtain ⟨w, hw, rfl⟩ := rng (by decide) g4
          have hxy : x ≠ y := fun q => g3 (by rw [q])
          obtain ⟨M1, e1, e2⟩ := x_worth h1 (show x < 6 by omega) (show y < 6 by omega) hxy (show w < 2 by omega)
          obtain ⟨M2, f1, -, f2⟩ := m_worth (M := M1) (h1.fr (fun a c q => e2 a c (by omega))) (show x < 6 by omega) (show y < 6 by omega) hxy (show w < 2 by omega)
          refine ⟨_, M1, M2, e1, f1, (hI.frM (fun k j q => ?_)).more⟩
          rw [f2 k j (fun z => q (Or.inl (by unfold PM; omega))), e2 k j (fun z => q (Or.inr (by unfold PX; omega)))]
        · refine ⟨-9223372036854775806, M, R, ?_, ?_, hbad⟩
          · unfold f_X8_worth
            rw [xg_isKind, pv_cap_some, bt1 g1, xg_isKind, pv_cap_some, bt1 g2, if_neg g3, w_0_1, pv_cap_some, bt0 g4]
          · unfold f_X9_worth f_X9_no
            rw [r1, pv_cal_some, i_0_5, pv_cap_some, pv_jn_eq, bt1 g1, i_0_5, pv_cap_some, bt1 g2, if_neg g3, mg_isTwo, pv_cap_some, bt0 g4, pv_cap_some, no2]
    · refine ⟨-9223372036854775806, M, R, ?_, ?_, hbad⟩
      · unfold f_X8_worth
        rw [xg_isKind, pv_cap_some, bt1 g1, xg_isKind, pv_cap_some, bt0 g2]
      · unfold f_X9_worth f_X9_no
        rw [r1, pv_cal_some, i_0_5, pv_cap_some, pv_jn_eq, bt1 g1, i_0_5, pv_cap_some, bt0 g2, pv_cap_some, no2]
  · refine ⟨-9223372036854775806, M, R, ?_, ?_, hbad⟩
    · unfold f_X8_worth
      rw [xg_isKind, pv_cap_some, bt0 g1]
    · unfold f_X9_worth f_X9_no
      rw [r1, pv_cal_some, i_0_5, pv_cap_some, pv_jn_eq, bt0 g1, pv_cap_some, no2]
end DR2
