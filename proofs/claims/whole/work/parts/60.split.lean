/-! tight frames of the model's readers -/
def FrL (M M' : pv_M) : Prop := ∀ k j, ¬ ((k = 196 ∧ j = 7) ∨ k = 203 ∨ k = 204 ∨ k = 208 ∨ k = 209) → M'.1 k j = M.1 k j
def FrR (M M' : pv_M) : Prop := ∀ k j, ¬ ((k = 196 ∧ j = 7) ∨ k = 203 ∨ k = 204) → M'.1 k j = M.1 k j
theorem m_readsT {M : pv_M} {n : Nat → Nat} {b : Nat → Nat → Nat} (h1 : I1 M n b) : ∃ M', f_X9_reads M = some ((), M') ∧ FrR M M' := by
  unfold f_X9_reads
  refine for2 3 (fun t (S : pv_M) => FrR M S) (fun q => ∃ M' : pv_M, q = some ((), M') ∧ FrR M M') ?_ ?_ pv_FU 0 M (by decide) (by decide) (fun _ _ _ => rfl)
  · intro rec S hS
    unfold f_X9_reads_L2
    rw [if_pos (by decide)]
    exact ⟨S, rfl, hS⟩
  · intro rec t S ht hS hr
    unfold f_X9_reads_L2
    rw [show (3 : Int32) = nI 3 from rfl, if_neg (nI_ge ht (by decide))]
    have hM : txM S t (n t) (b t) := by
      obtain ⟨a1, a2, a3⟩ := (h1 t ht).1
      exact ⟨a1, by rw [hS 202 t (by omega)]; exact a2, fun i hi => ⟨(a3 i hi).1, by rw [hS 201 _ (by omega)]; exact (a3 i hi).2⟩⟩
    obtain ⟨r, M', e1, e2, e3, e4, e5⟩ := m_text ht hM
    rw [e1, pv_cal_some, nI_1]
    exact hr _ (fun k j q => by rw [e3 k j (by omega)]; exact hS k j q)
theorem FrR.M {M M' : pv_M} (h : FrR M M') : FrM M M' := fun k j q => h k j (fun z => q (by unfold PM; omega))
theorem FrL.M {M M' : pv_M} (h : FrL M M') : FrM M M' := fun k j q => h k j (fun z => q (by unfold PM; omega))
theorem shl1 {y : Nat} (h : y < 31) : (1 : Int32) <<< (nI y &&& 31) = nI (2 ^ y) := (show ∀ y, y < 31 → (1 : Int32) <<< (nI y &&& 31) = nI (2 ^ y) by decide +kernel) y h
def spl (P V : Nat) (T : Nat → Nat → Nat → Nat) (U : Nat → Nat) (H : Nat → Int) : Nat → Nat
  | 0 => 0
  | k + 1 => spl P V T U H k ||| (if grt P V T U H 0 (k / 3) (k % 3) = grt P V T U H 1 (k / 3) (k % 3) then 0 else 2 ^ (k / 3))
section S
variable {BA : pv_BA} {c v : Nat} {M : pv_M} {n : Nat → Nat} {b : Nat → Nat → Nat} {cn : Nat} {cf : Nat → Nat → Nat} {kn : Nat} {kf : Nat → Nat → Nat} {bn : Nat} {bf : Nat → Nat → Nat} {l d : Nat} {pu ra rb : Nat → Nat} {P V : Nat} {T : Nat → Nat → Nat → Nat} {U : Nat → Nat} {H : Nat → Int}
theorem KS.readsT (K : KS BA c v M n b cn cf kn kf bn bf l d pu ra rb P V T U H) : ∃ M', f_X9_reads M = some ((), M') ∧ FrR M M' ∧ Told M' n b ∧ MR M' P V T U H := by
  obtain ⟨M', e1, e2, e3, e4⟩ := K.reads
  obtain ⟨M'', f1, f2⟩ := m_readsT K.1
  have e : M' = M'' := by
    have := e1.symm.trans f1
    cases this
    rfl
  subst e
  exact ⟨M', e1, f2, e3, e4⟩
theorem KS.livesT (K : KS BA c v M n b cn cf kn kf bn bf l d pu ra rb P V T U H) {k : Nat} (hk : k < 3) : ∃ M', f_X9_lives (nI k) M = some ((), M') ∧ FrL M M' ∧ Told M' n b ∧ MR M' P V T U H ∧ Lv M' P V T U H k := by
  obtain ⟨M1, e1, e2, e3, e4⟩ := K.readsT
  obtain ⟨M2, f1, f2, f3⟩ := m_livesL K.wf e4 hk
  refine ⟨M2, ?_, fun k j q => ?_, fun t ht => ?_, e4.fr (fun k j q => f2 k j (by omega)), f3⟩
  · unfold f_X9_lives
    rw [e1, pv_cal_some, f1]
  · rw [f2 k j (by omega)]
    exact e2 k j (by omega)
  · obtain ⟨t1, t2⟩ := e3 t ht
    exact ⟨by rw [f2 _ _ (by omega)]; exact t1, fun i hi k hk => by rw [f2 _ _ (by omega)]; exact t2 i hi k hk⟩
theorem KS.nowT (K : KS BA c v M n b cn cf kn kf bn bf l d pu ra rb P V T U H) : ∃ M', f_X9_livesNow M = some ((), M') ∧ FrL M M' ∧ Told M' n b ∧ MR M' P V T U H ∧ Lv M' P V T U H l := by
  have h5 := K.2.2.2.2.1
  obtain ⟨M', e1, e2⟩ := K.livesT h5.1
  refine ⟨M', ?_, e2⟩
  unfold f_X9_livesNow
  rw [show pv_ldI pv_T 205 0 M = fun f => pv_ldI pv_T 205 (nI 0) M f from rfl]
  dsimp only
  rw [ld_205 (by decide), h5.2.2.2.1, e1, pv_cal_some]
theorem ST.pv {k : Nat} (h : ST BA c v M n b cn cf k P V T U H) (hk : k < 3) (hc : c < 900) : ∀ y u, y < 10 → u < 3 → Pv1 M.1 (53 + 35 * k) P V T U H k y u := by
  obtain ⟨s1, s2, s3, s4, s5, s6, s7, s8, s9, s10⟩ := h
  obtain ⟨p1, a, p2, p3, p4⟩ := s8 k hk
  rw [s9] at p3
  exact p4 ((nI_eq (by omega) (by omega)).mp p3).symm s2
theorem KS.upd (hB : BAok BA) (K : KS BA c v M n b cn cf kn kf bn bf l d pu ra rb P V T U H) (hc : c < 900) {k : Nat} (hk : k < 3) : ∃ M', f_X1_update (53 + 35 * k) M = some ((), M') ∧ KS BA c v M' n b cn cf kn kf bn bf l d pu ra rb P V T U H ∧ (∀ y u, y < 10 → u < 3 → Pv1 M'.1 (53 + 35 * k) P V T U H k y u) ∧ (∀ j, j < 3 → j ≠ k → ∀ x c, 53 + 35 * j ≤ x → x ≤ 53 + 35 * j + 34 → M'.1 x c = M.1 x c) ∧ (∀ x c, ¬ (53 ≤ x ∧ x ≤ 157) → M'.1 x c = M.1 x c) := by
  obtain ⟨h1, h2, h3, h4, h5, h6, h7, h8, h9⟩ := K
  have hl := h5.1
  obtain ⟨s1, s2, s3, s4, s5, s6, s7, s8, s9, s10⟩ := id h9
  obtain ⟨M', e1, hF, e3, e4, e5⟩ := ST.upd (c := c) hB hc hk s1 s2 s3 s4 s5 s6 s7 s8 s10
  refine ⟨M', e1, ⟨(h1.fr (fun k j q => hF k j (by first | omega | (unfold PM PX; omega) | (unfold PM; omega)))), (h2.fr (fun k j q => hF k j (by first | omega | (unfold PM PX; omega) | (unfold PM; omega)))), (h3.fr (fun k j q => hF k j (by first | omega | (unfold PM PX; omega) | (unfold PM; omega)))), (h4.fr (fun k j q => hF k j (by first | omega | (unfold PM PX; omega) | (unfold PM; omega)))), (h5.fr (fun k j q => hF k j (by first | omega | (unfold PM PX; omega) | (unfold PM; omega)))), (h6.fr (fun k j q => hF k j (by first | omega | (unfold PM PX; omega) | (unfold PM; omega)))), (h7.fr (fun k j q => hF k j (by first | omega | (unfold PM PX; omega) | (unfold PM; omega)))), (h8.fr (fun k j q => hF k j (by first | omega | (unfold PM PX; omega) | (unfold PM; omega)))), ?_⟩, e3.pv hk hc, e4, hF⟩
  obtain ⟨t1, t2, t3, t4, t5, t6, t7, t8, t9, t10⟩ := e3
  refine ⟨t1, t2, t3, t4, t5, t6, t7, t8, ?_, t10⟩
  by_cases e : l = k
  · subst e
    exact t9
  · rw [e4 l hl e _ _ (by omega) (by omega)]
    exact s9
theorem xs_split (hB : BAok BA) (K : KS BA c v M n b cn cf kn kf bn bf l d pu ra rb P V T U H) (hc : c < 900) : ∃ M', f_X8_split M = some (nI (spl P V T U H 30), M') ∧ KS BA c v M' n b cn cf kn kf bn bf l d pu ra rb P V T U H ∧ (∀ x c, ¬ (53 ≤ x ∧ x ≤ 157) → M'.1 x c = M.1 x c) := by
  obtain ⟨M2, e1, K2, p2, f2, g2⟩ := K.upd hB hc (k := 0) (by decide)
  obtain ⟨M3, e3, K3, p3, f3, g3⟩ := K2.upd hB hc (k := 1) (by decide)
  have hw := K.wf
  have hP := hw.1
  have p0 : ∀ y u, y < 10 → u < 3 → Pv1 M3.1 53 P V T U H 0 y u := fun y u hy hu => (p2 y u hy hu).fr hP (fun a c q => f3 0 (by decide) (by decide) a c (by omega) (by omega))
  have p1 : ∀ y u, y < 10 → u < 3 → Pv1 M3.1 88 P V T U H 1 y u := p3
  have e1' : f_X1_update 53 M = some ((), M2) := e1
  have e3' : f_X1_update 88 M2 = some ((), M3) := e3
  refine ⟨M3, ?_, K3, fun x c q => by rw [g3 x c q, g2 x c q]⟩
  unfold f_X8_split
  rw [K.settle hc, pv_cal_some, e1', pv_cal_some, e3', pv_cal_some]
  refine for2b 10 (fun y (x : Int32) => x = nI (spl P V T U H (3 * y))) (fun q => q = some (nI (spl P V T U H 30), M3)) ?_ ?_ pv_FU 0 _ (Nat.zero_le _) (by decide) rfl
  · rintro rec x rfl
    unfold f_X8_split_L22
    rw [if_pos (by decide)]
  · rintro rec y x hy rfl hrec
    unfold f_X8_split_L22
    rw [show (10 : Int32) = nI 10 from rfl, if_neg (nI_ge hy (by decide))]
    refine for2b 3 (fun u (x : Int32) => x = nI (spl P V T U H (3 * y + u))) (fun q => q = some (nI (spl P V T U H 30), M3)) ?_ ?_ pv_FU 0 _ (Nat.zero_le _) (by decide) rfl
    · rintro rec2 x rfl
      unfold f_X8_split_L30
      rw [if_pos (by decide), nI_1]
      exact hrec _ (by rw [show 3 * (y + 1) = 3 * y + 3 by omega])
    · rintro rec2 u x hu rfl hrec2
      have r0 := grt_rg hw (k := 0) hy hu
      have r1 := grt_rg hw (k := 1) hy hu
      have q1 : (3 * y + u) / 3 = y := by omega
      have q2 : (3 * y + u) % 3 = u := by omega
      have hs : spl P V T U H (3 * y + (u + 1)) = spl P V T U H (3 * y + u) ||| (if grt P V T U H 0 y u = grt P V T U H 1 y u then 0 else 2 ^ y) := by
        rw [← Nat.add_assoc]
        conv => lhs; unfold spl
        rw [q1, q2]
      unfold f_X8_split_L30
      rw [show (3 : Int32) = nI 3 from rfl, if_neg (nI_ge hu (by decide)), Pv_great (k := 0) (Or.inl rfl) hy hu (p0 y u hy hu), pv_cap_some, Pv_great (k := 1) (Or.inr (Or.inl rfl)) hy hu (p1 y u hy hu), pv_cap_some, ite_eq (by omega) (by omega), nI_1, pv_nm_eq, shl1 (by omega), fa_or]
      by_cases e : grt P V T U H 0 y u = grt P V T U H 1 y u
      · rw [if_pos e]
        exact hrec2 _ (by rw [hs, if_pos e, Nat.or_zero])
      · rw [if_neg e]
        exact hrec2 _ (by rw [hs, if_neg e])
theorem m_split (hB : BAok BA) (K : KS BA c v M n b cn cf kn kf bn bf l d pu ra rb P V T U H) : ∃ M', f_X9_splitNow M = some (nI (spl P V T U H 30), M') ∧ (∀ k j, ¬ ((k = 196 ∧ j = 7) ∨ k = 203 ∨ k = 204 ∨ k = 208 ∨ k = 209 ∨ k = 210) → M'.1 k j = M.1 k j) := by
  obtain ⟨M1, e1, e2, e3, e4, e5⟩ := K.livesT (k := 0) (by decide)
  have hw := K.wf
  have e1' : f_X9_lives 0 M = some ((), M1) := e1
  unfold f_X9_splitNow
  rw [e1', pv_cal_some, pv_jn_eq]
  refine for2 30 (fun k (S : pv_M) => (∀ a c, a ≠ 210 → S.1 a c = M1.1 a c) ∧ ∀ j, j < k → S.1 210 j = nI (grt P V T U H 0 (j / 3) (j % 3))) (fun q => ∃ M' : pv_M, q = some (nI (spl P V T U H 30), M') ∧ (∀ k j, ¬ ((k = 196 ∧ j = 7) ∨ k = 203 ∨ k = 204 ∨ k = 208 ∨ k = 209 ∨ k = 210) → M'.1 k j = M.1 k j)) ?_ ?_ pv_FU 0 M1 (Nat.zero_le _) (by decide) ⟨fun _ _ _ => rfl, fun j h => absurd h (Nat.not_lt_zero _)⟩
  · intro rec S hS
    unfold f_X9_splitNow_L7
    rw [if_pos (by decide)]
    dsimp only
    have hF : ∀ k j, ¬ ((k = 196 ∧ j = 7) ∨ k = 203 ∨ k = 204 ∨ k = 208 ∨ k = 209 ∨ k = 210) → S.1 k j = M.1 k j := fun k j q => by
      rw [hS.1 k j (by omega)]
      exact e2 k j (by omega)
    have K' := K.frM hB (M' := S) (fun k j q => hF k j (fun z => q (by unfold PM; omega)))
    obtain ⟨M3, g1, g2, g3, g4, g5⟩ := K'.livesT (k := 1) (by decide)
    have g1' : f_X9_lives 1 S = some ((), M3) := g1
    rw [g1', pv_cal_some]
    have h210 : ∀ j, j < 30 → M3.1 210 j = nI (grt P V T U H 0 (j / 3) (j % 3)) := fun j hj => by rw [g2 210 j (by omega)]; exact hS.2 j hj
    refine ⟨M3, ?_, fun k j q => by rw [g2 k j (by omega)]; exact hF k j q⟩
    refine for2b 30 (fun k (x : Int32) => x = nI (spl P V T U H k)) (fun q => q = some (nI (spl P V T U H 30), M3)) ?_ ?_ pv_FU 0 _ (Nat.zero_le _) (by decide) rfl
    · rintro rec x rfl
      unfold f_X9_splitNow_L44
      rw [if_pos (by decide)]
    · rintro rec k x hk rfl hrec
      have r0 := grt_rg hw (k := 0) (y := k / 3) (u := k % 3) (by omega) (by omega)
      have r1 := grt_rg hw (k := 1) (y := k / 3) (u := k % 3) (by omega) (by omega)
      unfold f_X9_splitNow_L44
      rw [show (30 : Int32) = nI 30 from rfl, if_neg (nI_ge hk (by decide)), show (3 : Int32) = nI 3 from rfl, pk_rem (by omega) (by decide) (by decide), pk_div (by omega) (by decide) (by decide), ld_210 (by omega), h210 k hk, Lv_great g5 g4 hw (by omega) (by omega), pv_cap_some, pv_jn_eq, ite_eq (by omega) (by omega), shl1 (by omega), nI_1]
      by_cases e : grt P V T U H 0 (k / 3) (k % 3) = grt P V T U H 1 (k / 3) (k % 3)
      · rw [if_pos e]
        dsimp only
        rw [pv_nm_eq, show (0 : Int32) = nI 0 from rfl, fa_or]
        exact hrec _ (by conv => rhs; unfold spl
                         rw [if_pos e])
      · rw [if_neg e]
        dsimp only
        rw [pv_nm_eq, fa_or]
        exact hrec _ (by conv => rhs; unfold spl
                         rw [if_neg e])
  · intro rec k S hk hS hr
    have hR : MR S P V T U H := e4.fr (fun a c q => hS.1 a c (by omega))
    have hL : Lv S P V T U H 0 := fun y u hy hu => (e5 y u hy hu).fr hw.1 (hS.1 _ _ (by omega)) (fun c _ _ => hS.1 _ _ (by omega))
    unfold f_X9_splitNow_L7
    rw [show (30 : Int32) = nI 30 from rfl, if_neg (nI_ge hk (by decide)), show (3 : Int32) = nI 3 from rfl, pk_rem (by omega) (by decide) (by decide), pk_div (by omega) (by decide) (by decide), Lv_great hL hR hw (by omega) (by omega), pv_cap_some, st_210 (by omega), nI_1]
    refine hr _ ⟨fun a c q => by rw [fst_u, if_neg (by omega)]; exact hS.1 a c q, fun j hj => ?_⟩
    rw [fst_u]
    by_cases e : j = k
    · subst e
      rw [if_pos ⟨rfl, rfl⟩]
    · rw [if_neg (by omega)]
      exact hS.2 j (by omega)
theorem op_split (hB : BAok BA) : OP RIo (CAo BA) f_X8_split f_X9_split := by
  refine OP_of hB (fun M M1 e1 e2 _ => by unfold f_X8_split; rw [e1, e2]) ?_
  intro c v M n b cn cf kn kf bn bf l d pu ra rb P V T U H K hc
  obtain ⟨M1, e1, K1, -⟩ := xs_split hB K (by omega)
  obtain ⟨M2, f1, f2⟩ := m_split hB K1
  refine ⟨_, M1, M2, e1, ?_, (K1.frM hB (fun k j q => f2 k j (fun z => q (by unfold PM; omega)))).inv hB⟩
  unfold f_X9_split
  rw [f1, pv_cal_some]
end S
