theorem Pv1.fr {F F' : Nat → Nat → Int32} {o P V : Nat} {T : Nat → Nat → Nat → Nat} {U : Nat → Nat} {H : Nat → Int} {l y u : Nat} (h : Pv1 F o P V T U H l y u) (hP : P ≤ 4) (hF : ∀ a c, ((a = o + 2 + y ∧ c = u) ∨ (a = o + 13 + y ∧ c = u) ∨ (a = o + 24 + y ∧ u * 4 ≤ c ∧ c < u * 4 + 4)) → F' a c = F a c) : Pv1 F' o P V T U H l y u :=
  ⟨fun e => ⟨by rw [hF _ _ (by omega)]; exact (h.1 e).1, by rw [hF _ _ (by omega)]; exact (h.1 e).2⟩, fun e => ⟨by rw [hF _ _ (by omega)]; exact (h.2 e).1, by rw [hF _ _ (by omega)]; exact (h.2 e).2.1, fun p hp => by rw [hF _ _ (by omega)]; exact (h.2 e).2.2 p hp⟩⟩
theorem x_open {M : pv_M} {P V : Nat} {T : Nat → Nat → Nat → Nat} {U : Nat → Nat} {H : Nat → Int} {o y u l : Nat} (hO : isO o) (hy : y < 10) (hu : u < 3) (hP : P = 0) : ∃ M', f_X1_leaveOpen o (nI y) (nI u) M = some ((), M') ∧ FrP o y u M M' ∧ Pv1 M'.1 o P V T U H l y u := by
  unfold f_X1_leaveOpen
  rw [isP_o hO, pv_ck_true, rp_2 hO hy, tp_2 hO hy hu, rp_13 hO hy, tp_13 hO hy hu]
  refine ⟨_, rfl, fun a c q => ?_, fun _ => ⟨?_, ?_⟩, fun q => absurd q (by omega)⟩
  · rw [fst_u, if_neg (by omega), fst_u, if_neg (by omega)]
  · rw [fst_u, if_neg (by omega), fst_u, if_pos ⟨rfl, rfl⟩]
  · rw [fst_u, if_pos ⟨rfl, rfl⟩]
    rfl
theorem x_repeat {M : pv_M} {P V : Nat} {T : Nat → Nat → Nat → Nat} {U : Nat → Nat} {H : Nat → Int} (w : WF P V T U H) (h : XR M.1 P V T U H) {o y u l : Nat} (hO : isO o) (hy : y < 10) (hu : u < 3) (hu0 : 0 < u) (hl : l = 0 ∨ l = 2) (hP : 0 < P) (h0 : Pv1 M.1 o P V T U H l y 0) : ∃ M', f_X1_repeatFirst o (nI y) (nI u) M = some ((), M') ∧ FrP o y u M M' ∧ Pv1 M'.1 o P V T U H l y u := by
  have w1 := w.1
  have ob : 53 ≤ o ∧ o ≤ 123 := by rcases hO with rfl | rfl | rfl <;> omega
  obtain ⟨p1, p2, p3⟩ := h0.2 hP
  have hwl := win_lt (V := V) (T := T) (U := U) (H := H) (l := l) (u := 0) hP y
  unfold f_X1_repeatFirst
  rw [isP_o hO, pv_ck_true, rp_2 hO hy, rp_2 hO hy, show (0 : Int32) = nI 0 from rfl, lp_2 hO hy (by decide), p1, tp_2 hO hy hu, rp_13 hO hy, rp_2 hO hy, lp_2 hO hy (by decide), fst_u, if_neg (by omega), p1]
  have hX1 : XR (pv_u M.1 (o + 2 + y) u (nI (win P V T U H l 0 y))) P V T U H := h.fr (fun a c q => by rw [u_if, if_neg (by omega)])
  rw [x_figure (M := (pv_u M.1 (o + 2 + y) u (nI (win P V T U H l 0 y)), M.2)) w hX1 hy hwl hu, pv_cap_some, tp_13 hO hy hu, rp_24 hO hy, rp_24 hO hy, show (4 : Int32) = nI 4 from rfl, pk_mul]
  generalize hM2 : ((pv_u (pv_u M.1 (o + 2 + y) u (nI (win P V T U H l 0 y)), M.2).1 (o + 13 + y) u (nI (T y (win P V T U H l 0 y) u)), (pv_u M.1 (o + 2 + y) u (nI (win P V T U H l 0 y)), M.2).2) : pv_M) = M2
  have m2 : ∀ a c, M2.1 a c = if a = o + 13 + y ∧ c = u then nI (T y (win P V T U H l 0 y) u) else if a = o + 2 + y ∧ c = u then nI (win P V T U H l 0 y) else M.1 a c := fun a c => by rw [← hM2, fst_u, fst_u]
  obtain ⟨c1, c2, c3⟩ := x_cpy (M := M2) (a := o + 24 + y) (b := o + 24 + y) (i := 0) (j := u * 4) (k := 4) (sp_24 hO hy) (sp_24 hO hy) (by decide) (by omega)
  rw [c1, pv_ck_true, pv_nm_eq]
  refine ⟨_, rfl, fun a c q => ?_, fun q => absurd q (by omega), fun _ => ⟨?_, ?_, fun p hp => ?_⟩⟩
  · rw [c3, if_neg (by omega), m2, if_neg (by omega), if_neg (by omega)]
  · rw [c3, if_neg (by omega), m2, if_neg (by omega), if_pos ⟨rfl, rfl⟩, win_u u hl]
  · rw [c3, if_neg (by omega), m2, if_pos ⟨rfl, rfl⟩, win_u u hl]
  · rw [c3, if_pos (by omega), m2, if_neg (by omega), if_neg (by omega), tly_u u hl, olds_u u hl]
    have := p3 p hp
    rw [show 0 * 4 + p = 0 + (u * 4 + p - u * 4) by omega] at this
    exact this
theorem x_update {M : pv_M} {P V : Nat} {T : Nat → Nat → Nat → Nat} {U : Nat → Nat} {H : Nat → Int} (w : WF P V T U H) (h : XR M.1 P V T U H) {o l v a : Nat} (hO : isO o) (hl : l < 3) (hlaw : M.1 o 1 = nI l) (hv : M.1 39 2 = nI v) (ha : M.1 o 6 = nI a) (hv2 : v < 1000) (ha2 : a ≤ v) (hok : a = v → ∀ y u, y < 10 → u < 3 → Pv1 M.1 o P V T U H l y u) :
    ∃ M', f_X1_update o M = some ((), M') ∧ (∀ x c, ¬ ((x = o ∧ c = 6) ∨ (o + 2 ≤ x ∧ x ≤ o + 34)) → M'.1 x c = M.1 x c) ∧ M'.1 o 6 = nI v ∧ (∀ y u, y < 10 → u < 3 → Pv1 M'.1 o P V T U H l y u) ∧ (a = v → M' = M) := by
  have w1 := w.1
  have ob : 53 ≤ o ∧ o ≤ 123 := by rcases hO with rfl | rfl | rfl <;> omega
  unfold f_X1_update
  rw [isP_o hO, pv_ck_true, pv_nm_eq, pv_nm_eq, ha, hv, ite_eq (by omega) (by omega)]
  by_cases e : a = v
  · rw [if_pos e]
    exact ⟨M, rfl, fun _ _ _ => rfl, by rw [ha, e], hok e, fun _ => rfl⟩
  · rw [if_neg e, pv_nm_eq, pv_nm_eq]
    have hfin : ∃ M' : pv_M, pv_lp2 (f_X1_update_L28 o) pv_FU 0 (pv_u M.1 o 6 (nI v), M.2) = some ((), M') ∧ (∀ x c, ¬ ((x = o ∧ c = 6) ∨ (o + 2 ≤ x ∧ x ≤ o + 34)) → M'.1 x c = M.1 x c) ∧ M'.1 o 6 = nI v ∧ (∀ y u, y < 10 → u < 3 → Pv1 M'.1 o P V T U H l y u) := by
      refine for2 10 (fun y (S : pv_M) => (∀ x c, ¬ (o + 2 ≤ x ∧ x ≤ o + 34) → S.1 x c = (pv_u M.1 o 6 (nI v)) x c) ∧ ∀ z x, z < y → x < 3 → Pv1 S.1 o P V T U H l z x) (fun q => ∃ M' : pv_M, q = some ((), M') ∧ (∀ x c, ¬ ((x = o ∧ c = 6) ∨ (o + 2 ≤ x ∧ x ≤ o + 34)) → M'.1 x c = M.1 x c) ∧ M'.1 o 6 = nI v ∧ (∀ y u, y < 10 → u < 3 → Pv1 M'.1 o P V T U H l y u)) ?_ ?_ pv_FU 0 _ (Nat.zero_le _) (by decide) ⟨fun _ _ _ => rfl, fun z x hz => absurd hz (Nat.not_lt_zero _)⟩
      · intro rec S hS
        unfold f_X1_update_L28
        rw [if_pos (by decide)]
        refine ⟨S, rfl, fun x c q => ?_, ?_, fun y u hy hu => hS.2 y u hy hu⟩
        · rw [hS.1 x c (by omega), u_if, if_neg (by omega)]
        · rw [hS.1 o 6 (by omega), u_if, if_pos ⟨rfl, rfl⟩]
      · intro rec y S hy hS hrec
        unfold f_X1_update_L28
        rw [show (10 : Int32) = nI 10 from rfl, if_neg (nI_ge hy (by decide))]
        refine for2 3 (fun u (S' : pv_M) => (∀ x c, ¬ (o + 2 ≤ x ∧ x ≤ o + 34) → S'.1 x c = (pv_u M.1 o 6 (nI v)) x c) ∧ ∀ z x, (z < y ∨ (z = y ∧ x < u)) → x < 3 → Pv1 S'.1 o P V T U H l z x) (fun q => ∃ M' : pv_M, q = some ((), M') ∧ (∀ x c, ¬ ((x = o ∧ c = 6) ∨ (o + 2 ≤ x ∧ x ≤ o + 34)) → M'.1 x c = M.1 x c) ∧ M'.1 o 6 = nI v ∧ (∀ y u, y < 10 → u < 3 → Pv1 M'.1 o P V T U H l y u)) ?_ ?_ pv_FU 0 S (Nat.zero_le _) (by decide) ⟨hS.1, fun z x hz hx => hS.2 z x (by omega) hx⟩
        · intro rec2 S' hS'
          unfold f_X1_update_L36
          rw [if_pos (by decide), nI_1]
          exact hrec _ ⟨hS'.1, fun z x hz hx => hS'.2 z x (by omega) hx⟩
        · intro rec2 u S' hu hS' hrec2
          have hX : XR S'.1 P V T U H := h.fr (fun x c q => by rw [hS'.1 x c (by omega), u_if, if_neg (by omega)])
          have hla : S'.1 o 1 = nI l := by rw [hS'.1 o 1 (by omega), u_if, if_neg (by omega)]; exact hlaw
          have hend : ∀ M4 : pv_M, FrP o y u S' M4 → Pv1 M4.1 o P V T U H l y u → ∃ M' : pv_M, rec2 (nI u + 1) M4 = some ((), M') ∧ (∀ x c, ¬ ((x = o ∧ c = 6) ∨ (o + 2 ≤ x ∧ x ≤ o + 34)) → M'.1 x c = M.1 x c) ∧ M'.1 o 6 = nI v ∧ (∀ y u, y < 10 → u < 3 → Pv1 M'.1 o P V T U H l y u) := by
            intro M4 g1 g2
            rw [nI_1]
            refine hrec2 _ ⟨fun x c q => by rw [g1 x c (by omega)]; exact hS'.1 x c q, fun z x hz hx => ?_⟩
            by_cases e : z = y ∧ x = u
            · rw [e.1, e.2]
              exact g2
            · exact (hS'.2 z x (by omega) hx).fr w1 (fun a c q => g1 a c (by omega))
          unfold f_X1_update_L36
          rw [show (3 : Int32) = nI 3 from rfl, if_neg (nI_ge hu (by decide)), pv_nm_eq, hX.1, ite_eq0 (by omega)]
          by_cases hP : P = 0
          · rw [if_pos hP]
            obtain ⟨M6, f1, f2, f3⟩ := x_open (M := S') (P := P) (V := V) (T := T) (U := U) (H := H) (l := l) hO hy hu hP
            rw [f1, pv_cal_some]
            exact hend M6 f2 f3
          · have hP0 : 0 < P := by omega
            rw [if_neg hP, pv_jn_eq, pv_nm_eq, hla, ite_eq0 (by omega), show (1 : Int32) = nI 1 from rfl, ite_eq (by omega) (by decide)]
            have hhold : (l = 2 → u = 0) → ∃ M' : pv_M, pv_cal (f_X1_hold o (nI y) (nI u) S') (fun u1 M4 => rec2 (nI u + nI 1) M4) = some ((), M') ∧ (∀ x c, ¬ ((x = o ∧ c = 6) ∨ (o + 2 ≤ x ∧ x ≤ o + 34)) → M'.1 x c = M.1 x c) ∧ M'.1 o 6 = nI v ∧ (∀ y u, y < 10 → u < 3 → Pv1 M'.1 o P V T U H l y u) := by
              intro hlu
              obtain ⟨M4, f1, f2, f3⟩ := x_hold w hX hO hy hu hl hP0 hla hlu (fun q => ((hS'.2 (y - 1) u (by omega) hu).2 hP0).1)
              rw [f1, pv_cal_some]
              exact hend M4 f2 f3
            by_cases u0 : u = 0
            · rw [if_pos u0]
              exact hhold (fun _ => u0)
            · rw [if_neg u0]
              by_cases l1 : l = 1
              · rw [if_pos l1]
                exact hhold (by omega)
              · rw [if_neg l1]
                obtain ⟨M5, f1, f2, f3⟩ := x_repeat w hX hO hy hu (by omega) (by omega) hP0 (hS'.2 y 0 (by omega) (by decide))
                rw [f1, pv_cal_some]
                exact hend M5 f2 f3
    obtain ⟨M', g1, g2, g3, g4⟩ := hfin
    exact ⟨M', g1, g2, g3, g4, fun q => absurd q e⟩
/-! what the class keeps -/
def Pl (F : Nat → Nat → Int32) (l v P V : Nat) (T : Nat → Nat → Nat → Nat) (U : Nat → Nat) (H : Nat → Int) : Prop := F (53 + 35 * l) 1 = nI l ∧ ∃ a, a ≤ v ∧ F (53 + 35 * l) 6 = nI a ∧ (a = v → 0 < v → ∀ y u, y < 10 → u < 3 → Pv1 F (53 + 35 * l) P V T U H l y u)
theorem Pl.fr {F F' : Nat → Nat → Int32} {l v P V : Nat} {T : Nat → Nat → Nat → Nat} {U : Nat → Nat} {H : Nat → Int} (h : Pl F l v P V T U H) (hP : P ≤ 4) (hF : ∀ a c, 53 + 35 * l ≤ a → a ≤ 53 + 35 * l + 34 → F' a c = F a c) : Pl F' l v P V T U H := by
  obtain ⟨a1, a, a2, a3, a4⟩ := h
  exact ⟨by rw [hF _ _ (by omega) (by omega)]; exact a1, a, a2, by rw [hF _ _ (by omega) (by omega)]; exact a3, fun e1 e2 y u hy hu => (a4 e1 e2 y u hy hu).fr hP (fun a c q => hF a c (by omega) (by omega))⟩
abbrev pv_BA : Type := (Nat → Nat → Int32) → Nat → Nat → (Nat → Nat → Nat → Nat) → (Nat → Nat) → (Nat → Int) → Nat → Prop
def BAok (BA : pv_BA) : Prop := (∀ C C' P V T U H v, (∀ a c, 158 ≤ a → a ≤ 178 → C' a c = C a c) → BA C P V T U H v → BA C' P V T U H v) ∧ (∀ C P V T U H P' V' T' U' H' v, BA C P V T U H v → BA C P' V' T' U' H' (v + 1))
def CAo (BA : pv_BA) : pv_CA := fun C v => ∃ P V T U H, WF P V T U H ∧ XR C P V T U H ∧ (∀ l, l < 3 → Pl C l v P V T U H) ∧ BA C P V T U H v
def RIo : pv_RI := fun C n b cn cf => XR C (itm 0 (n 0) (b 0)) (itm 1 (n 1) (b 1)) (tkS (b 0) cn cf) (unS (b 1)) (hoS (b 1))
/-- settled -/
def ST (BA : pv_BA) (c v : Nat) (M : pv_M) (n : Nat → Nat) (b : Nat → Nat → Nat) (cn : Nat) (cf : Nat → Nat → Nat) (l P V : Nat) (T : Nat → Nat → Nat → Nat) (U : Nat → Nat) (H : Nat → Int) : Prop := v ≤ c ∧ 0 < v ∧ M.1 39 2 = nI v ∧ M.1 0 19 = 0 ∧ WF P V T U H ∧ XR M.1 P V T U H ∧ RIo M.1 n b cn cf ∧ (∀ k, k < 3 → Pl M.1 k v P V T U H) ∧ M.1 (53 + 35 * l) 6 = nI v ∧ BA M.1 P V T U H v
theorem rollC_in {M : pv_M} {a c : Nat} (h : 39 ≤ a ∧ a ≤ 178) : rollC M a c = M.1 a c := if_pos h
theorem ST.i9 {BA : pv_BA} {c v : Nat} {M : pv_M} {n : Nat → Nat} {b : Nat → Nat → Nat} {cn : Nat} {cf : Nat → Nat → Nat} {l P V : Nat} {T : Nat → Nat → Nat → Nat} {U : Nat → Nat} {H : Nat → Int} (hB : BAok BA) (h : ST BA c v M n b cn cf l P V T U H) : I9 RIo (CAo BA) c M n b cn cf := by
  obtain ⟨s1, s2, s3, s4, s5, s6, s7, s8, s9, s10⟩ := h
  refine ⟨v, s1, by rw [rollC_in (by omega)]; exact s3, Or.inl s4, fun _ => ⟨s2, ?_⟩, P, V, T, U, H, s5, ?_, fun k hk => ?_, ?_⟩
  · exact XR.fr s7 (fun a c q => rollC_in (by omega))
  · exact s6.fr (fun a c q => rollC_in (by omega))
  · exact (s8 k hk).fr s5.1 (fun a c q1 q2 => rollC_in (by omega))
  · exact hB.1 _ _ _ _ _ _ _ _ (fun a c q1 q2 => rollC_in (by omega)) s10
theorem x_pollBy {l : Nat} (hl : l < 3) (M : pv_M) : f_X8_pollBy (nI l) M = some (53 + 35 * l) := by
  rcases (show l = 0 ∨ l = 1 ∨ l = 2 by omega) with rfl | rfl | rfl <;> rfl
theorem isO_l {l : Nat} (hl : l < 3) : isO (53 + 35 * l) := by unfold isO; omega
theorem Pl.stale {F : Nat → Nat → Int32} {l v P V P' V' : Nat} {T T' : Nat → Nat → Nat → Nat} {U U' : Nat → Nat} {H H' : Nat → Int} (h : Pl F l v P V T U H) : Pl F l (v + 1) P' V' T' U' H' := by
  obtain ⟨a1, a, a2, a3, a4⟩ := h
  exact ⟨a1, a, by omega, a3, fun e => by omega⟩
/-- a poll is brought up to date -/
theorem ST.upd {BA : pv_BA} {c v : Nat} {M : pv_M} {n : Nat → Nat} {b : Nat → Nat → Nat} {cn : Nat} {cf : Nat → Nat → Nat} {P V : Nat} {T : Nat → Nat → Nat → Nat} {U : Nat → Nat} {H : Nat → Int} (hB : BAok BA) (hc : c < 900) {l : Nat} (hl : l < 3) (s1 : v ≤ c) (s2 : 0 < v) (s3 : M.1 39 2 = nI v) (s4 : M.1 0 19 = 0) (s5 : WF P V T U H) (s6 : XR M.1 P V T U H) (s7 : RIo M.1 n b cn cf) (s8 : ∀ k, k < 3 → Pl M.1 k v P V T U H) (s10 : BA M.1 P V T U H v) :
    ∃ M', f_X1_update (53 + 35 * l) M = some ((), M') ∧ (∀ x c, ¬ (53 ≤ x ∧ x ≤ 157) → M'.1 x c = M.1 x c) ∧ ST BA c v M' n b cn cf l P V T U H ∧ (∀ k, k < 3 → k ≠ l → ∀ x c, 53 + 35 * k ≤ x → x ≤ 53 + 35 * k + 34 → M'.1 x c = M.1 x c) ∧ (M.1 (53 + 35 * l) 6 = nI v → M' = M) := by
  obtain ⟨p1, a, p2, p3, p4⟩ := s8 l hl
  obtain ⟨M', e1, e2, e3, e4, e5⟩ := x_update s5 s6 (isO_l hl) hl p1 s3 p3 (by omega) p2 (fun q => p4 q s2)
  refine ⟨M', e1, fun x c q => e2 x c (by omega), ⟨s1, s2, by rw [e2 _ _ (by omega)]; exact s3, by rw [e2 _ _ (by omega)]; exact s4, s5, s6.fr (fun x c q => e2 x c (by omega)), XR.fr s7 (fun x c q => e2 x c (by omega)), fun k hk => ?_, e3, hB.1 _ _ _ _ _ _ _ _ (fun x c q1 q2 => e2 x c (by omega)) s10⟩, fun k hk hkl x c q1 q2 => e2 x c (by omega), fun q => e5 ?_⟩
  · by_cases e : k = l
    · subst e
      exact ⟨by rw [e2 _ _ (by omega)]; exact p1, v, Nat.le_refl _, e3, fun _ _ => e4⟩
    · exact (s8 k hk).fr s5.1 (fun x c q1 q2 => e2 x c (by omega))
  · rw [p3] at q
    exact (nI_eq (by omega) (by omega)).mp q
theorem x_settle {BA : pv_BA} {c : Nat} {M : pv_M} {n : Nat → Nat} {b : Nat → Nat → Nat} {cn : Nat} {cf : Nat → Nat → Nat} {l d : Nat} (hB : BAok BA) (hc : c < 800) (h1 : I1 M n b) (h2 : I2 M cn cf) (h5 : I5 M l d) (h9 : I9 RIo (CAo BA) c M n b cn cf) :
    ∃ M' v P V T U H, f_X8_settle M = some ((), M') ∧ (∀ x c, ¬ ((x = 0 ∧ c = 19) ∨ (39 ≤ x ∧ x ≤ 157)) → M'.1 x c = M.1 x c) ∧ ST BA (c + 1) v M' n b cn cf l P V T U H := by
  obtain ⟨v, g1, g2, g3, g4, P, V, T, U, H, q1, q2, q3, q4⟩ := h9
  have hl := h5.1
  have hlaw := h5.2.2.1
  rw [rollC_in (by omega)] at g2
  have q2' : XR M.1 P V T U H := q2.fr (fun a c q => (rollC_in (by omega)).symm)
  have q3' : ∀ k, k < 3 → Pl M.1 k v P V T U H := fun k hk => (q3 k hk).fr q1.1 (fun a c z1 z2 => (rollC_in (by omega)).symm)
  have q4' : BA M.1 P V T U H v := hB.1 _ _ _ _ _ _ _ _ (fun a c z1 z2 => (rollC_in (by omega)).symm) q4
  unfold f_X8_settle
  rw [pv_nm_eq, pv_jn_eq]
  rcases g3 with g3 | g3
  · obtain ⟨v0, ri⟩ := g4 g3
    have ri' : RIo M.1 n b cn cf := XR.fr ri (fun a c q => (rollC_in (by omega)).symm)
    obtain ⟨M', e1, e2, e3, e4, e5⟩ := ST.upd (c := c + 1) hB (by omega) hl (by omega) v0 g2 g3 q1 q2' ri' q3' q4'
    rw [g3, if_pos rfl]
    dsimp only
    rw [pv_nm_eq, hlaw, x_pollBy hl, pv_cap_some, isP_o (isO_l hl), pv_ck_true, e1, pv_cal_some]
    exact ⟨M', v, P, V, T, U, H, rfl, fun x c q => e2 x c (by omega), e3⟩
  · rw [g3, if_neg (by decide), pv_nm_eq]
    have h1' : I1 (pv_u M.1 0 19 0, M.2) n b := h1.u (by omega)
    have h2' : I2 (pv_u M.1 0 19 0, M.2) cn cf := h2.u (by omega)
    obtain ⟨M4, e1, e2, e3, e4⟩ := x_take (M := (pv_u M.1 0 19 0, M.2)) (v := v) h1' h2' (by rw [fst_u, if_neg (by omega)]; exact g2)
    have hM4 : ∀ x c, ¬ ((x = 0 ∧ c = 19) ∨ x = 39 ∨ (41 ≤ x ∧ x ≤ 52)) → M4.1 x c = M.1 x c := fun x c q => by rw [e2 x c (by omega), fst_u, if_neg (by omega)]
    rw [e1, pv_cal_some]
    dsimp only
    rw [pv_nm_eq, hM4 0 16 (by omega), hlaw, x_pollBy hl, pv_cap_some, isP_o (isO_l hl), pv_ck_true]
    have hw := wf_of h1 h2
    obtain ⟨M', f1, f2, f3, f4, f5⟩ := ST.upd (BA := BA) (c := c + 1) (v := v + 1) (M := M4) (n := n) (b := b) (cn := cn) (cf := cf) hB (by omega) hl (by omega) (by omega) e3 (by rw [e2 0 19 (by omega), fst_u, if_pos ⟨rfl, rfl⟩]) hw e4 e4 (fun k hk => ((q3' k hk).fr q1.1 (fun x c z1 z2 => hM4 x c (by omega))).stale) (hB.2 _ _ _ _ _ _ _ _ _ _ _ _ (hB.1 _ _ _ _ _ _ _ _ (fun x c z1 z2 => hM4 x c (by omega)) q4'))
    rw [f1, pv_cal_some]
    exact ⟨M', v + 1, _, _, _, _, _, rfl, fun x c q => by rw [f2 x c (by omega), hM4 x c (by omega)], f3⟩
/-- settled already: nothing is done -/
theorem x_settled {BA : pv_BA} {c v : Nat} {M : pv_M} {n : Nat → Nat} {b : Nat → Nat → Nat} {cn : Nat} {cf : Nat → Nat → Nat} {l d P V : Nat} {T : Nat → Nat → Nat → Nat} {U : Nat → Nat} {H : Nat → Int} (h5 : I5 M l d) (hc : c < 900) (h : ST BA c v M n b cn cf l P V T U H) : f_X8_settle M = some ((), M) := by
  obtain ⟨s1, s2, s3, s4, s5, s6, s7, s8, s9, s10⟩ := h
  have hl := h5.1
  obtain ⟨p1, a, p2, p3, p4⟩ := s8 l hl
  unfold f_X8_settle f_X1_update
  rw [pv_nm_eq, pv_jn_eq, s4, if_pos rfl]
  dsimp only
  rw [pv_nm_eq, h5.2.2.1, x_pollBy hl, pv_cap_some, isP_o (isO_l hl), pv_ck_true, pv_ck_true, pv_nm_eq, s9, pv_nm_eq, s3, if_pos rfl, pv_cal_some]
