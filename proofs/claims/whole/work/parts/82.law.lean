theorem cac_some {ρ : Type} (y : pv_M × pv_F) (g : pv_M → pv_F → Option ρ) : pv_cac (some y) g = g y.1 y.2 := rfl
theorem law_gen (A B : pv_M → pv_F → Option (pv_M × pv_F)) (K : pv_M → pv_F → Option Int32) (M : pv_M) (rf : pv_F) : (pv_nm ((pv_row M.1 0 (fun _ => 0), M.2) : pv_M) (fun M1 => pv_nm (pv_row rf 0 (fun _ => none)) (fun rf1 => pv_cac (A M1 rf1) (fun M2 rf2 => pv_nm ((pv_row M2.1 196 (fun _ => 0), M2.2) : pv_M) (fun M3 => pv_nm (pv_row rf2 196 (fun _ => none)) (fun rf3 => pv_cac (B M3 rf3) K)))))) = pv_cac (pv_nm ((pv_row M.1 0 (fun _ => 0), M.2) : pv_M) (fun M1 => pv_nm (pv_row rf 0 (fun _ => none)) (fun rf1 => pv_cac (A M1 rf1) (fun M2 rf2 => pv_nm ((pv_row M2.1 196 (fun _ => 0), M2.2) : pv_M) (fun M3 => pv_nm (pv_row rf2 196 (fun _ => none)) (fun rf3 => B M3 rf3)))))) K := by
  rw [pv_nm_eq, pv_nm_eq, pv_nm_eq, pv_nm_eq]
  cases A (pv_row M.1 0 (fun _ => 0), M.2) (pv_row rf 0 (fun _ => none)) with
  | none => rfl
  | some x => rfl
theorem law_C (L : Nat) (xs : Nat → Int32) (M : pv_M) (rf : pv_F) : f_L_law L xs M rf = pv_cac (pv_Cg M rf) (fun M4 rf4 => pv_ck (pv_isRF rf4) (pv_lp2 (f_L_law_L18 L xs) pv_FU 0 M4)) := law_gen fc_X8_0 fc_X9_196 (fun M4 rf4 => pv_ck (pv_isRF rf4) (pv_lp2 (f_L_law_L18 L xs) pv_FU 0 M4)) M rf
theorem init_inv {M : pv_M} (h : InitP M) : Inv RIo (CAo BAo) 0 M := by
  obtain ⟨p1, ⟨p2, p3, p4, p5, p6, p7⟩, ⟨q1, q2, q3, q4, q5⟩, p8, p9, p10, ⟨r1, r2, r3, r4⟩, p11, p12, p13⟩ := h
  refine ⟨fun _ => 0, fun _ _ => 0, 0, fun _ _ => 0, 0, fun _ _ => 0, 0, fun _ _ => 0, 0, 0, fun _ => 100, fun _ => 1, fun _ => 1, fun t ht => ?_, ⟨Nat.zero_le _, p2, p3, fun i hi => absurd hi (Nat.not_lt_zero _)⟩, ⟨Nat.zero_le _, p4, p5, fun i hi => absurd hi (Nat.not_lt_zero _)⟩, ⟨Nat.zero_le _, p6, p7, fun i hi => absurd hi (Nat.not_lt_zero _)⟩, ⟨by decide, by decide, q1, q2, q3, q4, q5⟩, fun v hv => ⟨show 100 ≤ 999 by decide, (p8 v hv).1, (p8 v hv).2⟩, fun k hk => ⟨⟨show 1 ≤ 1 by decide, show 1 ≤ 9 by decide, show 1 ≤ 1 by decide, show 1 ≤ 9 by decide⟩, (p9 k hk).1, (p9 k hk).2.1, (p9 k hk).2.2.1, (p9 k hk).2.2.2⟩, fun s hs => Or.inl (p10 s hs), 0, Nat.le_refl _, ?_, Or.inr r4, fun q => ?_, ?_⟩
  · obtain ⟨a1, a2, a3⟩ := p1 t ht
    exact ⟨⟨Nat.zero_le _, a1, fun i hi => absurd hi (Nat.not_lt_zero _)⟩, a2, a3, fun i hi => absurd hi (Nat.not_lt_zero _)⟩
  · rw [rollC_in (by omega)]
    exact r3
  · rw [r4] at q
    exact absurd q (by decide)
  · refine ⟨0, 0, fun _ _ _ => 0, fun _ => 0, fun _ => 0, ⟨by decide, by decide, fun y p u _ hp => absurd hp (Nat.not_lt_zero _), fun v hv => absurd hv (Nat.not_lt_zero _)⟩, ⟨?_, ?_, fun y p u _ hp => absurd hp (Nat.not_lt_zero _), fun v hv => absurd hv (Nat.not_lt_zero _)⟩, fun l hl => ⟨?_, 0, Nat.le_refl _, ?_, fun _ q => absurd q (Nat.lt_irrefl 0)⟩, ⟨0, Nat.le_refl _, ?_, fun _ q => absurd q (Nat.lt_irrefl 0)⟩, fun p hp => ⟨0, Nat.le_refl _, ?_, fun _ q => absurd q (Nat.lt_irrefl 0)⟩⟩
    · rw [rollC_in (by omega)]
      exact r1
    · rw [rollC_in (by omega)]
      exact r2
    · rw [rollC_in (by omega)]
      exact (p11 l hl).1
    · rw [rollC_in (by omega)]
      exact (p11 l hl).2
    · rw [rollC_in (by omega)]
      exact p12
    · rw [rollC_in (by omega)]
      exact p13 p hp
theorem law_ok (L : Nat) (xs : Nat → Int32) (hL : L ≤ 3584) : f_L_law L xs pv_M0 pv_rf0 = some 1 := by
  rw [law_C]
  have ha := init_a
  have hb := init_b
  cases hC : pv_Cg pv_M0 pv_rf0 with
  | none =>
    rw [hC] at ha
    cases ha
  | some y =>
    rw [hC] at ha hb
    have h1 : decide (InitP y.1) = true := ha
    have h2 : pv_isRF y.2 = true := hb
    rw [cac_some, h2, pv_ck_true]
    exact law_loop hL pv_FU 0 y.1 (by decide) (by decide) (init_inv (of_decide_eq_true h1))
