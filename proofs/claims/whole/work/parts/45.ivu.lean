theorem I1.u {M : pv_M} {n : Nat → Nat} {b : Nat → Nat → Nat} {k j : Nat} {v : Int32} (h : I1 M n b) (hs : ¬ ((1 ≤ k ∧ k ≤ 6) ∨ k = 201 ∨ k = 202)) : I1 (pv_u M.1 k j v, M.2) n b := by
  intro t ht
  obtain ⟨⟨a1, a2, a3⟩, x1, x2, x3⟩ := h t ht
  exact ⟨⟨a1, by rw [fst_u, if_neg (by omega)]; exact a2, fun i hi => ⟨(a3 i hi).1, by rw [fst_u, if_neg (by omega)]; exact (a3 i hi).2⟩⟩, by rw [fst_u, if_neg (by omega)]; exact x1, by rw [fst_u, if_neg (by omega)]; exact x2, fun i hi => by rw [fst_u, if_neg (by omega)]; exact x3 i hi⟩
theorem I2.u {M : pv_M} {n : Nat} {f : Nat → Nat → Nat} {k j : Nat} {v : Int32} (h : I2 M n f) (hs : ¬ (k = 7 ∨ (9 ≤ k ∧ k ≤ 18) ∨ (k = 196 ∧ j = 12) ∨ k = 207)) : I2 (pv_u M.1 k j v, M.2) n f := by
  obtain ⟨a1, a2, a3, a4⟩ := h
  exact ⟨a1, by rw [fst_u, if_neg (by omega)]; exact a2, by rw [fst_u, if_neg (by omega)]; exact a3, fun i hi => ⟨(a4 i hi).1, fun j2 hj => ⟨by rw [fst_u, if_neg (by omega)]; exact ((a4 i hi).2 j2 hj).1, by rw [fst_u, if_neg (by omega)]; exact ((a4 i hi).2 j2 hj).2⟩⟩⟩
theorem I3.u {M : pv_M} {n : Nat} {f : Nat → Nat → Nat} {k j : Nat} {v : Int32} (h : I3 M n f) (hs : ¬ (k = 19 ∨ (21 ≤ k ∧ k ≤ 28) ∨ (k = 196 ∧ j = 17) ∨ k = 211)) : I3 (pv_u M.1 k j v, M.2) n f := by
  obtain ⟨a1, a2, a3, a4⟩ := h
  exact ⟨a1, by rw [fst_u, if_neg (by omega)]; exact a2, by rw [fst_u, if_neg (by omega)]; exact a3, fun i hi => ⟨(a4 i hi).1, fun j2 hj => ⟨by rw [fst_u, if_neg (by omega)]; exact ((a4 i hi).2 j2 hj).1, by rw [fst_u, if_neg (by omega)]; exact ((a4 i hi).2 j2 hj).2⟩⟩⟩
theorem I4.u {M : pv_M} {n : Nat} {f : Nat → Nat → Nat} {k j : Nat} {v : Int32} (h : I4 M n f) (hs : ¬ (k = 29 ∨ (31 ≤ k ∧ k ≤ 36) ∨ (k = 196 ∧ j = 32) ∨ k = 221)) : I4 (pv_u M.1 k j v, M.2) n f := by
  obtain ⟨a1, a2, a3, a4⟩ := h
  exact ⟨a1, by rw [fst_u, if_neg (by omega)]; exact a2, by rw [fst_u, if_neg (by omega)]; exact a3, fun i hi => ⟨(a4 i hi).1, fun j2 hj => ⟨by rw [fst_u, if_neg (by omega)]; exact ((a4 i hi).2 j2 hj).1, by rw [fst_u, if_neg (by omega)]; exact ((a4 i hi).2 j2 hj).2⟩⟩⟩
theorem I5.u {M : pv_M} {l d : Nat} {k j : Nat} {v : Int32} (h : I5 M l d) (hs : ¬ ((k = 0 ∧ 16 ≤ j ∧ j ≤ 18) ∨ k = 205 ∨ (k = 196 ∧ j = 4))) : I5 (pv_u M.1 k j v, M.2) l d := by
  obtain ⟨a1, a2, a3, a4, a5, a6, a7⟩ := h
  exact ⟨a1, a2, by rw [fst_u, if_neg (by omega)]; exact a3, by rw [fst_u, if_neg (by omega)]; exact a4, by rw [fst_u, if_neg (by omega)]; exact a5, by rw [fst_u, if_neg (by omega)]; exact a6, by rw [fst_u, fst_u, if_neg (by omega), if_neg (by omega)]; exact a7⟩
theorem I6.u {M : pv_M} {pu : Nat → Nat} {k j : Nat} {v : Int32} (h : I6 M pu) (hs : ¬ (k = 37 ∨ k = 206)) : I6 (pv_u M.1 k j v, M.2) pu := by
  intro w hw
  obtain ⟨a1, a2, a3⟩ := h w hw
  exact ⟨a1, by rw [fst_u, if_neg (by omega)]; exact a2, by rw [fst_u, if_neg (by omega)]; exact a3⟩
theorem I7.u {M : pv_M} {ra rb : Nat → Nat} {k j : Nat} {v : Int32} (h : I7 M ra rb) (hs : ¬ (k = 186 ∨ k = 187 ∨ k = 219)) : I7 (pv_u M.1 k j v, M.2) ra rb := by
  intro w hw
  obtain ⟨a1, a2, a3, a4, a5⟩ := h w hw
  exact ⟨a1, by rw [fst_u, if_neg (by omega)]; exact a2, by rw [fst_u, if_neg (by omega)]; exact a3, by rw [fst_u, if_neg (by omega)]; exact a4, by rw [fst_u, if_neg (by omega)]; exact a5⟩
theorem I8.u {M : pv_M}  {k j : Nat} {v : Int32} (h : I8 M ) (hs : ¬ (k = 189 ∨ k = 190 ∨ (192 ≤ k ∧ k ≤ 195) ∨ (197 ≤ k ∧ k ≤ 199))) : I8 (pv_u M.1 k j v, M.2)  := by
  intro w hw
  rcases h w hw with ⟨a1, a2⟩ | ⟨f, m, a1, a2, a3, a4, a5, a6, a7⟩
  · exact Or.inl ⟨by rw [fst_u, if_neg (by omega)]; exact a1, by rw [fst_u, if_neg (by omega)]; exact a2⟩
  · exact Or.inr ⟨f, m, a1, a2, by rw [fst_u, if_neg (by omega)]; exact a3, by rw [fst_u, if_neg (by omega)]; exact a4, by rw [fst_u, if_neg (by omega)]; exact a5, by rw [fst_u, if_neg (by omega)]; exact a6, fun i hi => by rw [fst_u, fst_u, if_neg (by omega), if_neg (by omega)]; exact a7 i hi⟩
theorem I9.u {RI : pv_RI} {CA : pv_CA} {c : Nat} {M : pv_M} {n : Nat → Nat} {b : Nat → Nat → Nat} {cn : Nat} {cf : Nat → Nat → Nat} {k j : Nat} {v : Int32} (h : I9 RI CA c M n b cn cf) (hs : ¬ ((k = 0 ∧ j = 19) ∨ (39 ≤ k ∧ k ≤ 178))) : I9 RI CA c (pv_u M.1 k j v, M.2) n b cn cf := by
  obtain ⟨w, g1, g2, g3, g4, g5⟩ := h
  have hr : rollC (pv_u M.1 k j v, M.2) = rollC M := rollC_u (by omega)
  have e : (pv_u M.1 k j v, M.2).1 0 19 = M.1 0 19 := by rw [fst_u, if_neg (by omega)]
  exact ⟨w, g1, by rw [hr]; exact g2, by rw [e]; exact g3, by rw [e, hr]; exact g4, by rw [hr]; exact g5⟩
/-- the roll is to be made anew: any texts and changes will do -/
theorem I9.stale {RI : pv_RI} {CA : pv_CA} {c : Nat} {M : pv_M} {n n' : Nat → Nat} {b b' : Nat → Nat → Nat} {cn cn' : Nat} {cf cf' : Nat → Nat → Nat} (h : I9 RI CA c M n b cn cf) : I9 RI CA c (pv_u M.1 0 19 1, M.2) n' b' cn' cf' := by
  obtain ⟨w, g1, g2, g3, g4, g5⟩ := h
  have hr : rollC (pv_u M.1 0 19 1, M.2) = rollC M := rollC_u (by omega)
  have e : (pv_u M.1 0 19 1, M.2).1 0 19 = 1 := by rw [fst_u, if_pos ⟨rfl, rfl⟩]
  exact ⟨w, g1, by rw [hr]; exact g2, by rw [e]; exact Or.inr rfl, by rw [e]; exact fun q => absurd q (by decide), by rw [hr]; exact g5⟩
theorem I9.keep {RI : pv_RI} {CA : pv_CA} {c : Nat} {M : pv_M} {n n' : Nat → Nat} {b b' : Nat → Nat → Nat} {cn cn' : Nat} {cf cf' : Nat → Nat → Nat} (h : I9 RI CA c M n b cn cf) (hs : M.1 0 19 = 1) : I9 RI CA c M n' b' cn' cf' := by
  obtain ⟨w, g1, g2, g3, g4, g5⟩ := h
  exact ⟨w, g1, g2, g3, fun q => absurd (hs.symm.trans q) (by decide), g5⟩
theorem I1.w {F : Nat → Nat → Int32} {L : Nat → Nat → Int64} {n : Nat → Nat} {b : Nat → Nat → Nat} {k j : Nat} {v : Int32} (h : I1 (F, L) n b) (hs : ¬ ((1 ≤ k ∧ k ≤ 6) ∨ k = 201 ∨ k = 202)) : I1 (pv_u F k j v, L) n b := I1.u h hs
theorem I2.w {F : Nat → Nat → Int32} {L : Nat → Nat → Int64} {n : Nat} {f : Nat → Nat → Nat} {k j : Nat} {v : Int32} (h : I2 (F, L) n f) (hs : ¬ (k = 7 ∨ (9 ≤ k ∧ k ≤ 18) ∨ (k = 196 ∧ j = 12) ∨ k = 207)) : I2 (pv_u F k j v, L) n f := I2.u h hs
theorem I3.w {F : Nat → Nat → Int32} {L : Nat → Nat → Int64} {n : Nat} {f : Nat → Nat → Nat} {k j : Nat} {v : Int32} (h : I3 (F, L) n f) (hs : ¬ (k = 19 ∨ (21 ≤ k ∧ k ≤ 28) ∨ (k = 196 ∧ j = 17) ∨ k = 211)) : I3 (pv_u F k j v, L) n f := I3.u h hs
theorem I4.w {F : Nat → Nat → Int32} {L : Nat → Nat → Int64} {n : Nat} {f : Nat → Nat → Nat} {k j : Nat} {v : Int32} (h : I4 (F, L) n f) (hs : ¬ (k = 29 ∨ (31 ≤ k ∧ k ≤ 36) ∨ (k = 196 ∧ j = 32) ∨ k = 221)) : I4 (pv_u F k j v, L) n f := I4.u h hs
theorem I5.w {F : Nat → Nat → Int32} {L : Nat → Nat → Int64} {l d : Nat} {k j : Nat} {v : Int32} (h : I5 (F, L) l d) (hs : ¬ ((k = 0 ∧ 16 ≤ j ∧ j ≤ 18) ∨ k = 205 ∨ (k = 196 ∧ j = 4))) : I5 (pv_u F k j v, L) l d := I5.u h hs
theorem I6.w {F : Nat → Nat → Int32} {L : Nat → Nat → Int64} {pu : Nat → Nat} {k j : Nat} {v : Int32} (h : I6 (F, L) pu) (hs : ¬ (k = 37 ∨ k = 206)) : I6 (pv_u F k j v, L) pu := I6.u h hs
theorem I7.w {F : Nat → Nat → Int32} {L : Nat → Nat → Int64} {ra rb : Nat → Nat} {k j : Nat} {v : Int32} (h : I7 (F, L) ra rb) (hs : ¬ (k = 186 ∨ k = 187 ∨ k = 219)) : I7 (pv_u F k j v, L) ra rb := I7.u h hs
theorem I8.w {F : Nat → Nat → Int32} {L : Nat → Nat → Int64}  {k j : Nat} {v : Int32} (h : I8 (F, L) ) (hs : ¬ (k = 189 ∨ k = 190 ∨ (192 ≤ k ∧ k ≤ 195) ∨ (197 ≤ k ∧ k ≤ 199))) : I8 (pv_u F k j v, L)  := I8.u h hs
theorem I9.w {RI : pv_RI} {CA : pv_CA} {c : Nat} {F : Nat → Nat → Int32} {L : Nat → Nat → Int64} {n : Nat → Nat} {b : Nat → Nat → Nat} {cn : Nat} {cf : Nat → Nat → Nat} {k j : Nat} {v : Int32} (h : I9 RI CA c (F, L) n b cn cf) (hs : ¬ ((k = 0 ∧ j = 19) ∨ (39 ≤ k ∧ k ≤ 178))) : I9 RI CA c (pv_u F k j v, L) n b cn cf := I9.u h hs
theorem I9.sw {RI : pv_RI} {CA : pv_CA} {c : Nat} {F : Nat → Nat → Int32} {L : Nat → Nat → Int64} {n n' : Nat → Nat} {b b' : Nat → Nat → Nat} {cn cn' : Nat} {cf cf' : Nat → Nat → Nat} (h : I9 RI CA c (F, L) n b cn cf) : I9 RI CA c (pv_u F 0 19 1, L) n' b' cn' cf' := I9.stale h
theorem I9.more {RI : pv_RI} {CA : pv_CA} {c : Nat} {M : pv_M} {n : Nat → Nat} {b : Nat → Nat → Nat} {cn : Nat} {cf : Nat → Nat → Nat} (h : I9 RI CA c M n b cn cf) : I9 RI CA (c + 1) M n b cn cf := by
  obtain ⟨v, g1, g2⟩ := h
  exact ⟨v, by omega, g2⟩
theorem I1.fr {M M' : pv_M} {n : Nat → Nat} {b : Nat → Nat → Nat} (h : I1 M n b) (hF : ∀ k j, ((1 ≤ k ∧ k ≤ 6) ∨ k = 201 ∨ k = 202) → M'.1 k j = M.1 k j) : I1 M' n b := by
  intro t ht
  obtain ⟨⟨a1, a2, a3⟩, x1, x2, x3⟩ := h t ht
  exact ⟨⟨a1, by rw [hF _ _ (by omega)]; exact a2, fun i hi => ⟨(a3 i hi).1, by rw [hF _ _ (by omega)]; exact (a3 i hi).2⟩⟩, by rw [hF _ _ (by omega)]; exact x1, by rw [hF _ _ (by omega)]; exact x2, fun i hi => by rw [hF _ _ (by omega)]; exact x3 i hi⟩
theorem I2.fr {M M' : pv_M} {n : Nat} {f : Nat → Nat → Nat} (h : I2 M n f) (hF : ∀ k j, (k = 7 ∨ (9 ≤ k ∧ k ≤ 18) ∨ (k = 196 ∧ j = 12) ∨ k = 207) → M'.1 k j = M.1 k j) : I2 M' n f := by
  obtain ⟨a1, a2, a3, a4⟩ := h
  exact ⟨a1, by rw [hF _ _ (by omega)]; exact a2, by rw [hF _ _ (by omega)]; exact a3, fun i hi => ⟨(a4 i hi).1, fun j2 hj => ⟨by rw [hF _ _ (by omega)]; exact ((a4 i hi).2 j2 hj).1, by rw [hF _ _ (by omega)]; exact ((a4 i hi).2 j2 hj).2⟩⟩⟩
theorem I3.fr {M M' : pv_M} {n : Nat} {f : Nat → Nat → Nat} (h : I3 M n f) (hF : ∀ k j, (k = 19 ∨ (21 ≤ k ∧ k ≤ 28) ∨ (k = 196 ∧ j = 17) ∨ k = 211) → M'.1 k j = M.1 k j) : I3 M' n f := by
  obtain ⟨a1, a2, a3, a4⟩ := h
  exact ⟨a1, by rw [hF _ _ (by omega)]; exact a2, by rw [hF _ _ (by omega)]; exact a3, fun i hi => ⟨(a4 i hi).1, fun j2 hj => ⟨by rw [hF _ _ (by omega)]; exact ((a4 i hi).2 j2 hj).1, by rw [hF _ _ (by omega)]; exact ((a4 i hi).2 j2 hj).2⟩⟩⟩
theorem I4.fr {M M' : pv_M} {n : Nat} {f : Nat → Nat → Nat} (h : I4 M n f) (hF : ∀ k j, (k = 29 ∨ (31 ≤ k ∧ k ≤ 36) ∨ (k = 196 ∧ j = 32) ∨ k = 221) → M'.1 k j = M.1 k j) : I4 M' n f := by
  obtain ⟨a1, a2, a3, a4⟩ := h
  exact ⟨a1, by rw [hF _ _ (by omega)]; exact a2, by rw [hF _ _ (by omega)]; exact a3, fun i hi => ⟨(a4 i hi).1, fun j2 hj => ⟨by rw [hF _ _ (by omega)]; exact ((a4 i hi).2 j2 hj).1, by rw [hF _ _ (by omega)]; exact ((a4 i hi).2 j2 hj).2⟩⟩⟩
theorem I5.fr {M M' : pv_M} {l d : Nat} (h : I5 M l d) (hF : ∀ k j, ((k = 0 ∧ 16 ≤ j ∧ j ≤ 18) ∨ k = 205 ∨ (k = 196 ∧ j = 4)) → M'.1 k j = M.1 k j) : I5 M' l d := by
  obtain ⟨a1, a2, a3, a4, a5, a6, a7⟩ := h
  exact ⟨a1, a2, by rw [hF _ _ (by omega)]; exact a3, by rw [hF _ _ (by omega)]; exact a4, by rw [hF _ _ (by omega)]; exact a5, by rw [hF _ _ (by omega)]; exact a6, by rw [hF _ _ (by omega), hF _ _ (by omega)]; exact a7⟩
theorem I6.fr {M M' : pv_M} {pu : Nat → Nat} (h : I6 M pu) (hF : ∀ k j, (k = 37 ∨ k = 206) → M'.1 k j = M.1 k j) : I6 M' pu := by
  intro w hw
  obtain ⟨a1, a2, a3⟩ := h w hw
  exact ⟨a1, by rw [hF _ _ (by omega)]; exact a2, by rw [hF _ _ (by omega)]; exact a3⟩
theorem I7.fr {M M' : pv_M} {ra rb : Nat → Nat} (h : I7 M ra rb) (hF : ∀ k j, (k = 186 ∨ k = 187 ∨ k = 219) → M'.1 k j = M.1 k j) : I7 M' ra rb := by
  intro w hw
  obtain ⟨a1, a2, a3, a4, a5⟩ := h w hw
  exact ⟨a1, by rw [hF _ _ (by omega)]; exact a2, by rw [hF _ _ (by omega)]; exact a3, by rw [hF _ _ (by omega)]; exact a4, by rw [hF _ _ (by omega)]; exact a5⟩
theorem I8.fr {M M' : pv_M}  (h : I8 M ) (hF : ∀ k j, (k = 189 ∨ k = 190 ∨ (192 ≤ k ∧ k ≤ 195) ∨ (197 ≤ k ∧ k ≤ 199)) → M'.1 k j = M.1 k j) : I8 M'  := by
  intro w hw
  rcases h w hw with ⟨a1, a2⟩ | ⟨f, m, a1, a2, a3, a4, a5, a6, a7⟩
  · exact Or.inl ⟨by rw [hF _ _ (by omega)]; exact a1, by rw [hF _ _ (by omega)]; exact a2⟩
  · exact Or.inr ⟨f, m, a1, a2, by rw [hF _ _ (by omega)]; exact a3, by rw [hF _ _ (by omega)]; exact a4, by rw [hF _ _ (by omega)]; exact a5, by rw [hF _ _ (by omega)]; exact a6, fun i hi => by rw [hF _ _ (by omega), hF _ _ (by omega)]; exact a7 i hi⟩
theorem I9.fr {RI : pv_RI} {CA : pv_CA} {c : Nat} {M M' : pv_M} {n : Nat → Nat} {b : Nat → Nat → Nat} {cn : Nat} {cf : Nat → Nat → Nat} (h : I9 RI CA c M n b cn cf) (hF : ∀ k j, ((k = 0 ∧ j = 19) ∨ (39 ≤ k ∧ k ≤ 178)) → M'.1 k j = M.1 k j) : I9 RI CA c M' n b cn cf := by
  obtain ⟨w, g1, g2, g3, g4, g5⟩ := h
  have hr : rollC M' = rollC M := rollC_eq (fun k j q1 q2 => hF k j (by omega))
  have e : M'.1 0 19 = M.1 0 19 := hF 0 19 (by omega)
  exact ⟨w, g1, by rw [hr]; exact g2, by rw [e]; exact g3, by rw [e, hr]; exact g4, by rw [hr]; exact g5⟩
