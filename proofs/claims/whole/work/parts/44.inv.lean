/-! what holds between the calls; RI: what the roll's cells tell of texts and changes, CA: what the cells that keep are good for -/
def rollC (M : pv_M) : Nat → Nat → Int32 := fun k j => if 39 ≤ k ∧ k ≤ 178 then M.1 k j else 0
theorem rollC_eq {M M' : pv_M} (h : ∀ k j, 39 ≤ k → k ≤ 178 → M'.1 k j = M.1 k j) : rollC M' = rollC M := by
  funext k j
  unfold rollC
  by_cases q : 39 ≤ k ∧ k ≤ 178
  · rw [if_pos q, if_pos q, h k j q.1 q.2]
  · rw [if_neg q, if_neg q]
theorem rollC_u {M : pv_M} {k j : Nat} {v : Int32} (h : k < 39 ∨ 178 < k) : rollC (pv_u M.1 k j v, M.2) = rollC M := rollC_eq (fun a b h1 h2 => by rw [fst_u, if_neg (by omega)])
abbrev pv_RI : Type := (Nat → Nat → Int32) → (Nat → Nat) → (Nat → Nat → Nat) → Nat → (Nat → Nat → Nat) → Prop
abbrev pv_CA : Type := (Nat → Nat → Int32) → Nat → Prop
def I1 (M : pv_M) (n : Nat → Nat) (b : Nat → Nat → Nat) : Prop := ∀ t, t < 3 → txM M t (n t) (b t) ∧ txX M t (n t) (b t)
def I2 (M : pv_M) (n : Nat) (f : Nat → Nat → Nat) : Prop := n ≤ 10 ∧ M.1 7 1 = nI n ∧ M.1 196 12 = nI n ∧ ∀ i, i < n → (f i 0 < 10 ∧ f i 1 < 4 ∧ f i 2 < 3 ∧ 1 ≤ f i 3 ∧ f i 3 ≤ 9) ∧ ∀ j, j < 4 → M.1 (9 + i) j = nI (f i j) ∧ M.1 207 (4 * i + j) = nI (f i j)
def I3 (M : pv_M) (n : Nat) (f : Nat → Nat → Nat) : Prop := n ≤ 8 ∧ M.1 19 1 = nI n ∧ M.1 196 17 = nI n ∧ ∀ i, i < n → (f i 0 < 8 ∧ f i 1 < 8 ∧ f i 0 ≠ f i 1 ∧ 1 ≤ f i 2 ∧ f i 2 ≤ 99 ∧ f i 3 < 3 ∧ f i 4 < f i 5 ∧ f i 5 < 10) ∧ ∀ j, j < 6 → M.1 (21 + i) j = nI (f i j) ∧ M.1 211 (6 * i + j) = nI (f i j)
def I4 (M : pv_M) (n : Nat) (f : Nat → Nat → Nat) : Prop := n ≤ 6 ∧ M.1 29 1 = nI n ∧ M.1 196 32 = nI n ∧ ∀ i, i < n → (1 ≤ f i 0 ∧ f i 0 ≤ 9 ∧ f i 1 < 3 ∧ 1 ≤ f i 2 ∧ f i 2 ≤ 99) ∧ ∀ j, j < 3 → M.1 (31 + i) j = nI (f i j) ∧ M.1 221 (3 * i + j) = nI (f i j)
def I5 (M : pv_M) (l d : Nat) : Prop := l < 3 ∧ d < 2 ∧ M.1 0 16 = nI l ∧ M.1 205 0 = nI l ∧ M.1 0 17 = nI d ∧ M.1 205 1 = nI d ∧ M.1 0 18 = M.1 196 4
def I6 (M : pv_M) (pu : Nat → Nat) : Prop := ∀ v, v < 8 → pu v ≤ 999 ∧ M.1 37 v = nI (pu v) ∧ M.1 206 v = nI (pu v)
def I7 (M : pv_M) (ra rb : Nat → Nat) : Prop := ∀ k, k < 16 → (1 ≤ ra k ∧ ra k ≤ 9 ∧ 1 ≤ rb k ∧ rb k ≤ 9) ∧ M.1 186 k = nI (ra k) ∧ M.1 187 k = nI (rb k) ∧ M.1 219 (2 * k) = nI (ra k) ∧ M.1 219 (2 * k + 1) = nI (rb k)
def I8 (M : pv_M) : Prop := ∀ s, s < 4 → (M.1 189 s = (-1) ∧ M.1 197 s = (-1)) ∨ ∃ f n, f < 3 ∧ n ≤ 60 ∧ M.1 189 s = nI f ∧ M.1 197 s = nI f ∧ M.1 190 s = nI n ∧ M.1 198 s = nI n ∧ ∀ i, i < n → M.1 (192 + s) i = M.1 199 (60 * s + i)
def I9 (RI : pv_RI) (CA : pv_CA) (c : Nat) (M : pv_M) (n : Nat → Nat) (b : Nat → Nat → Nat) (cn : Nat) (cf : Nat → Nat → Nat) : Prop := ∃ v, v ≤ c ∧ rollC M 39 2 = nI v ∧ (M.1 0 19 = 0 ∨ M.1 0 19 = 1) ∧ (M.1 0 19 = 0 → 0 < v ∧ RI (rollC M) n b cn cf) ∧ CA (rollC M) v
def Inv (RI : pv_RI) (CA : pv_CA) (c : Nat) (M : pv_M) : Prop := ∃ (n : Nat → Nat) (b : Nat → Nat → Nat) (cn : Nat) (cf : Nat → Nat → Nat) (kn : Nat) (kf : Nat → Nat → Nat) (bn : Nat) (bf : Nat → Nat → Nat) (l d : Nat) (pu ra rb : Nat → Nat), I1 M n b ∧ I2 M cn cf ∧ I3 M kn kf ∧ I4 M bn bf ∧ I5 M l d ∧ I6 M pu ∧ I7 M ra rb ∧ I8 M ∧ I9 RI CA c M n b cn cf
/-- what the model's scratch cells are -/
def PM (k j : Nat) : Prop := k = 200 ∨ k = 203 ∨ k = 204 ∨ k = 208 ∨ k = 209 ∨ k = 210 ∨ (212 ≤ k ∧ k ≤ 218) ∨ k = 220 ∨ (k = 196 ∧ (j = 7 ∨ j = 26 ∨ (29 ≤ j ∧ j ≤ 31)))
def FrM (M M' : pv_M) : Prop := ∀ k j, ¬ PM k j → M'.1 k j = M.1 k j
theorem FrM.rf {M : pv_M} : FrM M M := fun _ _ _ => rfl
theorem FrM.tr {M M' M'' : pv_M} (h : FrM M M') (h' : FrM M' M'') : FrM M M'' := fun k j q => (h' k j q).trans (h k j q)
theorem FrT.M {t : Nat} {M M' : pv_M} (h : FrT t M M') : FrM M M' := fun k j q => h k j (fun z => q (by unfold PM; omega))
theorem FrM.u {M M' : pv_M} {k j : Nat} {v : Int32} (h : FrM M M') (hp : PM k j) : FrM M (pv_u M'.1 k j v, M'.2) := fun a b q => by
  rw [fst_u, if_neg (fun z => q (by rw [z.1, z.2]; exact hp))]
  exact h a b q
/-- what the class's scratch cells are, those aside that keep: 0, 38, 183 .. 185; longs all are -/
def PX (k j : Nat) : Prop := k = 38 ∨ (179 ≤ k ∧ k ≤ 182) ∨ (183 ≤ k ∧ k ≤ 185)
theorem Inv.frM {RI : pv_RI} {CA : pv_CA} {c : Nat} {M M' : pv_M} (h : Inv RI CA c M) (hF : ∀ k j, ¬ (PM k j ∨ PX k j) → M'.1 k j = M.1 k j) : Inv RI CA c M' := by
  obtain ⟨n, b, cn, cf, kn, kf, bn, bf, l, d, pu, ra, rb, h1, h2, h3, h4, h5, h6, h7, h8, h9⟩ := h
  have hr : rollC M' = rollC M := rollC_eq (fun k j q1 q2 => hF k j (by unfold PM PX; omega))
  have e19 : M'.1 0 19 = M.1 0 19 := hF 0 19 (by unfold PM PX; omega)
  refine ⟨n, b, cn, cf, kn, kf, bn, bf, l, d, pu, ra, rb, ?_, ?_, ?_, ?_, ?_, ?_, ?_, ?_, ?_⟩
  · intro t ht
    obtain ⟨⟨a1, a2, a3⟩, x1, x2, x3⟩ := h1 t ht
    refine ⟨⟨a1, ?_, fun i hi => ⟨(a3 i hi).1, ?_⟩⟩, ?_, ?_, fun i hi => ?_⟩
    · rw [hF 202 t (by unfold PM PX; omega)]; exact a2
    · rw [hF 201 _ (by unfold PM PX; omega)]; exact (a3 i hi).2
    · rw [hF _ _ (by unfold PM PX; omega)]; exact x1
    · rw [hF _ _ (by unfold PM PX; omega)]; exact x2
    · rw [hF _ _ (by unfold PM PX; omega)]; exact x3 i hi
  · obtain ⟨a1, a2, a3, a4⟩ := h2
    refine ⟨a1, ?_, ?_, fun i hi => ⟨(a4 i hi).1, fun j hj => ?_⟩⟩
    · rw [hF _ _ (by unfold PM PX; omega)]; exact a2
    · rw [hF _ _ (by unfold PM PX; omega)]; exact a3
    · rw [hF _ _ (by unfold PM PX; omega), hF 207 _ (by unfold PM PX; omega)]; exact (a4 i hi).2 j hj
  · obtain ⟨a1, a2, a3, a4⟩ := h3
    refine ⟨a1, ?_, ?_, fun i hi => ⟨(a4 i hi).1, fun j hj => ?_⟩⟩
    · rw [hF _ _ (by unfold PM PX; omega)]; exact a2
    · rw [hF _ _ (by unfold PM PX; omega)]; exact a3
    · rw [hF _ _ (by unfold PM PX; omega), hF 211 _ (by unfold PM PX; omega)]; exact (a4 i hi).2 j hj
  · obtain ⟨a1, a2, a3, a4⟩ := h4
    refine ⟨a1, ?_, ?_, fun i hi => ⟨(a4 i hi).1, fun j hj => ?_⟩⟩
    · rw [hF _ _ (by unfold PM PX; omega)]; exact a2
    · rw [hF _ _ (by unfold PM PX; omega)]; exact a3
    · rw [hF _ _ (by unfold PM PX; omega), hF 221 _ (by unfold PM PX; omega)]; exact (a4 i hi).2 j hj
  · obtain ⟨a1, a2, a3, a4, a5, a6, a7⟩ := h5
    exact ⟨a1, a2, by rw [hF _ _ (by unfold PM PX; omega)]; exact a3, by rw [hF _ _ (by unfold PM PX; omega)]; exact a4, by rw [hF _ _ (by unfold PM PX; omega)]; exact a5, by rw [hF _ _ (by unfold PM PX; omega)]; exact a6, by rw [hF 0 18 (by unfold PM PX; omega), hF 196 4 (by unfold PM PX; omega)]; exact a7⟩
  · intro v hv
    obtain ⟨a1, a2, a3⟩ := h6 v hv
    exact ⟨a1, by rw [hF _ _ (by unfold PM PX; omega)]; exact a2, by rw [hF _ _ (by unfold PM PX; omega)]; exact a3⟩
  · intro k hk
    obtain ⟨a1, a2, a3, a4, a5⟩ := h7 k hk
    exact ⟨a1, by rw [hF _ _ (by unfold PM PX; omega)]; exact a2, by rw [hF _ _ (by unfold PM PX; omega)]; exact a3, by rw [hF _ _ (by unfold PM PX; omega)]; exact a4, by rw [hF _ _ (by unfold PM PX; omega)]; exact a5⟩
  · intro s hs
    rcases h8 s hs with ⟨a1, a2⟩ | ⟨f, m, a1, a2, a3, a4, a5, a6, a7⟩
    · exact Or.inl ⟨by rw [hF _ _ (by unfold PM PX; omega)]; exact a1, by rw [hF _ _ (by unfold PM PX; omega)]; exact a2⟩
    · refine Or.inr ⟨f, m, a1, a2, by rw [hF _ _ (by unfold PM PX; omega)]; exact a3, by rw [hF _ _ (by unfold PM PX; omega)]; exact a4, by rw [hF _ _ (by unfold PM PX; omega)]; exact a5, by rw [hF _ _ (by unfold PM PX; omega)]; exact a6, fun i hi => ?_⟩
      rw [hF (192 + s) i (by unfold PM PX; omega), hF 199 _ (by unfold PM PX; omega)]
      exact a7 i hi
  · obtain ⟨v, g1, g2, g3, g4, g5⟩ := h9
    exact ⟨v, g1, by rw [hr]; exact g2, by rw [e19]; exact g3, by rw [e19, hr]; exact g4, by rw [hr]; exact g5⟩
theorem Inv.more {RI : pv_RI} {CA : pv_CA} {c : Nat} {M : pv_M} (h : Inv RI CA c M) : Inv RI CA (c + 1) M := by
  obtain ⟨n, b, cn, cf, kn, kf, bn, bf, l, d, pu, ra, rb, h1, h2, h3, h4, h5, h6, h7, h8, v, g1, g2⟩ := h
  exact ⟨n, b, cn, cf, kn, kf, bn, bf, l, d, pu, ra, rb, h1, h2, h3, h4, h5, h6, h7, h8, v, by omega, g2⟩
/-- a call that both answer alike -/
def OP (RI : pv_RI) (CA : pv_CA) (X Y : pv_M → Option (Int32 × pv_M)) : Prop := ∀ c M, c < 512 → Inv RI CA c M → ∃ r M1 M2, X M = some (r, M1) ∧ Y M1 = some (r, M2) ∧ Inv RI CA (c + 1) M2
