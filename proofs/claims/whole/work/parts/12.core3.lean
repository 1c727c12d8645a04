section PVS
variable {α : Type} {g : pv_X} {κ : pv_K} {N : Nat} {rf : Nat → Nat → Option Nat} {nL cells slots : Nat} {Q : α → State → Prop} {pc : Nat} {lv : List (Nat × Value)} {st : List Value} {M : pv_M} {x : Option α} {cc : ByteArray} {own : String} {ret : Option FieldType}
theorem rw_copy {i d : Nat} {a b : Nat} {sp dp n : Int32} {z : pv_M → Option α} (C : pv_Ok g κ nL cc own ret) (hR : g.2.2.2.1 = pv_rm d) (hd : decode cc pc = .ok (.invokestatic i, 3)) (hw : Cond.methodLink own i arraycopyName ∈ UW ∧ Cond.native arraycopyName ∈ UW ∧ Cond.static arraycopyName ∈ UW ∧ Cond.initialized "java/lang/System" ∈ UW) (hdd : 1 ≤ d) (hst : ((st.map fun v => v.category).sum ≤ 8))
    (k : ∀ M', pv_R g κ N rf nL cells slots Q (pc + 3) lv st M' (z M')) : pv_R g κ N rf nL cells slots Q pc lv (.int n :: .int dp :: .ref (κ.1 + b) :: .int sp :: .ref (κ.1 + a) :: st) M (pv_ck (pv_cpyb N a sp b dp n) (pv_nm (pv_cpy M a sp b dp n) z)) := by
  refine rw_ck (fun hb => ?_)
  intro v hv H locs ls hW hL hl
  simp only [pv_cpyb, Bool.and_eq_true, decide_eq_true_eq] at hb
  obtain ⟨ha, hb, h0, h1, h2, h3, h4, h5, h6⟩ := hb
  have hc0 : H[κ.1 + a]? = some (vp_cell (pv_cI κ) ((pv_SH a).2, .inl (M.1 a))) := by
    have := pv_at hW ha
    rw [pv_ent_I h0] at this
    exact this
  have hc1 : H[κ.1 + b]? = some (vp_cell (pv_cI κ) ((pv_SH b).2, .inl (M.1 b))) := by
    have := pv_at hW hb
    rw [pv_ent_I h1] at this
    exact this
  have nn : ∀ z : Int32, ¬ z < 0 → z.toInt = (z.toNatClampNeg : Int) := by
    intro z hz
    have hz0 : (0 : Int) ≤ z.toInt := by
      have := Int32.not_lt.mp hz
      simpa using Int32.le_iff_toInt_le.mp this
    show z.toInt = ((z.toInt.toNat : Nat) : Int)
    omega
  have ht : (pv_tys κ)[0]? = some (pv_cI κ, .int) := rfl
  have hn20 : nativeFrameWords "java/lang/System" "arraycopy" 5 ≤ 20 := by decide +kernel
  intro T hT X
  obtain ⟨-, k0, hk0, cm0, hkk0⟩ := (C.2.2.2.2.2.1.1.2 0 _ ht).1 (pv_SH a).2 (fun j => .int (M.1 a j))
  obtain ⟨-, k1, hk1, cm1, hkk1⟩ := (C.2.2.2.2.2.1.1.2 0 _ ht).1 (pv_SH b).2 (fun j => .int (M.1 b j))
  obtain ⟨vm', X', step⟩ := X.arraycopy C.1 C.2.2.2.1 (C.2.2.2.2.1 _ hw.1) (C.2.2.2.2.1 _ hw.2.1) (C.2.2.2.2.1 _ hw.2.2.1) (C.2.2.2.2.1 _ hw.2.2.2) (src := κ.1 + a) (dst := κ.1 + b) (cs := vp_cell (pv_cI κ) ((pv_SH a).2, .inl (M.1 a))) (cd := vp_cell (pv_cI κ) ((pv_SH b).2, .inl (M.1 b))) (srcPos := sp) (destPos := dp) (n := n) (by rw [hT]; exact hc0) (by rw [hT]; exact hc1)
    (fun _ h => by cases h) (fun _ h => by cases h) (fun h => by cases h) (fun h => by cases h) hk0 hk1 hkk0 hkk1 (by rfl) h2 h3 h4
    (by rw [nn sp h2, nn n h4]; show ¬ _ > ((arrV (pv_cI κ) (pv_SH a).2 (fun j => .int (M.1 a j))).slots.size : Int); rw [arrV_size]; omega)
    (by rw [nn dp h3, nn n h4]; show ¬ _ > ((arrV (pv_cI κ) (pv_SH b).2 (fun j => .int (M.1 b j))).slots.size : Int); rw [arrV_size]; omega)
    (fun vm₁ _ i hi => by
      have e : (vp_cell (pv_cI κ) ((pv_SH a).2, .inl (M.1 a))).slots.getD (sp.toNatClampNeg + i) .null = .int (M.1 a (sp.toNatClampNeg + i)) := by
        show (arrV (pv_cI κ) (pv_SH a).2 (fun j => .int (M.1 a j))).slots.getD _ _ = _
        rw [Array.getD_eq_getD_getElem?, arrV_read _ _ (by omega)]
        rfl
      refine ⟨?_, ?_⟩
      · rw [e]
        rfl
      · rw [e]
        exact trivial)
    (g := F0 g.2.2.2.2.2.1 pc ls (.int n :: .int dp :: .ref (κ.1 + b) :: .int sp :: .ref (κ.1 + a) :: st)) rfl (by rw [C.2.2.1]; exact hl.1) (rest := st) rfl (by rw [C.2.1]; exact hd) (by rw [hR]; exact hdd) (by rw [hR]; show 2 * 0 + _ + _ ≤ 80 * d; omega)
  have e1 : copied (vp_cell (pv_cI κ) ((pv_SH a).2, .inl (M.1 a))) (vp_cell (pv_cI κ) ((pv_SH b).2, .inl (M.1 b))) sp dp n = vp_cell (pv_cI κ) ((pv_SH b).2, .inl (va_cpy (M.1 a) (M.1 b) sp.toNatClampNeg dp.toNatClampNeg n.toNatClampNeg)) := va_copied (fun z => .int z) (pv_cI κ) (pv_cI κ) (M.1 a) (M.1 b) h5
  rw [e1] at X' step
  have hlt : κ.1 + b < H.size := (Array.getElem?_eq_some_iff.mp hc1).1
  have hheap : ((T.setVm vm').setCell (κ.1 + b) (vp_cell (pv_cI κ) ((pv_SH b).2, .inl (va_cpy (M.1 a) (M.1 b) sp.toNatClampNeg dp.toNatClampNeg n.toNatClampNeg)))).heap = H.setIfInBounds (κ.1 + b) (vp_cell (pv_cI κ) ((pv_SH b).2, .inl (va_cpy (M.1 a) (M.1 b) sp.toNatClampNeg dp.toNatClampNeg n.toNatClampNeg))) := by rw [← hT]; rfl
  have hW' : pv_Wd κ N rf (pv_cpy M a sp b dp n) (H.setIfInBounds (κ.1 + b) (vp_cell (pv_cI κ) ((pv_SH b).2, .inl (va_cpy (M.1 a) (M.1 b) sp.toNatClampNeg dp.toNatClampNeg n.toNatClampNeg)))) := by
    refine hW.set (k := b) (by simp) (fun q hq => by simp [Array.getElem?_setIfInBounds, Ne.symm hq]) ?_ (fun i _ hi => pv_ent_cong (pv_row_ne _ _ hi) rfl rfl)
    rw [pv_ent_I h1]
    show (H.setIfInBounds (κ.1 + b) _)[κ.1 + b]? = some (vp_cell _ _)
    simp [Array.getElem?_setIfInBounds, hlt, pv_cpy, pv_row_eq]
  obtain ⟨t, a1, b1⟩ := k _ v hv _ _ ls hW' (fun q hq => by
      rcases List.mem_append.mp hq with h | h
      · exact hL q h
      · obtain ⟨z, -, hz⟩ := List.mem_map.mp h
        rw [← hz]
        exact Nat.le_add_right _ _) hl _ hheap X'
  exact ⟨t, step t a1, b1⟩
theorem rw_abs {i d : Nat} {a : Int32} (C : pv_Ok g κ nL cc own ret) (hR : g.2.2.2.1 = pv_rm d) (hd : decode cc pc = .ok (.invokestatic i, 3)) (hw : Cond.methodLink own i Lib.Math.abs.name ∈ UW ∧ Cond.static Lib.Math.abs.name ∈ UW ∧ Cond.initialized "java/lang/Math" ∈ UW ∧ Cond.code Lib.Math.abs.name Lib.Math.abs.code 1 (some .int) ∈ UW) (hdd : 1 ≤ d) (hst : ((st.map fun v => v.category).sum ≤ 8)) (hz : cells = 0 ∧ slots = 0) (k : pv_R g κ N rf nL cells slots Q (pc + 3) lv (.int (if 0 ≤ a then a else 0 - a) :: st) M x) : pv_R g κ N rf nL cells slots Q pc lv (.int a :: st) M x :=
  fun v hv H locs ls hW hL hl => va_mabs C.1 C.2.1 (C.2.2.1.trans hl.1.symm) C.2.2.2.1 (C.2.2.2.2.1 _ hw.1) (C.2.2.2.2.1 _ hw.2.1) (C.2.2.2.2.1 _ hw.2.2.1) (C.2.2.2.2.1 _ hw.2.2.2) (by rw [hR]; exact hdd) (by rw [hR]; show _ + 13 ≤ 80 * d; omega) (by rw [hz.1]; exact Nat.zero_le _) (by rw [hz.2]; exact Nat.zero_le _) hd (k v hv H locs ls hW hL hl)
theorem rw_min {i d : Nat} {a b : Int32} (C : pv_Ok g κ nL cc own ret) (hR : g.2.2.2.1 = pv_rm d) (hd : decode cc pc = .ok (.invokestatic i, 3)) (hw : Cond.methodLink own i Lib.Math.min.name ∈ UW ∧ Cond.static Lib.Math.min.name ∈ UW ∧ Cond.initialized "java/lang/Math" ∈ UW ∧ Cond.code Lib.Math.min.name Lib.Math.min.code 2 (some .int) ∈ UW) (hdd : 1 ≤ d) (hst : ((st.map fun v => v.category).sum ≤ 8)) (hz : cells = 0 ∧ slots = 0) (k : pv_R g κ N rf nL cells slots Q (pc + 3) lv (.int (if b < a then b else a) :: st) M x) : pv_R g κ N rf nL cells slots Q pc lv (.int b :: .int a :: st) M x :=
  fun v hv H locs ls hW hL hl => va_mmin C.1 C.2.1 (C.2.2.1.trans hl.1.symm) C.2.2.2.1 (C.2.2.2.2.1 _ hw.1) (C.2.2.2.2.1 _ hw.2.1) (C.2.2.2.2.1 _ hw.2.2.1) (C.2.2.2.2.1 _ hw.2.2.2) (by rw [hR]; exact hdd) (by rw [hR]; show _ + 13 ≤ 80 * d; omega) (by rw [hz.1]; exact Nat.zero_le _) (by rw [hz.2]; exact Nat.zero_le _) hd (k v hv H locs ls hW hL hl)
/-- the static row of the digest's years: it is read only -/
theorem rw_gets {i : Nat} (C : pv_Ok g κ nL cc own ret) (hd : decode cc pc = .ok (.getstatic i, 3)) (hw : Cond.fieldLink own i "PoundVotes" "DIGEST_YEARS" "[I" ∈ UW) (k : pv_R g κ N rf nL cells slots Q (pc + 3) lv (.ref (pv_tA κ) :: st) M x) : pv_R g κ N rf nL cells slots Q pc lv st M x := by
  intro v hv H locs ls hW hL hl
  obtain ⟨cf, kf, fi, f, a, cell, h1, h2, h3, h4, h5, h6, h7, h8⟩ := C.2.2.2.2.2.1.2.2.1
  refine W.gets C.1 C.2.1 C.2.2.2.1 (C.2.2.2.2.1 _ hw) h1 h2 h3 h4 (by rw [hW.2.2 a (Nat.not_le.mp h8)]; exact h5) (fun e => by rw [e] at h6; cases h6) h7 rfl hd ?_
  exact k v hv H locs ls hW hL hl
theorem rw_slen (C : pv_Ok g κ nL cc own ret) (hd : decode cc pc = .ok (.arraylength, 1)) (k : pv_R g κ N rf nL cells slots Q (pc + 1) lv (.int 3 :: st) M x) : pv_R g κ N rf nL cells slots Q pc lv (.ref (pv_tA κ) :: st) M x := by
  intro v hv H locs ls hW hL hl
  obtain ⟨cell, h1, h2, h3, h4, h5, h6, h7⟩ := C.2.2.2.2.2.1.2.2.2.1
  refine W.alen (n := 3) C.1 C.2.1 (by rw [hW.2.2 _ (Nat.not_le.mp h7)]; exact h1) h2 (by rw [h5]; rfl) rfl rfl hd ?_
  exact k v hv H locs ls hW hL hl
def pv_dy (j : Nat) : Int32 := match j with | 0 => 0 | 1 => 1 | _ => 9
theorem rw_sld {j : Int32} {y : Int32 → Option α} (C : pv_Ok g κ nL cc own ret) (hd : decode cc pc = .ok (.iaload, 1)) (k : ∀ v, pv_R g κ N rf nL cells slots Q (pc + 1) lv (.int v :: st) M (y v)) : pv_R g κ N rf nL cells slots Q pc lv (.int j :: .ref (pv_tA κ) :: st) M (pv_ck (decide (¬ j < 0) && decide (j.toNatClampNeg < 3)) (pv_nm (pv_dy j.toNatClampNeg) y)) := by
  refine rw_ck (fun hb => ?_)
  simp only [Bool.and_eq_true, decide_eq_true_eq] at hb
  intro v hv H locs ls hW hL hl
  obtain ⟨cell, h1, h2, h3, h4, h5, h6, h7⟩ := C.2.2.2.2.2.1.2.2.2.1
  have hsz : cell.slots.size.toInt32 = 3 := by rw [h5]; rfl
  refine W.iald (v := .int (pv_dy j.toNatClampNeg)) C.1 C.2.1 (by rw [hW.2.2 _ (Nat.not_le.mp h7)]; exact h1) h2 h3 (fun q => q.elim hb.1 (fun z => absurd hb.2 (by omega))) (by rw [h6 _ hb.2]; rfl) rfl rfl hd ?_
  exact k _ v hv H locs ls hW hL hl
theorem rw_switch {a : Int32} {dflt lo hi : Int} {offs : Array Int} {len : Nat} {z : Nat → Option α} (tg : Nat → Nat) (dt : Nat) (C : pv_Ok g κ nL cc own ret) (hd : decode cc pc = .ok (.tableswitch dflt lo hi offs, len)) (h0 : lo = 0) (hdt : (pc : Int) + dflt = (dt : Int)) (hsz : (offs.size : Int) = hi + 1) (htg : ∀ i, i < offs.size → (offs[i]?).map (fun (o : Int) => (pc : Int) + o) = some (tg i : Int))
    (k : ∀ i, i < offs.size → pv_R g κ N rf nL cells slots Q (tg i) lv st M (z i)) (k2 : pv_R g κ N rf nL cells slots Q dt lv st M (z offs.size)) : pv_R g κ N rf nL cells slots Q pc lv (.int a :: st) M (z (if 0 ≤ a.toInt ∧ a.toInt ≤ hi then a.toInt.toNat else offs.size)) := by
  intro v hv H locs ls hW hL hl
  subst h0
  by_cases h : 0 ≤ a.toInt ∧ a.toInt ≤ hi
  · rw [if_pos h] at hv
    have hi' : a.toInt.toNat < offs.size := by omega
    have ho := htg _ hi'
    rw [Array.getElem?_eq_getElem hi'] at ho
    refine lv_tableIn (off := offs[a.toInt.toNat]) (tgt := tg a.toInt.toNat) C.1 C.2.1 hd (by omega) (by omega) ?_ (Option.some.inj ho) (k _ hi' v hv H locs ls hW hL hl)
    rw [Int.sub_zero, Array.getElem?_eq_getElem hi']
  · rw [if_neg h] at hv
    exact lv_tableOut C.1 C.2.1 hd (by omega) hdt (k2 v hv H locs ls hW hL hl)
end PVS
def pv_lp1 {ρ A1 : Type} (body : (A1 → Option ρ) → A1 → Option ρ) : Nat → A1 → Option ρ
  | 0 => fun _ => none
  | n + 1 => body (pv_lp1 body n)
theorem pv_lp1_ind {ρ A1 : Type} {body : (A1 → Option ρ) → A1 → Option ρ} (P : A1 → Option ρ → Prop) (h0 : ∀ (a1 : A1), P a1 none) (hs : ∀ (rec : A1 → Option ρ), (∀ (a1 : A1), P a1 (rec a1)) → ∀ (a1 : A1), P a1 (body rec a1)) : ∀ (n : Nat) (a1 : A1), P a1 (pv_lp1 body n a1)
  | 0, a1 => h0 a1
  | n + 1, a1 => hs _ (pv_lp1_ind P h0 hs n) a1
theorem pv_lp1_meas {ρ A1 : Type} {body : (A1 → Option ρ) → A1 → Option ρ} (I : A1 → Prop) (μ : A1 → Nat) (P : A1 → Option ρ → Prop) (hs : ∀ (rec : A1 → Option ρ) (a1 : A1), I a1 → (∀ (b1 : A1), I b1 → μ b1 < μ a1 → P b1 (rec b1)) → P a1 (body rec a1)) : ∀ (n : Nat) (a1 : A1), I a1 → μ a1 < n → P a1 (pv_lp1 body n a1)
  | 0, a1, _, h => absurd h (Nat.not_lt_zero _)
  | n + 1, a1, hi, h => hs _ a1 hi (fun b1 hb hm => pv_lp1_meas I μ P hs n b1 hb (Nat.lt_of_lt_of_le hm (Nat.le_of_lt_succ h)))
def pv_lp2 {ρ A1 A2 : Type} (body : (A1 → A2 → Option ρ) → A1 → A2 → Option ρ) : Nat → A1 → A2 → Option ρ
  | 0 => fun _ _ => none
  | n + 1 => body (pv_lp2 body n)
theorem pv_lp2_ind {ρ A1 A2 : Type} {body : (A1 → A2 → Option ρ) → A1 → A2 → Option ρ} (P : A1 → A2 → Option ρ → Prop) (h0 : ∀ (a1 : A1) (a2 : A2), P a1 a2 none) (hs : ∀ (rec : A1 → A2 → Option ρ), (∀ (a1 : A1) (a2 : A2), P a1 a2 (rec a1 a2)) → ∀ (a1 : A1) (a2 : A2), P a1 a2 (body rec a1 a2)) : ∀ (n : Nat) (a1 : A1) (a2 : A2), P a1 a2 (pv_lp2 body n a1 a2)
  | 0, a1, a2 => h0 a1 a2
  | n + 1, a1, a2 => hs _ (pv_lp2_ind P h0 hs n) a1 a2
theorem pv_lp2_meas {ρ A1 A2 : Type} {body : (A1 → A2 → Option ρ) → A1 → A2 → Option ρ} (I : A1 → A2 → Prop) (μ : A1 → A2 → Nat) (P : A1 → A2 → Option ρ → Prop) (hs : ∀ (rec : A1 → A2 → Option ρ) (a1 : A1) (a2 : A2), I a1 a2 → (∀ (b1 : A1) (b2 : A2), I b1 b2 → μ b1 b2 < μ a1 a2 → P b1 b2 (rec b1 b2)) → P a1 a2 (body rec a1 a2)) : ∀ (n : Nat) (a1 : A1) (a2 : A2), I a1 a2 → μ a1 a2 < n → P a1 a2 (pv_lp2 body n a1 a2)
  | 0, a1, a2, _, h => absurd h (Nat.not_lt_zero _)
  | n + 1, a1, a2, hi, h => hs _ a1 a2 hi (fun b1 b2 hb hm => pv_lp2_meas I μ P hs n b1 b2 hb (Nat.lt_of_lt_of_le hm (Nat.le_of_lt_succ h)))
def pv_lp3 {ρ A1 A2 A3 : Type} (body : (A1 → A2 → A3 → Option ρ) → A1 → A2 → A3 → Option ρ) : Nat → A1 → A2 → A3 → Option ρ
  | 0 => fun _ _ _ => none
  | n + 1 => body (pv_lp3 body n)
theorem pv_lp3_ind {ρ A1 A2 A3 : Type} {body : (A1 → A2 → A3 → Option ρ) → A1 → A2 → A3 → Option ρ} (P : A1 → A2 → A3 → Option ρ → Prop) (h0 : ∀ (a1 : A1) (a2 : A2) (a3 : A3), P a1 a2 a3 none) (hs : ∀ (rec : A1 → A2 → A3 → Option ρ), (∀ (a1 : A1) (a2 : A2) (a3 : A3), P a1 a2 a3 (rec a1 a2 a3)) → ∀ (a1 : A1) (a2 : A2) (a3 : A3), P a1 a2 a3 (body rec a1 a2 a3)) : ∀ (n : Nat) (a1 : A1) (a2 : A2) (a3 : A3), P a1 a2 a3 (pv_lp3 body n a1 a2 a3)
  | 0, a1, a2, a3 => h0 a1 a2 a3
  | n + 1, a1, a2, a3 => hs _ (pv_lp3_ind P h0 hs n) a1 a2 a3
theorem pv_lp3_meas {ρ A1 A2 A3 : Type} {body : (A1 → A2 → A3 → Option ρ) → A1 → A2 → A3 → Option ρ} (I : A1 → A2 → A3 → Prop) (μ : A1 → A2 → A3 → Nat) (P : A1 → A2 → A3 → Option ρ → Prop) (hs : ∀ (rec : A1 → A2 → A3 → Option ρ) (a1 : A1) (a2 : A2) (a3 : A3), I a1 a2 a3 → (∀ (b1 : A1) (b2 : A2) (b3 : A3), I b1 b2 b3 → μ b1 b2 b3 < μ a1 a2 a3 → P b1 b2 b3 (rec b1 b2 b3)) → P a1 a2 a3 (body rec a1 a2 a3)) : ∀ (n : Nat) (a1 : A1) (a2 : A2) (a3 : A3), I a1 a2 a3 → μ a1 a2 a3 < n → P a1 a2 a3 (pv_lp3 body n a1 a2 a3)
  | 0, a1, a2, a3, _, h => absurd h (Nat.not_lt_zero _)
  | n + 1, a1, a2, a3, hi, h => hs _ a1 a2 a3 hi (fun b1 b2 b3 hb hm => pv_lp3_meas I μ P hs n b1 b2 b3 hb (Nat.lt_of_lt_of_le hm (Nat.le_of_lt_succ h)))
def pv_lp4 {ρ A1 A2 A3 A4 : Type} (body : (A1 → A2 → A3 → A4 → Option ρ) → A1 → A2 → A3 → A4 → Option ρ) : Nat → A1 → A2 → A3 → A4 → Option ρ
  | 0 => fun _ _ _ _ => none
  | n + 1 => body (pv_lp4 body n)
theorem pv_lp4_ind {ρ A1 A2 A3 A4 : Type} {body : (A1 → A2 → A3 → A4 → Option ρ) → A1 → A2 → A3 → A4 → Option ρ} (P : A1 → A2 → A3 → A4 → Option ρ → Prop) (h0 : ∀ (a1 : A1) (a2 : A2) (a3 : A3) (a4 : A4), P a1 a2 a3 a4 none) (hs : ∀ (rec : A1 → A2 → A3 → A4 → Option ρ), (∀ (a1 : A1) (a2 : A2) (a3 : A3) (a4 : A4), P a1 a2 a3 a4 (rec a1 a2 a3 a4)) → ∀ (a1 : A1) (a2 : A2) (a3 : A3) (a4 : A4), P a1 a2 a3 a4 (body rec a1 a2 a3 a4)) : ∀ (n : Nat) (a1 : A1) (a2 : A2) (a3 : A3) (a4 : A4), P a1 a2 a3 a4 (pv_lp4 body n a1 a2 a3 a4)
  | 0, a1, a2, a3, a4 => h0 a1 a2 a3 a4
  | n + 1, a1, a2, a3, a4 => hs _ (pv_lp4_ind P h0 hs n) a1 a2 a3 a4
theorem pv_lp4_meas {ρ A1 A2 A3 A4 : Type} {body : (A1 → A2 → A3 → A4 → Option ρ) → A1 → A2 → A3 → A4 → Option ρ} (I : A1 → A2 → A3 → A4 → Prop) (μ : A1 → A2 → A3 → A4 → Nat) (P : A1 → A2 → A3 → A4 → Option ρ → Prop) (hs : ∀ (rec : A1 → A2 → A3 → A4 → Option ρ) (a1 : A1) (a2 : A2) (a3 : A3) (a4 : A4), I a1 a2 a3 a4 → (∀ (b1 : A1) (b2 : A2) (b3 : A3) (b4 : A4), I b1 b2 b3 b4 → μ b1 b2 b3 b4 < μ a1 a2 a3 a4 → P b1 b2 b3 b4 (rec b1 b2 b3 b4)) → P a1 a2 a3 a4 (body rec a1 a2 a3 a4)) : ∀ (n : Nat) (a1 : A1) (a2 : A2) (a3 : A3) (a4 : A4), I a1 a2 a3 a4 → μ a1 a2 a3 a4 < n → P a1 a2 a3 a4 (pv_lp4 body n a1 a2 a3 a4)
  | 0, a1, a2, a3, a4, _, h => absurd h (Nat.not_lt_zero _)
  | n + 1, a1, a2, a3, a4, hi, h => hs _ a1 a2 a3 a4 hi (fun b1 b2 b3 b4 hb hm => pv_lp4_meas I μ P hs n b1 b2 b3 b4 hb (Nat.lt_of_lt_of_le hm (Nat.le_of_lt_succ h)))
def pv_lp5 {ρ A1 A2 A3 A4 A5 : Type} (body : (A1 → A2 → A3 → A4 → A5 → Option ρ) → A1 → A2 → A3 → A4 → A5 → Option ρ) : Nat → A1 → A2 → A3 → A4 → A5 → Option ρ
  | 0 => fun _ _ _ _ _ => none
  | n + 1 => body (pv_lp5 body n)
theorem pv_lp5_ind {ρ A1 A2 A3 A4 A5 : Type} {body : (A1 → A2 → A3 → A4 → A5 → Option ρ) → A1 → A2 → A3 → A4 → A5 → Option ρ} (P : A1 → A2 → A3 → A4 → A5 → Option ρ → Prop) (h0 : ∀ (a1 : A1) (a2 : A2) (a3 : A3) (a4 : A4) (a5 : A5), P a1 a2 a3 a4 a5 none) (hs : ∀ (rec : A1 → A2 → A3 → A4 → A5 → Option ρ), (∀ (a1 : A1) (a2 : A2) (a3 : A3) (a4 : A4) (a5 : A5), P a1 a2 a3 a4 a5 (rec a1 a2 a3 a4 a5)) → ∀ (a1 : A1) (a2 : A2) (a3 : A3) (a4 : A4) (a5 : A5), P a1 a2 a3 a4 a5 (body rec a1 a2 a3 a4 a5)) : ∀ (n : Nat) (a1 : A1) (a2 : A2) (a3 : A3) (a4 : A4) (a5 : A5), P a1 a2 a3 a4 a5 (pv_lp5 body n a1 a2 a3 a4 a5)
  | 0, a1, a2, a3, a4, a5 => h0 a1 a2 a3 a4 a5
  | n + 1, a1, a2, a3, a4, a5 => hs _ (pv_lp5_ind P h0 hs n) a1 a2 a3 a4 a5
theorem pv_lp5_meas {ρ A1 A2 A3 A4 A5 : Type} {body : (A1 → A2 → A3 → A4 → A5 → Option ρ) → A1 → A2 → A3 → A4 → A5 → Option ρ} (I : A1 → A2 → A3 → A4 → A5 → Prop) (μ : A1 → A2 → A3 → A4 → A5 → Nat) (P : A1 → A2 → A3 → A4 → A5 → Option ρ → Prop) (hs : ∀ (rec : A1 → A2 → A3 → A4 → A5 → Option ρ) (a1 : A1) (a2 : A2) (a3 : A3) (a4 : A4) (a5 : A5), I a1 a2 a3 a4 a5 → (∀ (b1 : A1) (b2 : A2) (b3 : A3) (b4 : A4) (b5 : A5), I b1 b2 b3 b4 b5 → μ b1 b2 b3 b4 b5 < μ a1 a2 a3 a4 a5 → P b1 b2 b3 b4 b5 (rec b1 b2 b3 b4 b5)) → P a1 a2 a3 a4 a5 (body rec a1 a2 a3 a4 a5)) : ∀ (n : Nat) (a1 : A1) (a2 : A2) (a3 : A3) (a4 : A4) (a5 : A5), I a1 a2 a3 a4 a5 → μ a1 a2 a3 a4 a5 < n → P a1 a2 a3 a4 a5 (pv_lp5 body n a1 a2 a3 a4 a5)
  | 0, a1, a2, a3, a4, a5, _, h => absurd h (Nat.not_lt_zero _)
  | n + 1, a1, a2, a3, a4, a5, hi, h => hs _ a1 a2 a3 a4 a5 hi (fun b1 b2 b3 b4 b5 hb hm => pv_lp5_meas I μ P hs n b1 b2 b3 b4 b5 hb (Nat.lt_of_lt_of_le hm (Nat.le_of_lt_succ h)))
def pv_lp6 {ρ A1 A2 A3 A4 A5 A6 : Type} (body : (A1 → A2 → A3 → A4 → A5 → A6 → Option ρ) → A1 → A2 → A3 → A4 → A5 → A6 → Option ρ) : Nat → A1 → A2 → A3 → A4 → A5 → A6 → Option ρ
  | 0 => fun _ _ _ _ _ _ => none
  | n + 1 => body (pv_lp6 body n)
theorem pv_lp6_ind {ρ A1 A2 A3 A4 A5 A6 : Type} {body : (A1 → A2 → A3 → A4 → A5 → A6 → Option ρ) → A1 → A2 → A3 → A4 → A5 → A6 → Option ρ} (P : A1 → A2 → A3 → A4 → A5 → A6 → Option ρ → Prop) (h0 : ∀ (a1 : A1) (a2 : A2) (a3 : A3) (a4 : A4) (a5 : A5) (a6 : A6), P a1 a2 a3 a4 a5 a6 none) (hs : ∀ (rec : A1 → A2 → A3 → A4 → A5 → A6 → Option ρ), (∀ (a1 : A1) (a2 : A2) (a3 : A3) (a4 : A4) (a5 : A5) (a6 : A6), P a1 a2 a3 a4 a5 a6 (rec a1 a2 a3 a4 a5 a6)) → ∀ (a1 : A1) (a2 : A2) (a3 : A3) (a4 : A4) (a5 : A5) (a6 : A6), P a1 a2 a3 a4 a5 a6 (body rec a1 a2 a3 a4 a5 a6)) : ∀ (n : Nat) (a1 : A1) (a2 : A2) (a3 : A3) (a4 : A4) (a5 : A5) (a6 : A6), P a1 a2 a3 a4 a5 a6 (pv_lp6 body n a1 a2 a3 a4 a5 a6)
  | 0, a1, a2, a3, a4, a5, a6 => h0 a1 a2 a3 a4 a5 a6
  | n + 1, a1, a2, a3, a4, a5, a6 => hs _ (pv_lp6_ind P h0 hs n) a1 a2 a3 a4 a5 a6
theorem pv_lp6_meas {ρ A1 A2 A3 A4 A5 A6 : Type} {body : (A1 → A2 → A3 → A4 → A5 → A6 → Option ρ) → A1 → A2 → A3 → A4 → A5 → A6 → Option ρ} (I : A1 → A2 → A3 → A4 → A5 → A6 → Prop) (μ : A1 → A2 → A3 → A4 → A5 → A6 → Nat) (P : A1 → A2 → A3 → A4 → A5 → A6 → Option ρ → Prop) (hs : ∀ (rec : A1 → A2 → A3 → A4 → A5 → A6 → Option ρ) (a1 : A1) (a2 : A2) (a3 : A3) (a4 : A4) (a5 : A5) (a6 : A6), I a1 a2 a3 a4 a5 a6 → (∀ (b1 : A1) (b2 : A2) (b3 : A3) (b4 : A4) (b5 : A5) (b6 : A6), I b1 b2 b3 b4 b5 b6 → μ b1 b2 b3 b4 b5 b6 < μ a1 a2 a3 a4 a5 a6 → P b1 b2 b3 b4 b5 b6 (rec b1 b2 b3 b4 b5 b6)) → P a1 a2 a3 a4 a5 a6 (body rec a1 a2 a3 a4 a5 a6)) : ∀ (n : Nat) (a1 : A1) (a2 : A2) (a3 : A3) (a4 : A4) (a5 : A5) (a6 : A6), I a1 a2 a3 a4 a5 a6 → μ a1 a2 a3 a4 a5 a6 < n → P a1 a2 a3 a4 a5 a6 (pv_lp6 body n a1 a2 a3 a4 a5 a6)
  | 0, a1, a2, a3, a4, a5, a6, _, h => absurd h (Nat.not_lt_zero _)
  | n + 1, a1, a2, a3, a4, a5, a6, hi, h => hs _ a1 a2 a3 a4 a5 a6 hi (fun b1 b2 b3 b4 b5 b6 hb hm => pv_lp6_meas I μ P hs n b1 b2 b3 b4 b5 b6 hb (Nat.lt_of_lt_of_le hm (Nat.le_of_lt_succ h)))
def pv_lp7 {ρ A1 A2 A3 A4 A5 A6 A7 : Type} (body : (A1 → A2 → A3 → A4 → A5 → A6 → A7 → Option ρ) → A1 → A2 → A3 → A4 → A5 → A6 → A7 → Option ρ) : Nat → A1 → A2 → A3 → A4 → A5 → A6 → A7 → Option ρ
  | 0 => fun _ _ _ _ _ _ _ => none
  | n + 1 => body (pv_lp7 body n)
theorem pv_lp7_ind {ρ A1 A2 A3 A4 A5 A6 A7 : Type} {body : (A1 → A2 → A3 → A4 → A5 → A6 → A7 → Option ρ) → A1 → A2 → A3 → A4 → A5 → A6 → A7 → Option ρ} (P : A1 → A2 → A3 → A4 → A5 → A6 → A7 → Option ρ → Prop) (h0 : ∀ (a1 : A1) (a2 : A2) (a3 : A3) (a4 : A4) (a5 : A5) (a6 : A6) (a7 : A7), P a1 a2 a3 a4 a5 a6 a7 none) (hs : ∀ (rec : A1 → A2 → A3 → A4 → A5 → A6 → A7 → Option ρ), (∀ (a1 : A1) (a2 : A2) (a3 : A3) (a4 : A4) (a5 : A5) (a6 : A6) (a7 : A7), P a1 a2 a3 a4 a5 a6 a7 (rec a1 a2 a3 a4 a5 a6 a7)) → ∀ (a1 : A1) (a2 : A2) (a3 : A3) (a4 : A4) (a5 : A5) (a6 : A6) (a7 : A7), P a1 a2 a3 a4 a5 a6 a7 (body rec a1 a2 a3 a4 a5 a6 a7)) : ∀ (n : Nat) (a1 : A1) (a2 : A2) (a3 : A3) (a4 : A4) (a5 : A5) (a6 : A6) (a7 : A7), P a1 a2 a3 a4 a5 a6 a7 (pv_lp7 body n a1 a2 a3 a4 a5 a6 a7)
  | 0, a1, a2, a3, a4, a5, a6, a7 => h0 a1 a2 a3 a4 a5 a6 a7
  | n + 1, a1, a2, a3, a4, a5, a6, a7 => hs _ (pv_lp7_ind P h0 hs n) a1 a2 a3 a4 a5 a6 a7
theorem pv_lp7_meas {ρ A1 A2 A3 A4 A5 A6 A7 : Type} {body : (A1 → A2 → A3 → A4 → A5 → A6 → A7 → Option ρ) → A1 → A2 → A3 → A4 → A5 → A6 → A7 → Option ρ} (I : A1 → A2 → A3 → A4 → A5 → A6 → A7 → Prop) (μ : A1 → A2 → A3 → A4 → A5 → A6 → A7 → Nat) (P : A1 → A2 → A3 → A4 → A5 → A6 → A7 → Option ρ → Prop) (hs : ∀ (rec : A1 → A2 → A3 → A4 → A5 → A6 → A7 → Option ρ) (a1 : A1) (a2 : A2) (a3 : A3) (a4 : A4) (a5 : A5) (a6 : A6) (a7 : A7), I a1 a2 a3 a4 a5 a6 a7 → (∀ (b1 : A1) (b2 : A2) (b3 : A3) (b4 : A4) (b5 : A5) (b6 : A6) (b7 : A7), I b1 b2 b3 b4 b5 b6 b7 → μ b1 b2 b3 b4 b5 b6 b7 < μ a1 a2 a3 a4 a5 a6 a7 → P b1 b2 b3 b4 b5 b6 b7 (rec b1 b2 b3 b4 b5 b6 b7)) → P a1 a2 a3 a4 a5 a6 a7 (body rec a1 a2 a3 a4 a5 a6 a7)) : ∀ (n : Nat) (a1 : A1) (a2 : A2) (a3 : A3) (a4 : A4) (a5 : A5) (a6 : A6) (a7 : A7), I a1 a2 a3 a4 a5 a6 a7 → μ a1 a2 a3 a4 a5 a6 a7 < n → P a1 a2 a3 a4 a5 a6 a7 (pv_lp7 body n a1 a2 a3 a4 a5 a6 a7)
  | 0, a1, a2, a3, a4, a5, a6, a7, _, h => absurd h (Nat.not_lt_zero _)
  | n + 1, a1, a2, a3, a4, a5, a6, a7, hi, h => hs _ a1 a2 a3 a4 a5 a6 a7 hi (fun b1 b2 b3 b4 b5 b6 b7 hb hm => pv_lp7_meas I μ P hs n b1 b2 b3 b4 b5 b6 b7 hb (Nat.lt_of_lt_of_le hm (Nat.le_of_lt_succ h)))
def pv_lp8 {ρ A1 A2 A3 A4 A5 A6 A7 A8 : Type} (body : (A1 → A2 → A3 → A4 → A5 → A6 → A7 → A8 → Option ρ) → A1 → A2 → A3 → A4 → A5 → A6 → A7 → A8 → Option ρ) : Nat → A1 → A2 → A3 → A4 → A5 → A6 → A7 → A8 → Option ρ
  | 0 => fun _ _ _ _ _ _ _ _ => none
  | n + 1 => body (pv_lp8 body n)
theorem pv_lp8_ind {ρ A1 A2 A3 A4 A5 A6 A7 A8 : Type} {body : (A1 → A2 → A3 → A4 → A5 → A6 → A7 → A8 → Option ρ) → A1 → A2 → A3 → A4 → A5 → A6 → A7 → A8 → Option ρ} (P : A1 → A2 → A3 → A4 → A5 → A6 → A7 → A8 → Option ρ → Prop) (h0 : ∀ (a1 : A1) (a2 : A2) (a3 : A3) (a4 : A4) (a5 : A5) (a6 : A6) (a7 : A7) (a8 : A8), P a1 a2 a3 a4 a5 a6 a7 a8 none) (hs : ∀ (rec : A1 → A2 → A3 → A4 → A5 → A6 → A7 → A8 → Option ρ), (∀ (a1 : A1) (a2 : A2) (a3 : A3) (a4 : A4) (a5 : A5) (a6 : A6) (a7 : A7) (a8 : A8), P a1 a2 a3 a4 a5 a6 a7 a8 (rec a1 a2 a3 a4 a5 a6 a7 a8)) → ∀ (a1 : A1) (a2 : A2) (a3 : A3) (a4 : A4) (a5 : A5) (a6 : A6) (a7 : A7) (a8 : A8), P a1 a2 a3 a4 a5 a6 a7 a8 (body rec a1 a2 a3 a4 a5 a6 a7 a8)) : ∀ (n : Nat) (a1 : A1) (a2 : A2) (a3 : A3) (a4 : A4) (a5 : A5) (a6 : A6) (a7 : A7) (a8 : A8), P a1 a2 a3 a4 a5 a6 a7 a8 (pv_lp8 body n a1 a2 a3 a4 a5 a6 a7 a8)
  | 0, a1, a2, a3, a4, a5, a6, a7, a8 => h0 a1 a2 a3 a4 a5 a6 a7 a8
  | n + 1, a1, a2, a3, a4, a5, a6, a7, a8 => hs _ (pv_lp8_ind P h0 hs n) a1 a2 a3 a4 a5 a6 a7 a8
theorem pv_lp8_meas {ρ A1 A2 A3 A4 A5 A6 A7 A8 : Type} {body : (A1 → A2 → A3 → A4 → A5 → A6 → A7 → A8 → Option ρ) → A1 → A2 → A3 → A4 → A5 → A6 → A7 → A8 → Option ρ} (I : A1 → A2 → A3 → A4 → A5 → A6 → A7 → A8 → Prop) (μ : A1 → A2 → A3 → A4 → A5 → A6 → A7 → A8 → Nat) (P : A1 → A2 → A3 → A4 → A5 → A6 → A7 → A8 → Option ρ → Prop) (hs : ∀ (rec : A1 → A2 → A3 → A4 → A5 → A6 → A7 → A8 → Option ρ) (a1 : A1) (a2 : A2) (a3 : A3) (a4 : A4) (a5 : A5) (a6 : A6) (a7 : A7) (a8 : A8), I a1 a2 a3 a4 a5 a6 a7 a8 → (∀ (b1 : A1) (b2 : A2) (b3 : A3) (b4 : A4) (b5 : A5) (b6 : A6) (b7 : A7) (b8 : A8), I b1 b2 b3 b4 b5 b6 b7 b8 → μ b1 b2 b3 b4 b5 b6 b7 b8 < μ a1 a2 a3 a4 a5 a6 a7 a8 → P b1 b2 b3 b4 b5 b6 b7 b8 (rec b1 b2 b3 b4 b5 b6 b7 b8)) → P a1 a2 a3 a4 a5 a6 a7 a8 (body rec a1 a2 a3 a4 a5 a6 a7 a8)) : ∀ (n : Nat) (a1 : A1) (a2 : A2) (a3 : A3) (a4 : A4) (a5 : A5) (a6 : A6) (a7 : A7) (a8 : A8), I a1 a2 a3 a4 a5 a6 a7 a8 → μ a1 a2 a3 a4 a5 a6 a7 a8 < n → P a1 a2 a3 a4 a5 a6 a7 a8 (pv_lp8 body n a1 a2 a3 a4 a5 a6 a7 a8)
  | 0, a1, a2, a3, a4, a5, a6, a7, a8, _, h => absurd h (Nat.not_lt_zero _)
  | n + 1, a1, a2, a3, a4, a5, a6, a7, a8, hi, h => hs _ a1 a2 a3 a4 a5 a6 a7 a8 hi (fun b1 b2 b3 b4 b5 b6 b7 b8 hb hm => pv_lp8_meas I μ P hs n b1 b2 b3 b4 b5 b6 b7 b8 hb (Nat.lt_of_lt_of_le hm (Nat.le_of_lt_succ h)))
def pv_lp9 {ρ A1 A2 A3 A4 A5 A6 A7 A8 A9 : Type} (body : (A1 → A2 → A3 → A4 → A5 → A6 → A7 → A8 → A9 → Option ρ) → A1 → A2 → A3 → A4 → A5 → A6 → A7 → A8 → A9 → Option ρ) : Nat → A1 → A2 → A3 → A4 → A5 → A6 → A7 → A8 → A9 → Option ρ
  | 0 => fun _ _ _ _ _ _ _ _ _ => none
  | n + 1 => body (pv_lp9 body n)
theorem pv_lp9_ind {ρ A1 A2 A3 A4 A5 A6 A7 A8 A9 : Type} {body : (A1 → A2 → A3 → A4 → A5 → A6 → A7 → A8 → A9 → Option ρ) → A1 → A2 → A3 → A4 → A5 → A6 → A7 → A8 → A9 → Option ρ} (P : A1 → A2 → A3 → A4 → A5 → A6 → A7 → A8 → A9 → Option ρ → Prop) (h0 : ∀ (a1 : A1) (a2 : A2) (a3 : A3) (a4 : A4) (a5 : A5) (a6 : A6) (a7 : A7) (a8 : A8) (a9 : A9), P a1 a2 a3 a4 a5 a6 a7 a8 a9 none) (hs : ∀ (rec : A1 → A2 → A3 → A4 → A5 → A6 → A7 → A8 → A9 → Option ρ), (∀ (a1 : A1) (a2 : A2) (a3 : A3) (a4 : A4) (a5 : A5) (a6 : A6) (a7 : A7) (a8 : A8) (a9 : A9), P a1 a2 a3 a4 a5 a6 a7 a8 a9 (rec a1 a2 a3 a4 a5 a6 a7 a8 a9)) → ∀ (a1 : A1) (a2 : A2) (a3 : A3) (a4 : A4) (a5 : A5) (a6 : A6) (a7 : A7) (a8 : A8) (a9 : A9), P a1 a2 a3 a4 a5 a6 a7 a8 a9 (body rec a1 a2 a3 a4 a5 a6 a7 a8 a9)) : ∀ (n : Nat) (a1 : A1) (a2 : A2) (a3 : A3) (a4 : A4) (a5 : A5) (a6 : A6) (a7 : A7) (a8 : A8) (a9 : A9), P a1 a2 a3 a4 a5 a6 a7 a8 a9 (pv_lp9 body n a1 a2 a3 a4 a5 a6 a7 a8 a9)
  | 0, a1, a2, a3, a4, a5, a6, a7, a8, a9 => h0 a1 a2 a3 a4 a5 a6 a7 a8 a9
  | n + 1, a1, a2, a3, a4, a5, a6, a7, a8, a9 => hs _ (pv_lp9_ind P h0 hs n) a1 a2 a3 a4 a5 a6 a7 a8 a9
theorem pv_lp9_meas {ρ A1 A2 A3 A4 A5 A6 A7 A8 A9 : Type} {body : (A1 → A2 → A3 → A4 → A5 → A6 → A7 → A8 → A9 → Option ρ) → A1 → A2 → A3 → A4 → A5 → A6 → A7 → A8 → A9 → Option ρ} (I : A1 → A2 → A3 → A4 → A5 → A6 → A7 → A8 → A9 → Prop) (μ : A1 → A2 → A3 → A4 → A5 → A6 → A7 → A8 → A9 → Nat) (P : A1 → A2 → A3 → A4 → A5 → A6 → A7 → A8 → A9 → Option ρ → Prop) (hs : ∀ (rec : A1 → A2 → A3 → A4 → A5 → A6 → A7 → A8 → A9 → Option ρ) (a1 : A1) (a2 : A2) (a3 : A3) (a4 : A4) (a5 : A5) (a6 : A6) (a7 : A7) (a8 : A8) (a9 : A9), I a1 a2 a3 a4 a5 a6 a7 a8 a9 → (∀ (b1 : A1) (b2 : A2) (b3 : A3) (b4 : A4) (b5 : A5) (b6 : A6) (b7 : A7) (b8 : A8) (b9 : A9), I b1 b2 b3 b4 b5 b6 b7 b8 b9 → μ b1 b2 b3 b4 b5 b6 b7 b8 b9 < μ a1 a2 a3 a4 a5 a6 a7 a8 a9 → P b1 b2 b3 b4 b5 b6 b7 b8 b9 (rec b1 b2 b3 b4 b5 b6 b7 b8 b9)) → P a1 a2 a3 a4 a5 a6 a7 a8 a9 (body rec a1 a2 a3 a4 a5 a6 a7 a8 a9)) : ∀ (n : Nat) (a1 : A1) (a2 : A2) (a3 : A3) (a4 : A4) (a5 : A5) (a6 : A6) (a7 : A7) (a8 : A8) (a9 : A9), I a1 a2 a3 a4 a5 a6 a7 a8 a9 → μ a1 a2 a3 a4 a5 a6 a7 a8 a9 < n → P a1 a2 a3 a4 a5 a6 a7 a8 a9 (pv_lp9 body n a1 a2 a3 a4 a5 a6 a7 a8 a9)
  | 0, a1, a2, a3, a4, a5, a6, a7, a8, a9, _, h => absurd h (Nat.not_lt_zero _)
  | n + 1, a1, a2, a3, a4, a5, a6, a7, a8, a9, hi, h => hs _ a1 a2 a3 a4 a5 a6 a7 a8 a9 hi (fun b1 b2 b3 b4 b5 b6 b7 b8 b9 hb hm => pv_lp9_meas I μ P hs n b1 b2 b3 b4 b5 b6 b7 b8 b9 hb (Nat.lt_of_lt_of_le hm (Nat.le_of_lt_succ h)))
