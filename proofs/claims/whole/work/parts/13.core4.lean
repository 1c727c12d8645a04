/-! methods that write nothing -/
def pv_MtP {β : Type} (l : Launch) (y : MethodName) (cc : ByteArray) (nL : Nat) (ret : Option FieldType) (d : Nat) (κ : pv_K) (av : List Value) (M : pv_M) (inj : β → Option Value) (x : Option β) : Prop :=
  ∀ v, x = some v → Met l y (.code y cc nL ret :: UW) (pv_rm d) (pv_Pre κ av M) (pv_Post κ (inj v) M) 0 0 (fun q => κ.1 ≤ q)
def pv_QP {β : Type} (g : pv_X) (κ : pv_K) (inj : β → Option Value) (M : pv_M) : β → State → Prop := fun v => MQ g.2.2.2.2.2.2.2.1 (pv_Post κ (inj v) M) g.2.2.2.2.2.2.1 g.2.2.2.2.1 0 0 (fun q => κ.1 ≤ q)
def pv_cap {α ρ : Type} (x : Option α) (f : α → Option ρ) : Option ρ := match x with
  | some v => f v
  | none => none
theorem pv_enterP {β : Type} {l : Launch} {y : MethodName} {cc : ByteArray} {nL : Nat} {ret : Option FieldType} {d : Nat} {κ : pv_K} {av : List Value} {M : pv_M} {inj : β → Option Value} {x : Option β} (hy : plainName y.cls = true) (ha : (lg_sl av).length ≤ nL)
    (body : ∀ g : pv_X, g.2.1 = l → g.2.2.2.1 = pv_rm d → pv_Ok g κ nL cc y.cls ret → pv_R g κ pv_T pv_RF nL 0 0 (pv_QP g κ inj M) 0 (lv_args 0 av) [] M x) : pv_MtP l y cc nL ret d κ av M inj x := by
  intro v hv
  refine Met.ofW (cc := cc) (maxL := nL) (ret := ret) hy rfl ?_
  intro p e s m args below meth c s₁ B hml hP
  obtain ⟨rfl, hW, hKn⟩ := hP
  have hts := atoms_spec (ws := Cond.code y cc nL ret :: UW) B.pre
  have hown : s.vm.findClass y.cls = some m.cls := findClass_of_methodNamed B.named
  rw [lg_entry_eq]
  exact body (p, l, e, pv_rm d, s, m, av.toArray, below, meth, c) rfl rfl ⟨B.exec, B.bytes, hml, hown, fun w hw => hts w (List.mem_cons_of_mem _ hw), hKn, B.notSynchronized, B.returns⟩ v hv s.heap [] _ hW (fun q h => by cases h) (lv_entry av ha)
section PVRP
variable {g : pv_X} {κ : pv_K} {nL : Nat} {pc : Nat} {lv : List (Nat × Value)} {M : pv_M} {cc : ByteArray} {own : String}
theorem rw_iretP {r : Int32} (C : pv_Ok g κ nL cc own (some .int)) (hd : decode cc pc = .ok (.ireturn, 1)) : pv_R g κ pv_T pv_RF nL 0 0 (pv_QP g κ pv_ji M) pc lv [.int r] M (some r) := by
  intro v hv H locs ls hW hL hl
  cases hv
  exact W.iret C.1 C.2.1 C.2.2.2.2.2.2.2 (fun t ht hWm => ⟨rfl, by rw [ht]; exact hW⟩) hL hd C.2.2.2.2.2.2.1
theorem rw_zretP {r : Int32} (hr : r = 0 ∨ r = 1) (C : pv_Ok g κ nL cc own (some .boolean)) (hd : decode cc pc = .ok (.ireturn, 1)) : pv_R g κ pv_T pv_RF nL 0 0 (pv_QP g κ pv_ji M) pc lv [.int r] M (some r) := by
  intro v hv H locs ls hW hL hl
  cases hv
  have hn : narrow .boolean (.int r) = .int r := by rcases hr with rfl | rfl <;> decide +kernel
  exact W.zret C.1 C.2.1 C.2.2.2.2.2.2.2 hn (fun t ht hWm => ⟨rfl, by rw [ht]; exact hW⟩) hL hd C.2.2.2.2.2.2.1
theorem rw_zret_ckP {r : Int32} (C : pv_Ok g κ nL cc own (some .boolean)) (hd : decode cc pc = .ok (.ireturn, 1)) : pv_R g κ pv_T pv_RF nL 0 0 (pv_QP g κ pv_ji M) pc lv [.int r] M (if r = 0 ∨ r = 1 then some r else none) := by
  intro v hv
  by_cases h : r = 0 ∨ r = 1
  · rw [if_pos h] at hv
    exact rw_zretP h C hd v hv
  · rw [if_neg h] at hv
    cases hv
theorem rw_lretP {r : Int64} (C : pv_Ok g κ nL cc own (some .long)) (hd : decode cc pc = .ok (.lreturn, 1)) : pv_R g κ pv_T pv_RF nL 0 0 (pv_QP g κ pv_jl M) pc lv [.long r] M (some r) := by
  intro v hv H locs ls hW hL hl
  cases hv
  exact W.lret C.1 C.2.1 C.2.2.2.2.2.2.2 (fun t ht hWm => ⟨rfl, by rw [ht]; exact hW⟩) hL hd C.2.2.2.2.2.2.1
theorem rw_vretP (C : pv_Ok g κ nL cc own none) (hd : decode cc pc = .ok (.return_, 1)) : pv_R g κ pv_T pv_RF nL 0 0 (pv_QP g κ pv_ju M) pc lv [] M (some ()) := by
  intro v hv H locs ls hW hL hl
  cases hv
  exact W.vret C.1 C.2.1 C.2.2.2.2.2.2.2 (fun t ht hWm => ⟨rfl, by rw [ht]; exact hW⟩) hL hd C.2.2.2.2.2.2.1
theorem rw_aretP {r : Nat} {rt : FieldType} (hrt : (∃ n, rt = .object n) ∨ ∃ t, rt = .array t) (C : pv_Ok g κ nL cc own (some rt)) (hd : decode cc pc = .ok (.areturn, 1)) : pv_R g κ pv_T pv_RF nL 0 0 (pv_QP g κ (pv_jr κ) M) pc lv [.ref (κ.1 + r)] M (some r) := by
  intro v hv H locs ls hW hL hl
  cases hv
  exact W.aret C.1 C.2.1 C.2.2.2.2.2.2.2 hrt (Or.inr ⟨_, rfl⟩) (fun t ht hWm => ⟨rfl, by rw [ht]; exact hW⟩) hL hd C.2.2.2.2.2.2.1
end PVRP
section PVCP
variable {α β : Type} {g : pv_X} {κ : pv_K} {nL : Nat} {Q : α → State → Prop} {pc : Nat} {lv : List (Nat × Value)} {st : List Value} {M : pv_M} {cc : ByteArray} {own : String} {ret : Option FieldType}
theorem pv_met1 {l : Launch} {y : MethodName} {c2 : ByteArray} {n2 : Nat} {r2 : Option FieldType} {d2 : Nat} {av : List Value} {inj : β → Option Value} {b : β} (hM : pv_MtP l y c2 n2 r2 d2 κ av M inj (some b)) : pv_Mt l y c2 n2 r2 d2 κ av M inj (some (b, M)) := fun v hv => by
  cases hv
  exact hM b rfl
theorem pv_afterP {z : β → Option α} {v : α} {inj : β → Option Value} {q : β} {st0 : List Value} {a : Array Value} {H : Heap} {locs : List Loc} {ls : Array Slot} (hL : ∀ q ∈ locs, κ.1 ≤ q.base) (hl : lv_has ls nL lv)
    (hr : va_Run g.1 g.2.1 g.2.2.1 g.2.2.2.1 g.2.2.2.2.1 g.2.2.2.2.2.1 g.2.2.2.2.2.2.1 g.2.2.2.2.2.2.2.1 g.2.2.2.2.2.2.2.2.1 g.2.2.2.2.2.2.2.2.2 H locs 0 0 0 0 (F0 g.2.2.2.2.2.1 pc ls st0) st (pv_Post κ (inj q) M a) (fun q => κ.1 ≤ q))
    (hv : z q = some v) (k : ∀ r, pv_R g κ pv_T pv_RF nL 0 0 Q (pc + 3) lv ((inj r).toList ++ st) M (z r)) :
    W g.1 g.2.1 g.2.2.1 g.2.2.2.1 g.2.2.2.2.1 g.2.2.2.2.2.1 g.2.2.2.2.2.2.1 g.2.2.2.2.2.2.2.1 g.2.2.2.2.2.2.2.2.1 g.2.2.2.2.2.2.2.2.2 H locs 0 0 (Q v) (F0 g.2.2.2.2.2.1 pc ls st0) := by
  intro T hT X
  obtain ⟨v', st₀, t, T', L, h0, X', hL', e1, e2, ⟨ho, hWd⟩, stp⟩ := hr T hT X
  cases ho
  obtain ⟨t2, a1, b1⟩ := k q v hv T'.heap (locs ++ L) ls (by rw [e1]; exact hWd) (fun y hy => (List.mem_append.mp hy).elim (hL y) (hL' y)) hl T' rfl X'
  exact ⟨t2, stp t2 a1, b1⟩
/-- a call's row from one that names the memory -/
theorem pv_pure {x : Option β} {z : β → Option α} {st0 : List Value} (h : ∀ b, x = some b → pv_R g κ pv_T pv_RF nL 0 0 Q pc lv st0 M (pv_cal (some (b, M)) (fun r _ => z r))) : pv_R g κ pv_T pv_RF nL 0 0 Q pc lv st0 M (pv_cap x z) := by
  cases x with
  | none => exact rw_none
  | some b => exact h b rfl
theorem rw_callVP {i : Nat} {y : MethodName} {c2 : ByteArray} {n2 : Nat} {r2 : Option FieldType} {n d d2 : Nat} {k0 c nf : Nat} {T : u_T} {As : List Value} {inj : β → Option Value} {x : Option β} {z : β → Option α} (C : pv_Ok g κ nL cc own ret) (hR : g.2.2.2.1 = pv_rm d) (hd : decode cc pc = .ok (.invokevirtual i, 3)) (hw : pv_cv own i y c2 n2 r2 n) (hM : pv_MtP g.2.1 y c2 n2 r2 d2 κ (.ref (κ.1 + k0) :: As) M inj x) (hdd : d2 + 1 ≤ d) (hn2 : n2 ≤ 50) (hk : k0 < pv_T) (hs : pv_SH k0 = (c + 3, nf)) (hc : pv_cl[c]? = some (y.cls, T, nf)) (hA : As.length = n) (hst : ((st.map fun v => v.category).sum ≤ 8)) {st0 : List Value} (h0 : st0 = As.reverse ++ .ref (κ.1 + k0) :: st)
    (k : ∀ r, pv_R g κ pv_T pv_RF nL 0 0 Q (pc + 3) lv ((inj r).toList ++ st) M (z r)) : pv_R g κ pv_T pv_RF nL 0 0 Q pc lv st0 M (pv_cap x z) := by
  refine pv_pure (fun b hb v hv H locs ls hW hL hl => ?_)
  subst hb
  subst h0
  obtain ⟨w1, w2, w3, w4, w5, w6⟩ := hw
  have hg : GoodIn UW (wsV own i y.cls y (.code y c2 n2 r2 :: UW)) := pv_good (fun w h => by
    rcases List.mem_append.mp h with h | h
    · simp only [List.mem_cons, List.mem_nil_iff, or_false] at h
      rcases h with rfl | rfl | rfl | rfl
      · exact w1
      · exact w2
      · exact w3
      · exact w4
    · exact pv_codeUW w5 w h)
  refine pv_afterP (inj := inj) (q := b) hL hl (va_runV (As := As) (rest := st) ⟨C.1, C.2.1, C.2.2.1, C.2.2.2.1, C.2.2.2.2.1⟩ (hM b rfl) (cwV n C.2.2.2.2.1 hg rfl rfl rfl ⟨rfl, w6⟩ ?_) ⟨pv_blind, pv_recv C hW hk hs hc, pv_preU C hW⟩ rfl hA hl.1 rfl (lv_room hst) hd ?_) hv k
  · rw [hR]
    exact ⟨hdd, by show 8 + (n2 + 11) + 80 * d2 ≤ 80 * d; omega⟩
  · exact ⟨Nat.zero_le _, Nat.zero_le _⟩
theorem rw_callSP {i : Nat} {y : MethodName} {c2 : ByteArray} {n2 : Nat} {r2 : Option FieldType} {n d d2 : Nat} {As : List Value} {inj : β → Option Value} {x : Option β} {z : β → Option α} (C : pv_Ok g κ nL cc own ret) (hR : g.2.2.2.1 = pv_rm d) (hd : decode cc pc = .ok (.invokestatic i, 3)) (hw : pv_cs own i y c2 n2 r2 n) (hM : pv_MtP g.2.1 y c2 n2 r2 d2 κ As M inj x) (hdd : d2 + 1 ≤ d) (hn2 : n2 ≤ 50) (hA : As.length = n) (hst : ((st.map fun v => v.category).sum ≤ 8)) {st0 : List Value} (h0 : st0 = As.reverse ++ st)
    (k : ∀ r, pv_R g κ pv_T pv_RF nL 0 0 Q (pc + 3) lv ((inj r).toList ++ st) M (z r)) : pv_R g κ pv_T pv_RF nL 0 0 Q pc lv st0 M (pv_cap x z) := by
  refine pv_pure (fun b hb v hv H locs ls hW hL hl => ?_)
  subst hb
  subst h0
  obtain ⟨w1, w2, w3, w4, w5⟩ := hw
  have hg : GoodIn UW (va_wsS own i y (.code y c2 n2 r2 :: UW)) := pv_good (fun w h => by
    rcases List.mem_append.mp h with h | h
    · simp only [List.mem_cons, List.mem_nil_iff, or_false] at h
      rcases h with rfl | rfl | rfl
      · exact w1
      · exact w2
      · exact w3
    · exact pv_codeUW w4 w h)
  refine pv_afterP (inj := inj) (q := b) hL hl (va_runS (As := As) (rest := st) ⟨C.1, C.2.1, C.2.2.1, C.2.2.2.1, C.2.2.2.2.1⟩ (hM b rfl) (va_cwS n C.2.2.2.2.1 hg rfl rfl rfl w5 ?_) ⟨pv_blind, pv_preU C hW⟩ rfl hA hl.1 rfl (lv_room hst) hd ?_) hv k
  · rw [hR]
    exact ⟨hdd, by show 8 + (n2 + 11) + 80 * d2 ≤ 80 * d; omega⟩
  · exact ⟨Nat.zero_le _, Nat.zero_le _⟩
theorem rw_callNP {i : Nat} {y : MethodName} {c2 : ByteArray} {n2 : Nat} {r2 : Option FieldType} {n d d2 : Nat} {host : String} {As : List Value} {inj : β → Option Value} {x : Option β} {z : β → Option α} (C : pv_Ok g κ nL cc own ret) (hR : g.2.2.2.1 = pv_rm d) (hd : decode cc pc = .ok (.invokestatic i, 3)) (hw : pv_cn own i y c2 n2 r2 n host) (hM : pv_MtP g.2.1 y c2 n2 r2 d2 κ As M inj x) (hdd : d2 + 1 ≤ d) (hn2 : n2 ≤ 50) (hA : As.length = n) (hst : ((st.map fun v => v.category).sum ≤ 8)) {st0 : List Value} (h0 : st0 = As.reverse ++ st)
    (k : ∀ r, pv_R g κ pv_T pv_RF nL 0 0 Q (pc + 3) lv ((inj r).toList ++ st) M (z r)) : pv_R g κ pv_T pv_RF nL 0 0 Q pc lv st0 M (pv_cap x z) := by
  refine pv_pure (fun b hb v hv H locs ls hW hL hl => ?_)
  subst hb
  subst h0
  obtain ⟨w1, w2, w3, w4, w5⟩ := hw
  refine pv_afterP (inj := inj) (q := b) hL hl (va_runSN (As := As) (rest := st) ⟨C.1, C.2.1, C.2.2.1, C.2.2.2.1, C.2.2.2.2.1⟩ (hM b rfl) ⟨va_cnB n C.2.2.2.2.1 (pv_good (pv_codeUW w4)) rfl rfl rfl (C.2.2.2.2.2.1.2.1 _ w1) (C.2.2.2.2.1 _ w3) w5 ?_, C.2.2.2.2.1 _ w2, trivial⟩ ⟨pv_blind, pv_preU C hW⟩ rfl hA hl.1 rfl (lv_room hst) hd ?_) hv k
  · rw [hR]
    exact ⟨hdd, by show 8 + (n2 + 11) + 80 * d2 ≤ 80 * d; omega⟩
  · exact ⟨Nat.zero_le _, Nat.zero_le _⟩
end PVCP
theorem sh_0 : pv_SH 0 = (8 + 3, 20) := by decide +kernel
theorem sh_1 : pv_SH 1 = (5 + 3, 3) := by decide +kernel
theorem sh_3 : pv_SH 3 = (5 + 3, 3) := by decide +kernel
theorem sh_5 : pv_SH 5 = (5 + 3, 3) := by decide +kernel
theorem sh_7 : pv_SH 7 = (3 + 3, 2) := by decide +kernel
theorem sh_19 : pv_SH 19 = (3 + 3, 2) := by decide +kernel
theorem sh_29 : pv_SH 29 = (3 + 3, 2) := by decide +kernel
theorem sh_39 : pv_SH 39 = (2 + 3, 6) := by decide +kernel
theorem sh_53 : pv_SH 53 = (1 + 3, 7) := by decide +kernel
theorem sh_88 : pv_SH 88 = (1 + 3, 7) := by decide +kernel
theorem sh_123 : pv_SH 123 = (1 + 3, 7) := by decide +kernel
theorem sh_158 : pv_SH 158 = (0 + 3, 13) := by decide +kernel
theorem sh_179 : pv_SH 179 = (7 + 3, 3) := by decide +kernel
theorem sh_183 : pv_SH 183 = (6 + 3, 7) := by decide +kernel
theorem sh_188 : pv_SH 188 = (4 + 3, 3) := by decide +kernel
theorem sh_196 : pv_SH 196 = (9 + 3, 34) := by decide +kernel
def pv_isT (o : Nat) : Bool := o == 1 || o == 3 || o == 5
theorem pv_isT_or {o : Nat} (h : pv_isT o = true) : o = 1 ∨ o = 3 ∨ o = 5 := by
  simpa [pv_isT, or_assoc] using h
theorem pv_isT_lt {o : Nat} (h : pv_isT o = true) : o < pv_T := by
  rcases pv_isT_or h with rfl | rfl | rfl <;> decide
theorem pv_isT_sh {o : Nat} (h : pv_isT o = true) : pv_SH o = (5 + 3, 3) := by
  rcases pv_isT_or h with rfl | rfl | rfl <;> decide +kernel
theorem pv_isT_r1 {o : Nat} (h : pv_isT o = true) : pv_RF o 1 = some (o + 1) := by
  rcases pv_isT_or h with rfl | rfl | rfl <;> rfl
def pv_isW (o : Nat) : Bool := o == 7 || o == 19 || o == 29
theorem pv_isW_or {o : Nat} (h : pv_isW o = true) : o = 7 ∨ o = 19 ∨ o = 29 := by
  simpa [pv_isW, or_assoc] using h
theorem pv_isW_lt {o : Nat} (h : pv_isW o = true) : o < pv_T := by
  rcases pv_isW_or h with rfl | rfl | rfl <;> decide
theorem pv_isW_sh {o : Nat} (h : pv_isW o = true) : pv_SH o = (3 + 3, 2) := by
  rcases pv_isW_or h with rfl | rfl | rfl <;> decide +kernel
theorem pv_isW_r0 {o : Nat} (h : pv_isW o = true) : pv_RF o 0 = some (o + 1) := by
  rcases pv_isW_or h with rfl | rfl | rfl <;> rfl
def pv_isP (o : Nat) : Bool := o == 53 || o == 88 || o == 123
theorem pv_isP_or {o : Nat} (h : pv_isP o = true) : o = 53 ∨ o = 88 ∨ o = 123 := by
  simpa [pv_isP, or_assoc] using h
theorem pv_isP_lt {o : Nat} (h : pv_isP o = true) : o < pv_T := by
  rcases pv_isP_or h with rfl | rfl | rfl <;> decide
theorem pv_isP_sh {o : Nat} (h : pv_isP o = true) : pv_SH o = (1 + 3, 7) := by
  rcases pv_isP_or h with rfl | rfl | rfl <;> decide +kernel
theorem pv_isP_r0 {o : Nat} (h : pv_isP o = true) : pv_RF o 0 = some (39) := by
  rcases pv_isP_or h with rfl | rfl | rfl <;> rfl
theorem pv_isP_r2 {o : Nat} (h : pv_isP o = true) : pv_RF o 2 = some (o + 1) := by
  rcases pv_isP_or h with rfl | rfl | rfl <;> rfl
theorem pv_isP_r3 {o : Nat} (h : pv_isP o = true) : pv_RF o 3 = some (o + 12) := by
  rcases pv_isP_or h with rfl | rfl | rfl <;> rfl
theorem pv_isP_r4 {o : Nat} (h : pv_isP o = true) : pv_RF o 4 = some (o + 23) := by
  rcases pv_isP_or h with rfl | rfl | rfl <;> rfl
theorem pv_isP_r5 {o : Nat} (h : pv_isP o = true) : pv_RF o 5 = some (o + 34) := by
  rcases pv_isP_or h with rfl | rfl | rfl <;> rfl
theorem fl_X0_9 : pv_fl RX0 9 0 1 := ⟨TX0, 13, RX0, rfl, by decide, inlX0, mw_91, nmX0, tyX0_ok, rfl⟩
theorem fl_X0_15 : pv_fl RX0 15 0 2 := ⟨TX0, 13, RX0, rfl, by decide, inlX0, mw_92, nmX0, tyX0_ok, rfl⟩
theorem fl_X0_18 : pv_fl RX0 18 0 3 := ⟨TX0, 13, RX0, rfl, by decide, inlX0, mw_93, nmX0, tyX0_ok, rfl⟩
theorem fl_X0_23 : pv_fl RX0 23 0 4 := ⟨TX0, 13, RX0, rfl, by decide, inlX0, mw_95, nmX0, tyX0_ok, rfl⟩
theorem fl_X0_26 : pv_fl RX0 26 0 5 := ⟨TX0, 13, RX0, rfl, by decide, inlX0, mw_96, nmX0, tyX0_ok, rfl⟩
theorem fl_X0_29 : pv_fl RX0 29 0 6 := ⟨TX0, 13, RX0, rfl, by decide, inlX0, mw_97, nmX0, tyX0_ok, rfl⟩
theorem fl_X0_32 : pv_fl RX0 32 0 7 := ⟨TX0, 13, RX0, rfl, by decide, inlX0, mw_98, nmX0, tyX0_ok, rfl⟩
theorem fl_X0_35 : pv_fl RX0 35 0 8 := ⟨TX0, 13, RX0, rfl, by decide, inlX0, mw_99, nmX0, tyX0_ok, rfl⟩
theorem fl_X0_38 : pv_fl RX0 38 0 9 := ⟨TX0, 13, RX0, rfl, by decide, inlX0, mw_100, nmX0, tyX0_ok, rfl⟩
theorem fl_X0_41 : pv_fl RX0 41 0 10 := ⟨TX0, 13, RX0, rfl, by decide, inlX0, mw_101, nmX0, tyX0_ok, rfl⟩
theorem fl_X0_44 : pv_fl RX0 44 0 0 := ⟨TX0, 13, RX0, rfl, by decide, inlX0, mw_102, nmX0, tyX0_ok, rfl⟩
theorem fl_X0_48 : pv_fl RX0 48 2 1 := ⟨TX2, 6, RX2, rfl, by decide, inlX2, mw_633, nmX2, tyX2_ok, rfl⟩
theorem fl_X0_62 : pv_fl RX0 62 2 0 := ⟨TX2, 6, RX2, rfl, by decide, inlX2, mw_628, nmX2, tyX2_ok, rfl⟩
theorem fl_X0_72 : pv_fl RX0 72 0 11 := ⟨TX0, 13, RX0, rfl, by decide, inlX0, mw_688, nmX0, tyX0_ok, rfl⟩
theorem fl_X0_75 : pv_fl RX0 75 2 2 := ⟨TX2, 6, RX2, rfl, by decide, inlX2, mw_689, nmX2, tyX2_ok, rfl⟩
theorem fl_X0_81 : pv_fl RX0 81 0 12 := ⟨TX0, 13, RX0, rfl, by decide, inlX0, mw_690, nmX0, tyX0_ok, rfl⟩
theorem fl_X1_11 : pv_fl RX1 11 1 2 := ⟨TX1, 7, RX1, rfl, by decide, inlX1, mw_81, nmX1, tyX1_ok, rfl⟩
theorem fl_X1_16 : pv_fl RX1 16 1 3 := ⟨TX1, 7, RX1, rfl, by decide, inlX1, mw_82, nmX1, tyX1_ok, rfl⟩
theorem fl_X1_19 : pv_fl RX1 19 1 4 := ⟨TX1, 7, RX1, rfl, by decide, inlX1, mw_83, nmX1, tyX1_ok, rfl⟩
theorem fl_X1_22 : pv_fl RX1 22 1 5 := ⟨TX1, 7, RX1, rfl, by decide, inlX1, mw_84, nmX1, tyX1_ok, rfl⟩
theorem fl_X1_26 : pv_fl RX1 26 1 0 := ⟨TX1, 7, RX1, rfl, by decide, inlX1, mw_85, nmX1, tyX1_ok, rfl⟩
theorem fl_X1_30 : pv_fl RX1 30 1 1 := ⟨TX1, 7, RX1, rfl, by decide, inlX1, mw_86, nmX1, tyX1_ok, rfl⟩
theorem fl_X1_34 : pv_fl RX1 34 1 6 := ⟨TX1, 7, RX1, rfl, by decide, inlX1, mw_300, nmX1, tyX1_ok, rfl⟩
theorem fl_X1_37 : pv_fl RX1 37 2 2 := ⟨TX2, 6, RX2, rfl, by decide, inlX2, mw_301, nmX2, tyX2_ok, rfl⟩
theorem fl_X1_40 : pv_fl RX1 40 2 0 := ⟨TX2, 6, RX2, rfl, by decide, inlX2, mw_302, nmX2, tyX2_ok, rfl⟩
theorem fl_X1_53 : pv_fl RX1 53 2 1 := ⟨TX2, 6, RX2, rfl, by decide, inlX2, mw_311, nmX2, tyX2_ok, rfl⟩
theorem fl_X2_11 : pv_fl RX2 11 2 3 := ⟨TX2, 6, RX2, rfl, by decide, inlX2, mw_73, nmX2, tyX2_ok, rfl⟩
theorem fl_X2_16 : pv_fl RX2 16 2 4 := ⟨TX2, 6, RX2, rfl, by decide, inlX2, mw_74, nmX2, tyX2_ok, rfl⟩
theorem fl_X2_20 : pv_fl RX2 20 2 5 := ⟨TX2, 6, RX2, rfl, by decide, inlX2, mw_75, nmX2, tyX2_ok, rfl⟩
theorem fl_X2_23 : pv_fl RX2 23 2 2 := ⟨TX2, 6, RX2, rfl, by decide, inlX2, mw_266, nmX2, tyX2_ok, rfl⟩
theorem fl_X2_33 : pv_fl RX2 33 2 0 := ⟨TX2, 6, RX2, rfl, by decide, inlX2, mw_267, nmX2, tyX2_ok, rfl⟩
theorem fl_X2_36 : pv_fl RX2 36 2 1 := ⟨TX2, 6, RX2, rfl, by decide, inlX2, mw_268, nmX2, tyX2_ok, rfl⟩
theorem fl_X2_55 : pv_fl RX2 55 3 1 := ⟨TX3, 2, RX3, rfl, by decide, inlX3, mw_290, nmX3, tyX3_ok, rfl⟩
theorem fl_X2_60 : pv_fl RX2 60 3 0 := ⟨TX3, 2, RX3, rfl, by decide, inlX3, mw_291, nmX3, tyX3_ok, rfl⟩
theorem fl_X3_9 : pv_fl RX3 9 3 0 := ⟨TX3, 2, RX3, rfl, by decide, inlX3, mw_68, nmX3, tyX3_ok, rfl⟩
theorem fl_X3_14 : pv_fl RX3 14 3 1 := ⟨TX3, 2, RX3, rfl, by decide, inlX3, mw_437, nmX3, tyX3_ok, rfl⟩
theorem fl_X4_11 : pv_fl RX4 11 4 0 := ⟨TX4, 3, RX4, rfl, by decide, inlX4, mw_128, nmX4, tyX4_ok, rfl⟩
theorem fl_X4_15 : pv_fl RX4 15 4 1 := ⟨TX4, 3, RX4, rfl, by decide, inlX4, mw_129, nmX4, tyX4_ok, rfl⟩
theorem fl_X4_20 : pv_fl RX4 20 4 2 := ⟨TX4, 3, RX4, rfl, by decide, inlX4, mw_131, nmX4, tyX4_ok, rfl⟩
theorem fl_X5_9 : pv_fl RX5 9 5 0 := ⟨TX5, 3, RX5, rfl, by decide, inlX5, mw_61, nmX5, tyX5_ok, rfl⟩
theorem fl_X5_15 : pv_fl RX5 15 5 1 := ⟨TX5, 3, RX5, rfl, by decide, inlX5, mw_62, nmX5, tyX5_ok, rfl⟩
theorem fl_X5_19 : pv_fl RX5 19 5 2 := ⟨TX5, 3, RX5, rfl, by decide, inlX5, mw_182, nmX5, tyX5_ok, rfl⟩
theorem fl_X6_9 : pv_fl RX6 9 6 0 := ⟨TX6, 7, RX6, rfl, by decide, inlX6, mw_114, nmX6, tyX6_ok, rfl⟩
theorem fl_X6_15 : pv_fl RX6 15 6 1 := ⟨TX6, 7, RX6, rfl, by decide, inlX6, mw_115, nmX6, tyX6_ok, rfl⟩
theorem fl_X6_18 : pv_fl RX6 18 6 3 := ⟨TX6, 7, RX6, rfl, by decide, inlX6, mw_116, nmX6, tyX6_ok, rfl⟩
theorem fl_X6_22 : pv_fl RX6 22 6 4 := ⟨TX6, 7, RX6, rfl, by decide, inlX6, mw_117, nmX6, tyX6_ok, rfl⟩
theorem fl_X6_25 : pv_fl RX6 25 6 5 := ⟨TX6, 7, RX6, rfl, by decide, inlX6, mw_118, nmX6, tyX6_ok, rfl⟩
theorem fl_X6_28 : pv_fl RX6 28 6 6 := ⟨TX6, 7, RX6, rfl, by decide, inlX6, mw_119, nmX6, tyX6_ok, rfl⟩
theorem fl_X6_41 : pv_fl RX6 41 6 2 := ⟨TX6, 7, RX6, rfl, by decide, inlX6, mw_916, nmX6, tyX6_ok, rfl⟩
theorem fl_X7_11 : pv_fl RX7 11 7 0 := ⟨TX7, 3, RX7, rfl, by decide, inlX7, mw_106, nmX7, tyX7_ok, rfl⟩
theorem fl_X7_15 : pv_fl RX7 15 7 1 := ⟨TX7, 3, RX7, rfl, by decide, inlX7, mw_108, nmX7, tyX7_ok, rfl⟩
theorem fl_X7_19 : pv_fl RX7 19 7 2 := ⟨TX7, 3, RX7, rfl, by decide, inlX7, mw_109, nmX7, tyX7_ok, rfl⟩
theorem fl_X8_14 : pv_fl RX8 14 8 0 := ⟨TX8, 20, RX8, rfl, by decide, inlX8, mw_15, nmX8, tyX8_ok, rfl⟩
theorem fl_X8_18 : pv_fl RX8 18 8 1 := ⟨TX8, 20, RX8, rfl, by decide, inlX8, mw_16, nmX8, tyX8_ok, rfl⟩
theorem fl_X8_23 : pv_fl RX8 23 8 2 := ⟨TX8, 20, RX8, rfl, by decide, inlX8, mw_17, nmX8, tyX8_ok, rfl⟩
theorem fl_X8_29 : pv_fl RX8 29 8 3 := ⟨TX8, 20, RX8, rfl, by decide, inlX8, mw_21, nmX8, tyX8_ok, rfl⟩
theorem fl_X8_33 : pv_fl RX8 33 8 4 := ⟨TX8, 20, RX8, rfl, by decide, inlX8, mw_22, nmX8, tyX8_ok, rfl⟩
theorem fl_X8_36 : pv_fl RX8 36 8 5 := ⟨TX8, 20, RX8, rfl, by decide, inlX8, mw_23, nmX8, tyX8_ok, rfl⟩
theorem fl_X8_39 : pv_fl RX8 39 8 6 := ⟨TX8, 20, RX8, rfl, by decide, inlX8, mw_25, nmX8, tyX8_ok, rfl⟩
theorem fl_X8_43 : pv_fl RX8 43 8 7 := ⟨TX8, 20, RX8, rfl, by decide, inlX8, mw_26, nmX8, tyX8_ok, rfl⟩
theorem fl_X8_49 : pv_fl RX8 49 8 8 := ⟨TX8, 20, RX8, rfl, by decide, inlX8, mw_30, nmX8, tyX8_ok, rfl⟩
theorem fl_X8_58 : pv_fl RX8 58 8 9 := ⟨TX8, 20, RX8, rfl, by decide, inlX8, mw_34, nmX8, tyX8_ok, rfl⟩
theorem fl_X8_62 : pv_fl RX8 62 8 10 := ⟨TX8, 20, RX8, rfl, by decide, inlX8, mw_35, nmX8, tyX8_ok, rfl⟩
theorem fl_X8_65 : pv_fl RX8 65 8 11 := ⟨TX8, 20, RX8, rfl, by decide, inlX8, mw_36, nmX8, tyX8_ok, rfl⟩
theorem fl_X8_73 : pv_fl RX8 73 8 12 := ⟨TX8, 20, RX8, rfl, by decide, inlX8, mw_40, nmX8, tyX8_ok, rfl⟩
theorem fl_X8_78 : pv_fl RX8 78 8 13 := ⟨TX8, 20, RX8, rfl, by decide, inlX8, mw_44, nmX8, tyX8_ok, rfl⟩
theorem fl_X8_85 : pv_fl RX8 85 8 14 := ⟨TX8, 20, RX8, rfl, by decide, inlX8, mw_48, nmX8, tyX8_ok, rfl⟩
theorem fl_X8_92 : pv_fl RX8 92 8 15 := ⟨TX8, 20, RX8, rfl, by decide, inlX8, mw_52, nmX8, tyX8_ok, rfl⟩
theorem fl_X8_96 : pv_fl RX8 96 8 16 := ⟨TX8, 20, RX8, rfl, by decide, inlX8, mw_53, nmX8, tyX8_ok, rfl⟩
theorem fl_X8_100 : pv_fl RX8 100 8 17 := ⟨TX8, 20, RX8, rfl, by decide, inlX8, mw_54, nmX8, tyX8_ok, rfl⟩
theorem fl_X8_103 : pv_fl RX8 103 8 18 := ⟨TX8, 20, RX8, rfl, by decide, inlX8, mw_55, nmX8, tyX8_ok, rfl⟩
theorem fl_X8_106 : pv_fl RX8 106 8 19 := ⟨TX8, 20, RX8, rfl, by decide, inlX8, mw_56, nmX8, tyX8_ok, rfl⟩
theorem fl_X8_136 : pv_fl RX8 136 5 2 := ⟨TX5, 3, RX5, rfl, by decide, inlX5, mw_167, nmX5, tyX5_ok, rfl⟩
theorem fl_X8_182 : pv_fl RX8 182 3 1 := ⟨TX3, 2, RX3, rfl, by decide, inlX3, mw_432, nmX3, tyX3_ok, rfl⟩
theorem fl_X8_207 : pv_fl RX8 207 3 0 := ⟨TX3, 2, RX3, rfl, by decide, inlX3, mw_562, nmX3, tyX3_ok, rfl⟩
theorem fl_X8_215 : pv_fl RX8 215 2 0 := ⟨TX2, 6, RX2, rfl, by decide, inlX2, mw_346, nmX2, tyX2_ok, rfl⟩
theorem fl_X8_267 : pv_fl RX8 267 6 0 := ⟨TX6, 7, RX6, rfl, by decide, inlX6, mw_910, nmX6, tyX6_ok, rfl⟩
theorem fl_X8_270 : pv_fl RX8 270 6 1 := ⟨TX6, 7, RX6, rfl, by decide, inlX6, mw_911, nmX6, tyX6_ok, rfl⟩
theorem fl_X8_292 : pv_fl RX8 292 4 1 := ⟨TX4, 3, RX4, rfl, by decide, inlX4, mw_1010, nmX4, tyX4_ok, rfl⟩
theorem fl_X8_305 : pv_fl RX8 305 4 2 := ⟨TX4, 3, RX4, rfl, by decide, inlX4, mw_1052, nmX4, tyX4_ok, rfl⟩
theorem fl_X8_308 : pv_fl RX8 308 4 0 := ⟨TX4, 3, RX4, rfl, by decide, inlX4, mw_1062, nmX4, tyX4_ok, rfl⟩
theorem fl_X8_407 : pv_fl RX8 407 2 1 := ⟨TX2, 6, RX2, rfl, by decide, inlX2, mw_387, nmX2, tyX2_ok, rfl⟩
theorem fl_X9_7 : pv_fl RX9 7 9 0 := ⟨TX9, 34, RX9, rfl, by decide, inlX9, mw_138, nmX9, tyX9_ok, rfl⟩
theorem fl_X9_13 : pv_fl RX9 13 9 1 := ⟨TX9, 34, RX9, rfl, by decide, inlX9, mw_139, nmX9, tyX9_ok, rfl⟩
theorem fl_X9_16 : pv_fl RX9 16 9 2 := ⟨TX9, 34, RX9, rfl, by decide, inlX9, mw_140, nmX9, tyX9_ok, rfl⟩
theorem fl_X9_19 : pv_fl RX9 19 9 3 := ⟨TX9, 34, RX9, rfl, by decide, inlX9, mw_141, nmX9, tyX9_ok, rfl⟩
theorem fl_X9_22 : pv_fl RX9 22 9 5 := ⟨TX9, 34, RX9, rfl, by decide, inlX9, mw_142, nmX9, tyX9_ok, rfl⟩
theorem fl_X9_25 : pv_fl RX9 25 9 6 := ⟨TX9, 34, RX9, rfl, by decide, inlX9, mw_143, nmX9, tyX9_ok, rfl⟩
theorem fl_X9_28 : pv_fl RX9 28 9 8 := ⟨TX9, 34, RX9, rfl, by decide, inlX9, mw_144, nmX9, tyX9_ok, rfl⟩
theorem fl_X9_31 : pv_fl RX9 31 9 9 := ⟨TX9, 34, RX9, rfl, by decide, inlX9, mw_145, nmX9, tyX9_ok, rfl⟩
theorem fl_X9_34 : pv_fl RX9 34 9 10 := ⟨TX9, 34, RX9, rfl, by decide, inlX9, mw_146, nmX9, tyX9_ok, rfl⟩
theorem fl_X9_37 : pv_fl RX9 37 9 11 := ⟨TX9, 34, RX9, rfl, by decide, inlX9, mw_147, nmX9, tyX9_ok, rfl⟩
theorem fl_X9_40 : pv_fl RX9 40 9 13 := ⟨TX9, 34, RX9, rfl, by decide, inlX9, mw_148, nmX9, tyX9_ok, rfl⟩
theorem fl_X9_43 : pv_fl RX9 43 9 14 := ⟨TX9, 34, RX9, rfl, by decide, inlX9, mw_149, nmX9, tyX9_ok, rfl⟩
theorem fl_X9_46 : pv_fl RX9 46 9 15 := ⟨TX9, 34, RX9, rfl, by decide, inlX9, mw_150, nmX9, tyX9_ok, rfl⟩
theorem fl_X9_49 : pv_fl RX9 49 9 16 := ⟨TX9, 34, RX9, rfl, by decide, inlX9, mw_151, nmX9, tyX9_ok, rfl⟩
theorem fl_X9_52 : pv_fl RX9 52 9 18 := ⟨TX9, 34, RX9, rfl, by decide, inlX9, mw_152, nmX9, tyX9_ok, rfl⟩
theorem fl_X9_55 : pv_fl RX9 55 9 19 := ⟨TX9, 34, RX9, rfl, by decide, inlX9, mw_153, nmX9, tyX9_ok, rfl⟩
theorem fl_X9_58 : pv_fl RX9 58 9 20 := ⟨TX9, 34, RX9, rfl, by decide, inlX9, mw_154, nmX9, tyX9_ok, rfl⟩
theorem fl_X9_61 : pv_fl RX9 61 9 21 := ⟨TX9, 34, RX9, rfl, by decide, inlX9, mw_155, nmX9, tyX9_ok, rfl⟩
theorem fl_X9_64 : pv_fl RX9 64 9 22 := ⟨TX9, 34, RX9, rfl, by decide, inlX9, mw_156, nmX9, tyX9_ok, rfl⟩
theorem fl_X9_67 : pv_fl RX9 67 9 23 := ⟨TX9, 34, RX9, rfl, by decide, inlX9, mw_157, nmX9, tyX9_ok, rfl⟩
theorem fl_X9_70 : pv_fl RX9 70 9 24 := ⟨TX9, 34, RX9, rfl, by decide, inlX9, mw_158, nmX9, tyX9_ok, rfl⟩
theorem fl_X9_74 : pv_fl RX9 74 9 25 := ⟨TX9, 34, RX9, rfl, by decide, inlX9, mw_159, nmX9, tyX9_ok, rfl⟩
theorem fl_X9_77 : pv_fl RX9 77 9 27 := ⟨TX9, 34, RX9, rfl, by decide, inlX9, mw_160, nmX9, tyX9_ok, rfl⟩
theorem fl_X9_80 : pv_fl RX9 80 9 28 := ⟨TX9, 34, RX9, rfl, by decide, inlX9, mw_161, nmX9, tyX9_ok, rfl⟩
theorem fl_X9_83 : pv_fl RX9 83 9 33 := ⟨TX9, 34, RX9, rfl, by decide, inlX9, mw_162, nmX9, tyX9_ok, rfl⟩
theorem fl_X9_92 : pv_fl RX9 92 9 4 := ⟨TX9, 34, RX9, rfl, by decide, inlX9, mw_1005, nmX9, tyX9_ok, rfl⟩
theorem fl_X9_122 : pv_fl RX9 122 9 7 := ⟨TX9, 34, RX9, rfl, by decide, inlX9, mw_236, nmX9, tyX9_ok, rfl⟩
theorem fl_X9_171 : pv_fl RX9 171 9 12 := ⟨TX9, 34, RX9, rfl, by decide, inlX9, mw_374, nmX9, tyX9_ok, rfl⟩
theorem fl_X9_217 : pv_fl RX9 217 9 17 := ⟨TX9, 34, RX9, rfl, by decide, inlX9, mw_455, nmX9, tyX9_ok, rfl⟩
theorem fl_X9_284 : pv_fl RX9 284 9 26 := ⟨TX9, 34, RX9, rfl, by decide, inlX9, mw_838, nmX9, tyX9_ok, rfl⟩
theorem fl_X9_316 : pv_fl RX9 316 9 29 := ⟨TX9, 34, RX9, rfl, by decide, inlX9, mw_943, nmX9, tyX9_ok, rfl⟩
theorem fl_X9_319 : pv_fl RX9 319 9 30 := ⟨TX9, 34, RX9, rfl, by decide, inlX9, mw_944, nmX9, tyX9_ok, rfl⟩
theorem fl_X9_322 : pv_fl RX9 322 9 31 := ⟨TX9, 34, RX9, rfl, by decide, inlX9, mw_945, nmX9, tyX9_ok, rfl⟩
theorem fl_X9_336 : pv_fl RX9 336 9 32 := ⟨TX9, 34, RX9, rfl, by decide, inlX9, mw_456, nmX9, tyX9_ok, rfl⟩
theorem ff_X0_11 : pv_fin 0 11 false := fun T n C h => by cases h; rfl
theorem ff_X0_12 : pv_fin 0 12 false := fun T n C h => by cases h; rfl
theorem ff_X1_6 : pv_fin 1 6 false := fun T n C h => by cases h; rfl
theorem ff_X2_0 : pv_fin 2 0 false := fun T n C h => by cases h; rfl
theorem ff_X2_1 : pv_fin 2 1 false := fun T n C h => by cases h; rfl
theorem ff_X2_2 : pv_fin 2 2 false := fun T n C h => by cases h; rfl
theorem ff_X3_1 : pv_fin 3 1 false := fun T n C h => by cases h; rfl
theorem ff_X5_2 : pv_fin 5 2 false := fun T n C h => by cases h; rfl
theorem ff_X6_0 : pv_fin 6 0 false := fun T n C h => by cases h; rfl
theorem ff_X6_1 : pv_fin 6 1 false := fun T n C h => by cases h; rfl
theorem ff_X6_2 : pv_fin 6 2 false := fun T n C h => by cases h; rfl
theorem ff_X8_16 : pv_fin 8 16 false := fun T n C h => by cases h; rfl
theorem ff_X8_17 : pv_fin 8 17 false := fun T n C h => by cases h; rfl
theorem ff_X8_18 : pv_fin 8 18 false := fun T n C h => by cases h; rfl
theorem ff_X8_19 : pv_fin 8 19 false := fun T n C h => by cases h; rfl
theorem ff_X9_4 : pv_fin 9 4 false := fun T n C h => by cases h; rfl
theorem ff_X9_7 : pv_fin 9 7 false := fun T n C h => by cases h; rfl
theorem ff_X9_12 : pv_fin 9 12 false := fun T n C h => by cases h; rfl
theorem ff_X9_17 : pv_fin 9 17 false := fun T n C h => by cases h; rfl
theorem ff_X9_26 : pv_fin 9 26 false := fun T n C h => by cases h; rfl
theorem ff_X9_29 : pv_fin 9 29 false := fun T n C h => by cases h; rfl
theorem ff_X9_30 : pv_fin 9 30 false := fun T n C h => by cases h; rfl
theorem ff_X9_31 : pv_fin 9 31 false := fun T n C h => by cases h; rfl
theorem ff_X9_32 : pv_fin 9 32 false := fun T n C h => by cases h; rfl
theorem cv_L_13 : pv_cv RL 13 yX8_type cX8_type 4 (some .int) 2 := ⟨mw_163, mw_164, mw_165, mw_2, mw_166, ⟨by decide +kernel, by decide +kernel, by decide +kernel⟩⟩
theorem cv_L_17 : pv_cv RL 17 yX9_type cX9_type 3 (some .int) 2 := ⟨mw_188, mw_189, mw_190, mw_5, mw_191, ⟨by decide +kernel, by decide +kernel, by decide +kernel⟩⟩
theorem cv_L_18 : pv_cv RL 18 yX8_wipe cX8_wipe 4 (some .int) 1 := ⟨mw_200, mw_201, mw_202, mw_2, mw_203, ⟨by decide +kernel, by decide +kernel, by decide +kernel⟩⟩
theorem cv_L_22 : pv_cv RL 22 yX9_wipe cX9_wipe 3 (some .int) 1 := ⟨mw_204, mw_205, mw_206, mw_5, mw_207, ⟨by decide +kernel, by decide +kernel, by decide +kernel⟩⟩
theorem cv_L_23 : pv_cv RL 23 yX8_undo cX8_undo 3 (some .int) 1 := ⟨mw_208, mw_209, mw_210, mw_2, mw_211, ⟨by decide +kernel, by decide +kernel, by decide +kernel⟩⟩
theorem cv_L_26 : pv_cv RL 26 yX9_undo cX9_undo 2 (some .int) 1 := ⟨mw_212, mw_213, mw_214, mw_5, mw_215, ⟨by decide +kernel, by decide +kernel, by decide +kernel⟩⟩
theorem cv_L_27 : pv_cv RL 27 yX8_fault cX8_fault 2 (some .int) 1 := ⟨mw_216, mw_217, mw_218, mw_2, mw_219, ⟨by decide +kernel, by decide +kernel, by decide +kernel⟩⟩
theorem cv_L_30 : pv_cv RL 30 yX9_fault cX9_fault 2 (some .int) 1 := ⟨mw_228, mw_229, mw_230, mw_5, mw_231, ⟨by decide +kernel, by decide +kernel, by decide +kernel⟩⟩
theorem cv_L_31 : pv_cv RL 31 yX8_ticket cX8_ticket 4 (some .int) 3 := ⟨mw_254, mw_255, mw_256, mw_2, mw_257, ⟨by decide +kernel, by decide +kernel, by decide +kernel⟩⟩
theorem cv_L_35 : pv_cv RL 35 yX9_ticket cX9_ticket 4 (some .int) 3 := ⟨mw_351, mw_352, mw_353, mw_5, mw_354, ⟨by decide +kernel, by decide +kernel, by decide +kernel⟩⟩
theorem cv_L_36 : pv_cv RL 36 yX8_voter cX8_voter 3 (some .int) 2 := ⟨mw_375, mw_376, mw_377, mw_2, mw_378, ⟨by decide +kernel, by decide +kernel, by decide +kernel⟩⟩
theorem cv_L_39 : pv_cv RL 39 yX9_voter cX9_voter 3 (some .int) 2 := ⟨mw_393, mw_394, mw_395, mw_5, mw_396, ⟨by decide +kernel, by decide +kernel, by decide +kernel⟩⟩
theorem cv_L_40 : pv_cv RL 40 yX8_set cX8_set 4 (some .int) 2 := ⟨mw_401, mw_402, mw_403, mw_2, mw_404, ⟨by decide +kernel, by decide +kernel, by decide +kernel⟩⟩
theorem cv_L_43 : pv_cv RL 43 yX9_set cX9_set 4 (some .int) 2 := ⟨mw_405, mw_406, mw_407, mw_5, mw_408, ⟨by decide +kernel, by decide +kernel, by decide +kernel⟩⟩
theorem cv_L_44 : pv_cv RL 44 yX8_purse cX8_purse 4 (some .int) 2 := ⟨mw_412, mw_413, mw_414, mw_2, mw_415, ⟨by decide +kernel, by decide +kernel, by decide +kernel⟩⟩
theorem cv_L_47 : pv_cv RL 47 yX9_purse cX9_purse 4 (some .int) 2 := ⟨mw_419, mw_420, mw_421, mw_5, mw_422, ⟨by decide +kernel, by decide +kernel, by decide +kernel⟩⟩
theorem cv_L_48 : pv_cv RL 48 yX8_change cX8_change 6 (some .int) 4 := ⟨mw_428, mw_429, mw_430, mw_2, mw_431, ⟨by decide +kernel, by decide +kernel, by decide +kernel⟩⟩
theorem cv_L_52 : pv_cv RL 52 yX9_change cX9_change 5 (some .int) 4 := ⟨mw_442, mw_443, mw_444, mw_5, mw_445, ⟨by decide +kernel, by decide +kernel, by decide +kernel⟩⟩
theorem cv_L_53 : pv_cv RL 53 yX8_back cX8_back 3 (some .int) 1 := ⟨mw_447, mw_448, mw_449, mw_2, mw_450, ⟨by decide +kernel, by decide +kernel, by decide +kernel⟩⟩
theorem cv_L_56 : pv_cv RL 56 yX9_back cX9_back 3 (some .int) 1 := ⟨mw_451, mw_452, mw_453, mw_5, mw_454, ⟨by decide +kernel, by decide +kernel, by decide +kernel⟩⟩
theorem cv_L_57 : pv_cv RL 57 yX8_elected cX8_elected 3 (some .int) 2 := ⟨mw_457, mw_458, mw_459, mw_2, mw_460, ⟨by decide +kernel, by decide +kernel, by decide +kernel⟩⟩
theorem cv_L_60 : pv_cv RL 60 yX9_elected cX9_elected 3 (some .int) 2 := ⟨mw_465, mw_466, mw_467, mw_5, mw_468, ⟨by decide +kernel, by decide +kernel, by decide +kernel⟩⟩
theorem cv_L_61 : pv_cv RL 61 yX8_great cX8_great 3 (some .int) 2 := ⟨mw_505, mw_506, mw_507, mw_2, mw_508, ⟨by decide +kernel, by decide +kernel, by decide +kernel⟩⟩
theorem cv_L_64 : pv_cv RL 64 yX9_great cX9_great 3 (some .int) 2 := ⟨mw_513, mw_514, mw_515, mw_5, mw_516, ⟨by decide +kernel, by decide +kernel, by decide +kernel⟩⟩
theorem cv_L_65 : pv_cv RL 65 yX8_votes cX8_votes 4 (some .int) 3 := ⟨mw_521, mw_522, mw_523, mw_2, mw_524, ⟨by decide +kernel, by decide +kernel, by decide +kernel⟩⟩
theorem cv_L_68 : pv_cv RL 68 yX9_votes cX9_votes 4 (some .int) 3 := ⟨mw_529, mw_530, mw_531, mw_5, mw_532, ⟨by decide +kernel, by decide +kernel, by decide +kernel⟩⟩
theorem cv_L_69 : pv_cv RL 69 yX8_split cX8_split 4 (some .int) 0 := ⟨mw_533, mw_534, mw_535, mw_2, mw_536, ⟨by decide +kernel, by decide +kernel, by decide +kernel⟩⟩
theorem cv_L_73 : pv_cv RL 73 yX9_split cX9_split 1 (some .int) 0 := ⟨mw_537, mw_538, mw_539, mw_5, mw_540, ⟨by decide +kernel, by decide +kernel, by decide +kernel⟩⟩
theorem cv_L_74 : pv_cv RL 74 yX8_contract cX8_contract 8 (some .int) 6 := ⟨mw_545, mw_546, mw_547, mw_2, mw_548, ⟨by decide +kernel, by decide +kernel, by decide +kernel⟩⟩
theorem cv_L_78 : pv_cv RL 78 yX9_contract cX9_contract 9 (some .int) 6 := ⟨mw_549, mw_550, mw_551, mw_5, mw_552, ⟨by decide +kernel, by decide +kernel, by decide +kernel⟩⟩
theorem cv_L_79 : pv_cv RL 79 yX8_money cX8_money 3 (some .int) 2 := ⟨mw_553, mw_554, mw_555, mw_2, mw_556, ⟨by decide +kernel, by decide +kernel, by decide +kernel⟩⟩
theorem cv_L_82 : pv_cv RL 82 yX9_money cX9_money 3 (some .int) 2 := ⟨mw_571, mw_572, mw_573, mw_5, mw_574, ⟨by decide +kernel, by decide +kernel, by decide +kernel⟩⟩
theorem cv_L_83 : pv_cv RL 83 yX8_ruined cX8_ruined 3 (some .int) 1 := ⟨mw_588, mw_589, mw_590, mw_2, mw_591, ⟨by decide +kernel, by decide +kernel, by decide +kernel⟩⟩
theorem cv_L_86 : pv_cv RL 86 yX9_ruined cX9_ruined 2 (some .int) 1 := ⟨mw_597, mw_598, mw_599, mw_5, mw_600, ⟨by decide +kernel, by decide +kernel, by decide +kernel⟩⟩
theorem cv_L_87 : pv_cv RL 87 yX8_worst cX8_worst 3 (some .int) 1 := ⟨mw_605, mw_606, mw_607, mw_2, mw_608, ⟨by decide +kernel, by decide +kernel, by decide +kernel⟩⟩
theorem cv_L_90 : pv_cv RL 90 yX9_worst cX9_worst 2 (some .int) 1 := ⟨mw_609, mw_610, mw_611, mw_5, mw_612, ⟨by decide +kernel, by decide +kernel, by decide +kernel⟩⟩
theorem cv_L_91 : pv_cv RL 91 yX8_rest cX8_rest 2 (some .int) 1 := ⟨mw_620, mw_621, mw_622, mw_2, mw_623, ⟨by decide +kernel, by decide +kernel, by decide +kernel⟩⟩
theorem cv_L_94 : pv_cv RL 94 yX9_rest cX9_rest 2 (some .int) 1 := ⟨mw_651, mw_652, mw_653, mw_5, mw_654, ⟨by decide +kernel, by decide +kernel, by decide +kernel⟩⟩
theorem cv_L_95 : pv_cv RL 95 yX8_rests cX8_rests 1 (some .int) 0 := ⟨mw_680, mw_681, mw_682, mw_2, mw_683, ⟨by decide +kernel, by decide +kernel, by decide +kernel⟩⟩
theorem cv_L_98 : pv_cv RL 98 yX9_rests cX9_rests 1 (some .int) 0 := ⟨mw_703, mw_704, mw_705, mw_5, mw_706, ⟨by decide +kernel, by decide +kernel, by decide +kernel⟩⟩
theorem cv_L_99 : pv_cv RL 99 yX8_wins cX8_wins 3 (some .int) 2 := ⟨mw_711, mw_712, mw_713, mw_2, mw_714, ⟨by decide +kernel, by decide +kernel, by decide +kernel⟩⟩
theorem cv_L_102 : pv_cv RL 102 yX9_wins cX9_wins 3 (some .int) 2 := ⟨mw_742, mw_743, mw_744, mw_5, mw_745, ⟨by decide +kernel, by decide +kernel, by decide +kernel⟩⟩
theorem cv_L_103 : pv_cv RL 103 yX8_hedge cX8_hedge 2 (some .int) 1 := ⟨mw_758, mw_759, mw_760, mw_2, mw_761, ⟨by decide +kernel, by decide +kernel, by decide +kernel⟩⟩
theorem cv_L_106 : pv_cv RL 106 yX9_hedge cX9_hedge 2 (some .int) 1 := ⟨mw_775, mw_776, mw_777, mw_5, mw_778, ⟨by decide +kernel, by decide +kernel, by decide +kernel⟩⟩
theorem cv_L_107 : pv_cv RL 107 yX8_worth cX8_worth 4 (some .long) 3 := ⟨mw_787, mw_788, mw_789, mw_2, mw_790, ⟨by decide +kernel, by decide +kernel, by decide +kernel⟩⟩
theorem cv_L_111 : pv_cv RL 111 yX9_worth cX9_worth 4 (some .long) 3 := ⟨mw_825, mw_826, mw_827, mw_5, mw_828, ⟨by decide +kernel, by decide +kernel, by decide +kernel⟩⟩
theorem cv_L_112 : pv_cv RL 112 yX8_clash cX8_clash 1 (some .int) 0 := ⟨mw_853, mw_854, mw_855, mw_2, mw_856, ⟨by decide +kernel, by decide +kernel, by decide +kernel⟩⟩
theorem cv_L_115 : pv_cv RL 115 yX9_clash cX9_clash 1 (some .int) 0 := ⟨mw_857, mw_858, mw_859, mw_5, mw_860, ⟨by decide +kernel, by decide +kernel, by decide +kernel⟩⟩
theorem cv_L_116 : pv_cv RL 116 yX8_drop cX8_drop 1 (some .int) 0 := ⟨mw_861, mw_862, mw_863, mw_2, mw_864, ⟨by decide +kernel, by decide +kernel, by decide +kernel⟩⟩
theorem cv_L_119 : pv_cv RL 119 yX9_drop cX9_drop 1 (some .int) 0 := ⟨mw_880, mw_881, mw_882, mw_5, mw_883, ⟨by decide +kernel, by decide +kernel, by decide +kernel⟩⟩
theorem cv_L_120 : pv_cv RL 120 yX8_rate cX8_rate 5 (some .int) 4 := ⟨mw_891, mw_892, mw_893, mw_2, mw_894, ⟨by decide +kernel, by decide +kernel, by decide +kernel⟩⟩
theorem cv_L_123 : pv_cv RL 123 yX9_rate cX9_rate 7 (some .int) 4 := ⟨mw_902, mw_903, mw_904, mw_5, mw_905, ⟨by decide +kernel, by decide +kernel, by decide +kernel⟩⟩
theorem cv_L_124 : pv_cv RL 124 yX8_round cX8_round 2 (some .int) 1 := ⟨mw_906, mw_907, mw_908, mw_2, mw_909, ⟨by decide +kernel, by decide +kernel, by decide +kernel⟩⟩
theorem cv_L_127 : pv_cv RL 127 yX9_round cX9_round 2 (some .int) 1 := ⟨mw_934, mw_935, mw_936, mw_5, mw_937, ⟨by decide +kernel, by decide +kernel, by decide +kernel⟩⟩
theorem cv_L_128 : pv_cv RL 128 yX8_bill cX8_bill 5 (some .int) 3 := ⟨mw_956, mw_957, mw_958, mw_2, mw_959, ⟨by decide +kernel, by decide +kernel, by decide +kernel⟩⟩
theorem cv_L_131 : pv_cv RL 131 yX9_bill cX9_bill 4 (some .int) 3 := ⟨mw_960, mw_961, mw_962, mw_5, mw_963, ⟨by decide +kernel, by decide +kernel, by decide +kernel⟩⟩
theorem cv_L_132 : pv_cv RL 132 yX8_years cX8_years 7 (some .int) 0 := ⟨mw_964, mw_965, mw_966, mw_2, mw_967, ⟨by decide +kernel, by decide +kernel, by decide +kernel⟩⟩
theorem cv_L_135 : pv_cv RL 135 yX9_years cX9_years 1 (some .int) 0 := ⟨mw_968, mw_969, mw_970, mw_5, mw_971, ⟨by decide +kernel, by decide +kernel, by decide +kernel⟩⟩
theorem cv_L_136 : pv_cv RL 136 yX8_sheet cX8_sheet 4 (some .int) 3 := ⟨mw_976, mw_977, mw_978, mw_2, mw_979, ⟨by decide +kernel, by decide +kernel, by decide +kernel⟩⟩
theorem cv_L_139 : pv_cv RL 139 yX9_sheet cX9_sheet 5 (some .int) 3 := ⟨mw_994, mw_995, mw_996, mw_5, mw_997, ⟨by decide +kernel, by decide +kernel, by decide +kernel⟩⟩
theorem cv_L_140 : pv_cv RL 140 yX8_lose cX8_lose 3 (some .int) 1 := ⟨mw_1006, mw_1007, mw_1008, mw_2, mw_1009, ⟨by decide +kernel, by decide +kernel, by decide +kernel⟩⟩
theorem cv_L_143 : pv_cv RL 143 yX9_lose cX9_lose 2 (some .int) 1 := ⟨mw_1019, mw_1020, mw_1021, mw_5, mw_1022, ⟨by decide +kernel, by decide +kernel, by decide +kernel⟩⟩
theorem cv_L_144 : pv_cv RL 144 yX8_lay cX8_lay 6 (some .int) 4 := ⟨mw_1023, mw_1024, mw_1025, mw_2, mw_1026, ⟨by decide +kernel, by decide +kernel, by decide +kernel⟩⟩
theorem cv_L_147 : pv_cv RL 147 yX9_lay cX9_lay 6 (some .int) 4 := ⟨mw_1036, mw_1037, mw_1038, mw_5, mw_1039, ⟨by decide +kernel, by decide +kernel, by decide +kernel⟩⟩
theorem cv_L_148 : pv_cv RL 148 yX8_get cX8_get 5 (some .int) 3 := ⟨mw_1047, mw_1048, mw_1049, mw_2, mw_1050, ⟨by decide +kernel, by decide +kernel, by decide +kernel⟩⟩
theorem cv_L_151 : pv_cv RL 151 yX9_get cX9_get 4 (some .int) 3 := ⟨mw_1053, mw_1054, mw_1055, mw_5, mw_1056, ⟨by decide +kernel, by decide +kernel, by decide +kernel⟩⟩
theorem cv_L_152 : pv_cv RL 152 yX8_copy cX8_copy 6 (some .int) 5 := ⟨mw_1058, mw_1059, mw_1060, mw_2, mw_1061, ⟨by decide +kernel, by decide +kernel, by decide +kernel⟩⟩
theorem cv_L_156 : pv_cv RL 156 yX9_copy cX9_copy 7 (some .int) 5 := ⟨mw_1067, mw_1068, mw_1069, mw_5, mw_1070, ⟨by decide +kernel, by decide +kernel, by decide +kernel⟩⟩
theorem cv_L_157 : pv_cv RL 157 yX8_read cX8_read 5 (some .int) 1 := ⟨mw_1071, mw_1072, mw_1073, mw_2, mw_1074, ⟨by decide +kernel, by decide +kernel, by decide +kernel⟩⟩
theorem cv_L_160 : pv_cv RL 160 yX9_read cX9_read 3 (some .int) 1 := ⟨mw_1078, mw_1079, mw_1080, mw_5, mw_1081, ⟨by decide +kernel, by decide +kernel, by decide +kernel⟩⟩
theorem cv_L_161 : pv_cv RL 161 yX8_write cX8_write 5 (some .int) 2 := ⟨mw_1083, mw_1084, mw_1085, mw_2, mw_1086, ⟨by decide +kernel, by decide +kernel, by decide +kernel⟩⟩
theorem cv_L_164 : pv_cv RL 164 yX9_write cX9_write 5 (some .int) 2 := ⟨mw_1087, mw_1088, mw_1089, mw_5, mw_1090, ⟨by decide +kernel, by decide +kernel, by decide +kernel⟩⟩
theorem cv_L_165 : pv_cv RL 165 yX8_count cX8_count 2 (some .int) 1 := ⟨mw_1091, mw_1092, mw_1093, mw_2, mw_1094, ⟨by decide +kernel, by decide +kernel, by decide +kernel⟩⟩
theorem cv_L_168 : pv_cv RL 168 yX9_count cX9_count 2 (some .int) 1 := ⟨mw_1096, mw_1097, mw_1098, mw_5, mw_1099, ⟨by decide +kernel, by decide +kernel, by decide +kernel⟩⟩
theorem cv_L_169 : pv_cv RL 169 yX8_digest cX8_digest 4 (some .long) 0 := ⟨mw_1100, mw_1101, mw_1102, mw_2, mw_1103, ⟨by decide +kernel, by decide +kernel, by decide +kernel⟩⟩
theorem cv_L_173 : pv_cv RL 173 yX9_digest cX9_digest 7 (some .long) 0 := ⟨mw_1145, mw_1146, mw_1147, mw_5, mw_1148, ⟨by decide +kernel, by decide +kernel, by decide +kernel⟩⟩
theorem cv_X0_54 : pv_cv RX0 54 yX0_players cX0_players 1 (some .int) 0 := ⟨mw_629, mw_630, mw_631, mw_39, mw_632, ⟨by decide +kernel, by decide +kernel, by decide +kernel⟩⟩
theorem cs_X0_58 : pv_cs RX0 58 yX0_toldParty cX0_toldParty 2 (some .int) 2 := ⟨mw_634, mw_635, mw_39, mw_636, ⟨by decide +kernel, by decide +kernel, by decide +kernel⟩⟩
theorem cv_X0_65 : pv_cv RX0 65 yX0_prepare cX0_prepare 2 none 0 := ⟨mw_641, mw_642, mw_643, mw_39, mw_644, ⟨by decide +kernel, by decide +kernel, by decide +kernel⟩⟩
theorem cv_X0_68 : pv_cv RX0 68 yX0_isContent cX0_isContent 7 (some .boolean) 2 := ⟨mw_647, mw_648, mw_649, mw_39, mw_650, ⟨by decide +kernel, by decide +kernel, by decide +kernel⟩⟩
theorem cv_X0_78 : pv_cv RX0 78 yX0_restsOfSpread cX0_restsOfSpread 5 (some .int) 2 := ⟨mw_691, mw_692, mw_693, mw_39, mw_694, ⟨by decide +kernel, by decide +kernel, by decide +kernel⟩⟩
theorem cs_X0_84 : pv_cs RX0 84 yJ7_fill_53178 cJ7_fill_53178 4 none 2 := ⟨mw_645, mw_121, mw_122, mw_123, ⟨by decide +kernel, by decide +kernel, by decide +kernel⟩⟩
theorem cv_X0_90 : pv_cv RX0 90 yX2_fillGains cX2_fillGains 5 none 3 := ⟨mw_646, mw_317, mw_318, mw_29, mw_319, ⟨by decide +kernel, by decide +kernel, by decide +kernel⟩⟩
theorem cv_X0_98 : pv_cv RX0 98 yX0_restsOfSums cX0_restsOfSums 5 (some .int) 0 := ⟨mw_695, mw_696, mw_697, mw_39, mw_698, ⟨by decide +kernel, by decide +kernel, by decide +kernel⟩⟩
theorem cv_X0_101 : pv_cv RX0 101 yX0_rowsFrom cX0_rowsFrom 4 (some .int) 1 := ⟨mw_699, mw_700, mw_701, mw_39, mw_702, ⟨by decide +kernel, by decide +kernel, by decide +kernel⟩⟩
theorem cv_X0_105 : pv_cv RX0 105 yX0_findWin cX0_findWin 5 none 1 := ⟨mw_719, mw_720, mw_721, mw_39, mw_722, ⟨by decide +kernel, by decide +kernel, by decide +kernel⟩⟩
theorem cv_X0_109 : pv_cv RX0 109 yX0_fillSupport cX0_fillSupport 5 none 1 := ⟨mw_723, mw_724, mw_725, mw_39, mw_726, ⟨by decide +kernel, by decide +kernel, by decide +kernel⟩⟩
theorem cv_X0_112 : pv_cv RX0 112 yX0_tryTicket cX0_tryTicket 7 none 4 := ⟨mw_732, mw_733, mw_734, mw_39, mw_735, ⟨by decide +kernel, by decide +kernel, by decide +kernel⟩⟩
theorem cv_X0_116 : pv_cv RX0 116 yX2_owed cX2_owed 2 (some .int) 1 := ⟨mw_727, mw_390, mw_391, mw_29, mw_392, ⟨by decide +kernel, by decide +kernel, by decide +kernel⟩⟩
theorem cv_X0_119 : pv_cv RX0 119 yX2_unitOf cX2_unitOf 2 (some .int) 1 := ⟨mw_728, mw_313, mw_314, mw_29, mw_315, ⟨by decide +kernel, by decide +kernel, by decide +kernel⟩⟩
theorem cs_X0_122 : pv_cs RX0 122 yX0_supportPlace cX0_supportPlace 2 (some .int) 2 := ⟨mw_729, mw_730, mw_39, mw_731, ⟨by decide +kernel, by decide +kernel, by decide +kernel⟩⟩
theorem cv_X0_125 : pv_cv RX0 125 yX2_figure cX2_figure 4 (some .int) 3 := ⟨mw_737, mw_283, mw_284, mw_29, mw_285, ⟨by decide +kernel, by decide +kernel, by decide +kernel⟩⟩
theorem cv_X0_134 : pv_cv RX0 134 yX0_fillOdds cX0_fillOdds 4 none 1 := ⟨mw_766, mw_767, mw_768, mw_39, mw_769, ⟨by decide +kernel, by decide +kernel, by decide +kernel⟩⟩
theorem cv_X0_137 : pv_cv RX0 137 yX0_isEven cX0_isEven 6 (some .boolean) 3 := ⟨mw_771, mw_772, mw_773, mw_39, mw_774, ⟨by decide +kernel, by decide +kernel, by decide +kernel⟩⟩
theorem cv_X0_141 : pv_cv RX0 141 yX2_gain cX2_gain 4 (some .int) 3 := ⟨mw_770, mw_321, mw_322, mw_29, mw_323, ⟨by decide +kernel, by decide +kernel, by decide +kernel⟩⟩
theorem cv_X1_43 : pv_cv RX1 43 yX1_leaveOpen cX1_leaveOpen 3 none 2 := ⟨mw_303, mw_304, mw_305, mw_33, mw_306, ⟨by decide +kernel, by decide +kernel, by decide +kernel⟩⟩
theorem cv_X1_47 : pv_cv RX1 47 yX1_hold cX1_hold 7 none 2 := ⟨mw_307, mw_308, mw_309, mw_33, mw_310, ⟨by decide +kernel, by decide +kernel, by decide +kernel⟩⟩
theorem cv_X1_50 : pv_cv RX1 50 yX1_repeatFirst cX1_repeatFirst 3 none 2 := ⟨mw_331, mw_332, mw_333, mw_33, mw_334, ⟨by decide +kernel, by decide +kernel, by decide +kernel⟩⟩
theorem cv_X1_56 : pv_cv RX1 56 yX2_unitOf cX2_unitOf 2 (some .int) 1 := ⟨mw_312, mw_313, mw_314, mw_29, mw_315, ⟨by decide +kernel, by decide +kernel, by decide +kernel⟩⟩
theorem cv_X1_60 : pv_cv RX1 60 yX2_fillGains cX2_fillGains 5 none 3 := ⟨mw_316, mw_317, mw_318, mw_29, mw_319, ⟨by decide +kernel, by decide +kernel, by decide +kernel⟩⟩
theorem cv_X1_64 : pv_cv RX1 64 yX1_approve cX1_approve 6 none 2 := ⟨mw_324, mw_325, mw_326, mw_33, mw_327, ⟨by decide +kernel, by decide +kernel, by decide +kernel⟩⟩
theorem cv_X1_72 : pv_cv RX1 72 yX2_figure cX2_figure 4 (some .int) 3 := ⟨mw_330, mw_283, mw_284, mw_29, mw_285, ⟨by decide +kernel, by decide +kernel, by decide +kernel⟩⟩
theorem cv_X2_27 : pv_cv RX2 27 yX5_items cX5_items 1 (some .int) 0 := ⟨mw_269, mw_270, mw_271, mw_14, mw_272, ⟨by decide +kernel, by decide +kernel, by decide +kernel⟩⟩
theorem cv_X2_39 : pv_cv RX2 39 yX5_byteOf cX5_byteOf 3 (some .int) 2 := ⟨mw_274, mw_275, mw_276, mw_14, mw_277, ⟨by decide +kernel, by decide +kernel, by decide +kernel⟩⟩
theorem cv_X2_43 : pv_cv RX2 43 yX2_carry cX2_carry 5 none 2 := ⟨mw_278, mw_279, mw_280, mw_29, mw_281, ⟨by decide +kernel, by decide +kernel, by decide +kernel⟩⟩
theorem cv_X2_47 : pv_cv RX2 47 yX2_alter cX2_alter 5 none 2 := ⟨mw_286, mw_287, mw_288, mw_29, mw_289, ⟨by decide +kernel, by decide +kernel, by decide +kernel⟩⟩
theorem cv_X2_51 : pv_cv RX2 51 yX2_figure cX2_figure 4 (some .int) 3 := ⟨mw_282, mw_283, mw_284, mw_29, mw_285, ⟨by decide +kernel, by decide +kernel, by decide +kernel⟩⟩
theorem cv_X2_63 : pv_cv RX2 63 yX2_gain cX2_gain 4 (some .int) 3 := ⟨mw_320, mw_321, mw_322, mw_29, mw_323, ⟨by decide +kernel, by decide +kernel, by decide +kernel⟩⟩
theorem cs_X4_23 : pv_cs RX4 23 yJ7_fill_53178 cJ7_fill_53178 4 none 2 := ⟨mw_132, mw_121, mw_122, mw_123, ⟨by decide +kernel, by decide +kernel, by decide +kernel⟩⟩
theorem cv_X4_33 : pv_cv RX4 33 yX4_isLost cX4_isLost 2 (some .boolean) 1 := ⟨mw_1031, mw_1012, mw_1013, mw_51, mw_1014, ⟨by decide +kernel, by decide +kernel, by decide +kernel⟩⟩
theorem cv_X5_22 : pv_cv RX5 22 yX5_isFull cX5_isFull 1 (some .boolean) 0 := ⟨mw_187, mw_179, mw_180, mw_14, mw_181, ⟨by decide +kernel, by decide +kernel, by decide +kernel⟩⟩
theorem cv_X5_26 : pv_cv RX5 26 yX5_fits cX5_fits 4 (some .boolean) 1 := ⟨mw_224, mw_225, mw_226, mw_14, mw_227, ⟨by decide +kernel, by decide +kernel, by decide +kernel⟩⟩
theorem cv_X5_30 : pv_cv RX5 30 yX5_faultPlace cX5_faultPlace 2 (some .int) 0 := ⟨mw_273, mw_221, mw_222, mw_14, mw_223, ⟨by decide +kernel, by decide +kernel, by decide +kernel⟩⟩
theorem cs_X6_31 : pv_cs RX6 31 yJ7_fill_53178 cJ7_fill_53178 4 none 2 := ⟨mw_120, mw_121, mw_122, mw_123, ⟨by decide +kernel, by decide +kernel, by decide +kernel⟩⟩
theorem cv_X6_44 : pv_cv RX6 44 yX6_goOn cX6_goOn 7 none 4 := ⟨mw_917, mw_918, mw_919, mw_47, mw_920, ⟨by decide +kernel, by decide +kernel, by decide +kernel⟩⟩
theorem cv_X6_52 : pv_cv RX6 52 yX6_comeBack cX6_comeBack 4 none 3 := ⟨mw_921, mw_922, mw_923, mw_47, mw_924, ⟨by decide +kernel, by decide +kernel, by decide +kernel⟩⟩
theorem cv_X6_56 : pv_cv RX6 56 yX6_isOnWay cX6_isOnWay 4 (some .boolean) 2 := ⟨mw_926, mw_927, mw_928, mw_47, mw_929, ⟨by decide +kernel, by decide +kernel, by decide +kernel⟩⟩
theorem cv_X7_26 : pv_cv RX7 26 yX5_items cX5_items 1 (some .int) 0 := ⟨mw_800, mw_270, mw_271, mw_14, mw_272, ⟨by decide +kernel, by decide +kernel, by decide +kernel⟩⟩
theorem cv_X7_32 : pv_cv RX7 32 yX7_startAnew cX7_startAnew 2 none 0 := ⟨mw_801, mw_802, mw_803, mw_43, mw_804, ⟨by decide +kernel, by decide +kernel, by decide +kernel⟩⟩
theorem cv_X7_35 : pv_cv RX7 35 yX7_takes cX7_takes 7 (some .boolean) 2 := ⟨mw_805, mw_806, mw_807, mw_43, mw_808, ⟨by decide +kernel, by decide +kernel, by decide +kernel⟩⟩
theorem cs_X7_39 : pv_cs RX7 39 yJ6_bitCount_0f7a4 cJ6_bitCount_0f7a4 1 (some .int) 1 := ⟨mw_869, mw_870, mw_871, mw_872, ⟨by decide +kernel, by decide +kernel, by decide +kernel⟩⟩
theorem cv_X7_45 : pv_cv RX7 45 yX7_agreesWithout cX7_agreesWithout 5 (some .boolean) 3 := ⟨mw_876, mw_877, mw_878, mw_43, mw_879, ⟨by decide +kernel, by decide +kernel, by decide +kernel⟩⟩
theorem cv_X7_49 : pv_cv RX7 49 yX5_byteOf cX5_byteOf 3 (some .int) 2 := ⟨mw_809, mw_275, mw_276, mw_14, mw_277, ⟨by decide +kernel, by decide +kernel, by decide +kernel⟩⟩
theorem cv_X7_53 : pv_cv RX7 53 yX7_isTold cX7_isTold 3 (some .boolean) 2 := ⟨mw_810, mw_811, mw_812, mw_43, mw_813, ⟨by decide +kernel, by decide +kernel, by decide +kernel⟩⟩
theorem cv_X7_57 : pv_cv RX7 57 yX7_join cX7_join 17 none 3 := ⟨mw_814, mw_815, mw_816, mw_43, mw_817, ⟨by decide +kernel, by decide +kernel, by decide +kernel⟩⟩
theorem cs_X8_110 : pv_cs RX8 110 yJ7_fill_53178 cJ7_fill_53178 4 none 2 := ⟨mw_133, mw_121, mw_122, mw_123, ⟨by decide +kernel, by decide +kernel, by decide +kernel⟩⟩
theorem cs_X8_116 : pv_cs RX8 116 yX8_isText cX8_isText 1 (some .boolean) 1 := ⟨mw_168, mw_169, mw_2, mw_170, ⟨by decide +kernel, by decide +kernel, by decide +kernel⟩⟩
theorem cs_X8_120 : pv_cs RX8 120 yX8_isWithin cX8_isWithin 3 (some .boolean) 3 := ⟨mw_171, mw_172, mw_2, mw_173, ⟨by decide +kernel, by decide +kernel, by decide +kernel⟩⟩
theorem cv_X8_124 : pv_cv RX8 124 yX8_textOf cX8_textOf 2 (some (.object "PoundVotes$Text")) 1 := ⟨mw_174, mw_175, mw_176, mw_2, mw_177, ⟨by decide +kernel, by decide +kernel, by decide +kernel⟩⟩
theorem cv_X8_128 : pv_cv RX8 128 yX5_isFull cX5_isFull 1 (some .boolean) 0 := ⟨mw_178, mw_179, mw_180, mw_14, mw_181, ⟨by decide +kernel, by decide +kernel, by decide +kernel⟩⟩
theorem cv_X8_132 : pv_cv RX8 132 yX5_append cX5_append 2 none 1 := ⟨mw_183, mw_184, mw_185, mw_14, mw_186, ⟨by decide +kernel, by decide +kernel, by decide +kernel⟩⟩
theorem cv_X8_139 : pv_cv RX8 139 yX5_faultPlace cX5_faultPlace 2 (some .int) 0 := ⟨mw_220, mw_221, mw_222, mw_14, mw_223, ⟨by decide +kernel, by decide +kernel, by decide +kernel⟩⟩
theorem cv_X8_143 : pv_cv RX8 143 yX8_settle cX8_settle 1 none 0 := ⟨mw_258, mw_259, mw_260, mw_2, mw_261, ⟨by decide +kernel, by decide +kernel, by decide +kernel⟩⟩
theorem cs_X8_146 : pv_cs RX8 146 yX8_isYear cX8_isYear 1 (some .boolean) 1 := ⟨mw_339, mw_340, mw_2, mw_341, ⟨by decide +kernel, by decide +kernel, by decide +kernel⟩⟩
theorem cv_X8_149 : pv_cv RX8 149 yX8_isParty cX8_isParty 2 (some .boolean) 1 := ⟨mw_342, mw_343, mw_344, mw_2, mw_345, ⟨by decide +kernel, by decide +kernel, by decide +kernel⟩⟩
theorem cs_X8_152 : pv_cs RX8 152 yX8_isUnit cX8_isUnit 1 (some .boolean) 1 := ⟨mw_347, mw_348, mw_2, mw_349, ⟨by decide +kernel, by decide +kernel, by decide +kernel⟩⟩
theorem cv_X8_155 : pv_cv RX8 155 yX2_figure cX2_figure 4 (some .int) 3 := ⟨mw_350, mw_283, mw_284, mw_29, mw_285, ⟨by decide +kernel, by decide +kernel, by decide +kernel⟩⟩
theorem cv_X8_159 : pv_cv RX8 159 yX8_isOnRoll cX8_isOnRoll 2 (some .boolean) 1 := ⟨mw_383, mw_384, mw_385, mw_2, mw_386, ⟨by decide +kernel, by decide +kernel, by decide +kernel⟩⟩
theorem cv_X8_162 : pv_cv RX8 162 yX2_unitOf cX2_unitOf 2 (some .int) 1 := ⟨mw_388, mw_313, mw_314, mw_29, mw_315, ⟨by decide +kernel, by decide +kernel, by decide +kernel⟩⟩
theorem cv_X8_166 : pv_cv RX8 166 yX2_owed cX2_owed 2 (some .int) 1 := ⟨mw_389, mw_390, mw_391, mw_29, mw_392, ⟨by decide +kernel, by decide +kernel, by decide +kernel⟩⟩
theorem cs_X8_174 : pv_cs RX8 174 yX8_isPerson cX8_isPerson 1 (some .boolean) 1 := ⟨mw_416, mw_417, mw_2, mw_418, ⟨by decide +kernel, by decide +kernel, by decide +kernel⟩⟩
theorem cv_X8_177 : pv_cv RX8 177 yX3_isFull cX3_isFull 1 (some .boolean) 0 := ⟨mw_433, mw_434, mw_435, mw_20, mw_436, ⟨by decide +kernel, by decide +kernel, by decide +kernel⟩⟩
theorem cv_X8_178 : pv_cv RX8 178 yX3_next cX3_next 2 (some (.array .int)) 0 := ⟨mw_438, mw_439, mw_440, mw_20, mw_441, ⟨by decide +kernel, by decide +kernel, by decide +kernel⟩⟩
theorem cv_X8_183 : pv_cv RX8 183 yX8_pollBy cX8_pollBy 2 (some (.object "PoundVotes$Poll")) 1 := ⟨mw_292, mw_293, mw_294, mw_2, mw_295, ⟨by decide +kernel, by decide +kernel, by decide +kernel⟩⟩
theorem cv_X8_187 : pv_cv RX8 187 yX1_winner cX1_winner 3 (some .int) 2 := ⟨mw_461, mw_462, mw_463, mw_33, mw_464, ⟨by decide +kernel, by decide +kernel, by decide +kernel⟩⟩
theorem cv_X8_191 : pv_cv RX8 191 yX1_greatness cX1_greatness 3 (some .int) 2 := ⟨mw_509, mw_510, mw_511, mw_33, mw_512, ⟨by decide +kernel, by decide +kernel, by decide +kernel⟩⟩
theorem cv_X8_194 : pv_cv RX8 194 yX1_tally cX1_tally 4 (some .int) 3 := ⟨mw_525, mw_526, mw_527, mw_33, mw_528, ⟨by decide +kernel, by decide +kernel, by decide +kernel⟩⟩
theorem cv_X8_197 : pv_cv RX8 197 yX1_update cX1_update 3 none 0 := ⟨mw_296, mw_297, mw_298, mw_33, mw_299, ⟨by decide +kernel, by decide +kernel, by decide +kernel⟩⟩
theorem cv_X8_201 : pv_cv RX8 201 yX8_moneyBehind cX8_moneyBehind 6 (some .int) 2 := ⟨mw_558, mw_559, mw_560, mw_2, mw_561, ⟨by decide +kernel, by decide +kernel, by decide +kernel⟩⟩
theorem cv_X8_204 : pv_cv RX8 204 yX8_firstRuin cX8_firstRuin 5 (some .int) 0 := ⟨mw_592, mw_593, mw_594, mw_2, mw_595, ⟨by decide +kernel, by decide +kernel, by decide +kernel⟩⟩
theorem cv_X8_211 : pv_cv RX8 211 yX8_paidBy cX8_paidBy 3 (some .int) 2 := ⟨mw_567, mw_568, mw_569, mw_2, mw_570, ⟨by decide +kernel, by decide +kernel, by decide +kernel⟩⟩
theorem cv_X8_218 : pv_cv RX8 218 yX0_isTold cX0_isTold 4 (some .boolean) 1 := ⟨mw_624, mw_625, mw_626, mw_39, mw_627, ⟨by decide +kernel, by decide +kernel, by decide +kernel⟩⟩
theorem cv_X8_221 : pv_cv RX8 221 yX0_isRest cX0_isRest 4 (some .boolean) 1 := ⟨mw_637, mw_638, mw_639, mw_39, mw_640, ⟨by decide +kernel, by decide +kernel, by decide +kernel⟩⟩
theorem cv_X8_224 : pv_cv RX8 224 yX0_restfulRows cX0_restfulRows 1 (some .int) 0 := ⟨mw_684, mw_685, mw_686, mw_39, mw_687, ⟨by decide +kernel, by decide +kernel, by decide +kernel⟩⟩
theorem cv_X8_227 : pv_cv RX8 227 yX0_winningTicket cX0_winningTicket 2 (some .int) 1 := ⟨mw_715, mw_716, mw_717, mw_39, mw_718, ⟨by decide +kernel, by decide +kernel, by decide +kernel⟩⟩
theorem cv_X8_230 : pv_cv RX8 230 yX0_winningUnlikeness cX0_winningUnlikeness 2 (some .int) 1 := ⟨mw_738, mw_739, mw_740, mw_39, mw_741, ⟨by decide +kernel, by decide +kernel, by decide +kernel⟩⟩
theorem cv_X8_233 : pv_cv RX8 233 yX0_evenHolding cX0_evenHolding 8 (some .int) 1 := ⟨mw_762, mw_763, mw_764, mw_39, mw_765, ⟨by decide +kernel, by decide +kernel, by decide +kernel⟩⟩
theorem cs_X8_236 : pv_cs RX8 236 yX7_isKind cX7_isKind 1 (some .boolean) 1 := ⟨mw_793, mw_794, mw_43, mw_795, ⟨by decide +kernel, by decide +kernel, by decide +kernel⟩⟩
theorem cv_X8_241 : pv_cv RX8 241 yX7_firstClash cX7_firstClash 5 (some .int) 1 := ⟨mw_796, mw_797, mw_798, mw_43, mw_799, ⟨by decide +kernel, by decide +kernel, by decide +kernel⟩⟩
theorem cv_X8_245 : pv_cv RX8 245 yX7_isTold cX7_isTold 3 (some .boolean) 2 := ⟨mw_820, mw_811, mw_812, mw_43, mw_813, ⟨by decide +kernel, by decide +kernel, by decide +kernel⟩⟩
theorem cv_X8_250 : pv_cv RX8 250 yX7_aboveOf cX7_aboveOf 7 (some .long) 2 := ⟨mw_821, mw_822, mw_823, mw_43, mw_824, ⟨by decide +kernel, by decide +kernel, by decide +kernel⟩⟩
theorem cv_X8_254 : pv_cv RX8 254 yX7_fewestDropped cX7_fewestDropped 5 (some .int) 1 := ⟨mw_865, mw_866, mw_867, mw_43, mw_868, ⟨by decide +kernel, by decide +kernel, by decide +kernel⟩⟩
theorem cs_X8_257 : pv_cs RX8 257 yX6_isTown cX6_isTown 1 (some .boolean) 1 := ⟨mw_895, mw_896, mw_47, mw_897, ⟨by decide +kernel, by decide +kernel, by decide +kernel⟩⟩
theorem cv_X8_260 : pv_cv RX8 260 yX6_replaceRate cX6_replaceRate 7 (some .int) 4 := ⟨mw_898, mw_899, mw_900, mw_47, mw_901, ⟨by decide +kernel, by decide +kernel, by decide +kernel⟩⟩
theorem cv_X8_264 : pv_cv RX8 264 yX6_findRound cX6_findRound 3 none 0 := ⟨mw_912, mw_913, mw_914, mw_47, mw_915, ⟨by decide +kernel, by decide +kernel, by decide +kernel⟩⟩
theorem cv_X8_273 : pv_cv RX8 273 yX6_bestTown cX6_bestTown 2 (some .int) 1 := ⟨mw_930, mw_931, mw_932, mw_47, mw_933, ⟨by decide +kernel, by decide +kernel, by decide +kernel⟩⟩
theorem cs_X8_276 : pv_cs RX8 276 yX4_isSheet cX4_isSheet 1 (some .boolean) 1 := ⟨mw_980, mw_981, mw_51, mw_982, ⟨by decide +kernel, by decide +kernel, by decide +kernel⟩⟩
theorem cs_X8_279 : pv_cs RX8 279 yX4_isForm cX4_isForm 1 (some .boolean) 1 := ⟨mw_983, mw_984, mw_51, mw_985, ⟨by decide +kernel, by decide +kernel, by decide +kernel⟩⟩
theorem cv_X8_282 : pv_cv RX8 282 yX8_find cX8_find 2 (some .int) 1 := ⟨mw_986, mw_987, mw_988, mw_2, mw_989, ⟨by decide +kernel, by decide +kernel, by decide +kernel⟩⟩
theorem cv_X8_285 : pv_cv RX8 285 yX4_begin cX4_begin 4 none 3 := ⟨mw_990, mw_991, mw_992, mw_51, mw_993, ⟨by decide +kernel, by decide +kernel, by decide +kernel⟩⟩
theorem cv_X8_289 : pv_cv RX8 289 yX4_isLost cX4_isLost 2 (some .boolean) 1 := ⟨mw_1011, mw_1012, mw_1013, mw_51, mw_1014, ⟨by decide +kernel, by decide +kernel, by decide +kernel⟩⟩
theorem cv_X8_295 : pv_cv RX8 295 yX4_forget cX4_forget 2 none 1 := ⟨mw_1015, mw_1016, mw_1017, mw_51, mw_1018, ⟨by decide +kernel, by decide +kernel, by decide +kernel⟩⟩
theorem cv_X8_298 : pv_cv RX8 298 yX4_accessFinding cX4_accessFinding 4 (some .int) 3 := ⟨mw_1027, mw_1028, mw_1029, mw_51, mw_1030, ⟨by decide +kernel, by decide +kernel, by decide +kernel⟩⟩
theorem cv_X8_301 : pv_cv RX8 301 yX4_store cX4_store 4 none 3 := ⟨mw_1032, mw_1033, mw_1034, mw_51, mw_1035, ⟨by decide +kernel, by decide +kernel, by decide +kernel⟩⟩
theorem cv_X8_311 : pv_cv RX8 311 yX4_hasItems cX4_hasItems 4 (some .boolean) 3 := ⟨mw_1063, mw_1064, mw_1065, mw_51, mw_1066, ⟨by decide +kernel, by decide +kernel, by decide +kernel⟩⟩
theorem cv_X8_323 : pv_cv RX8 323 yX5_items cX5_items 1 (some .int) 0 := ⟨mw_1095, mw_270, mw_271, mw_14, mw_272, ⟨by decide +kernel, by decide +kernel, by decide +kernel⟩⟩
theorem cv_X8_327 : pv_cv RX8 327 yX8_count cX8_count 2 (some .int) 1 := ⟨mw_1105, mw_1092, mw_1093, mw_2, mw_1094, ⟨by decide +kernel, by decide +kernel, by decide +kernel⟩⟩
theorem cs_X8_330 : pv_cs RX8 330 yX8_mix cX8_mix 4 (some .long) 2 := ⟨mw_1106, mw_1107, mw_2, mw_1108, ⟨by decide +kernel, by decide +kernel, by decide +kernel⟩⟩
theorem cv_X8_334 : pv_cv RX8 334 yX8_fault cX8_fault 2 (some .int) 1 := ⟨mw_1110, mw_217, mw_218, mw_2, mw_219, ⟨by decide +kernel, by decide +kernel, by decide +kernel⟩⟩
theorem cv_X8_337 : pv_cv RX8 337 yX8_mixYears cX8_mixYears 11 (some .long) 1 := ⟨mw_1111, mw_1112, mw_1113, mw_2, mw_1114, ⟨by decide +kernel, by decide +kernel, by decide +kernel⟩⟩
theorem cv_X8_341 : pv_cv RX8 341 yX8_mixPeople cX8_mixPeople 6 (some .long) 1 := ⟨mw_1121, mw_1122, mw_1123, mw_2, mw_1124, ⟨by decide +kernel, by decide +kernel, by decide +kernel⟩⟩
theorem cv_X8_344 : pv_cv RX8 344 yX8_mixVotes cX8_mixVotes 6 (some .long) 1 := ⟨mw_1129, mw_1130, mw_1131, mw_2, mw_1132, ⟨by decide +kernel, by decide +kernel, by decide +kernel⟩⟩
theorem cv_X8_347 : pv_cv RX8 347 yX8_mixRatios cX8_mixRatios 6 (some .long) 1 := ⟨mw_1136, mw_1137, mw_1138, mw_2, mw_1139, ⟨by decide +kernel, by decide +kernel, by decide +kernel⟩⟩
theorem cv_X8_350 : pv_cv RX8 350 yX8_round cX8_round 2 (some .int) 1 := ⟨mw_1143, mw_907, mw_908, mw_2, mw_909, ⟨by decide +kernel, by decide +kernel, by decide +kernel⟩⟩
theorem cv_X8_353 : pv_cv RX8 353 yX8_years cX8_years 7 (some .int) 0 := ⟨mw_1144, mw_965, mw_966, mw_2, mw_967, ⟨by decide +kernel, by decide +kernel, by decide +kernel⟩⟩
theorem cv_X8_359 : pv_cv RX8 359 yX8_elected cX8_elected 3 (some .int) 2 := ⟨mw_1116, mw_458, mw_459, mw_2, mw_460, ⟨by decide +kernel, by decide +kernel, by decide +kernel⟩⟩
theorem cv_X8_362 : pv_cv RX8 362 yX8_great cX8_great 3 (some .int) 2 := ⟨mw_1117, mw_506, mw_507, mw_2, mw_508, ⟨by decide +kernel, by decide +kernel, by decide +kernel⟩⟩
theorem cv_X8_365 : pv_cv RX8 365 yX8_ticket cX8_ticket 4 (some .int) 3 := ⟨mw_1118, mw_255, mw_256, mw_2, mw_257, ⟨by decide +kernel, by decide +kernel, by decide +kernel⟩⟩
theorem cv_X8_368 : pv_cv RX8 368 yX8_votes cX8_votes 4 (some .int) 3 := ⟨mw_1119, mw_522, mw_523, mw_2, mw_524, ⟨by decide +kernel, by decide +kernel, by decide +kernel⟩⟩
theorem cv_X8_371 : pv_cv RX8 371 yX8_split cX8_split 4 (some .int) 0 := ⟨mw_1120, mw_534, mw_535, mw_2, mw_536, ⟨by decide +kernel, by decide +kernel, by decide +kernel⟩⟩
theorem cv_X8_374 : pv_cv RX8 374 yX8_money cX8_money 3 (some .int) 2 := ⟨mw_1125, mw_554, mw_555, mw_2, mw_556, ⟨by decide +kernel, by decide +kernel, by decide +kernel⟩⟩
theorem cv_X8_377 : pv_cv RX8 377 yX8_hedge cX8_hedge 2 (some .int) 1 := ⟨mw_1126, mw_759, mw_760, mw_2, mw_761, ⟨by decide +kernel, by decide +kernel, by decide +kernel⟩⟩
theorem cv_X8_380 : pv_cv RX8 380 yX8_ruined cX8_ruined 3 (some .int) 1 := ⟨mw_1127, mw_589, mw_590, mw_2, mw_591, ⟨by decide +kernel, by decide +kernel, by decide +kernel⟩⟩
theorem cv_X8_383 : pv_cv RX8 383 yX8_worst cX8_worst 3 (some .int) 1 := ⟨mw_1128, mw_606, mw_607, mw_2, mw_608, ⟨by decide +kernel, by decide +kernel, by decide +kernel⟩⟩
theorem cv_X8_386 : pv_cv RX8 386 yX8_rest cX8_rest 2 (some .int) 1 := ⟨mw_1133, mw_621, mw_622, mw_2, mw_623, ⟨by decide +kernel, by decide +kernel, by decide +kernel⟩⟩
theorem cv_X8_389 : pv_cv RX8 389 yX8_rests cX8_rests 1 (some .int) 0 := ⟨mw_1134, mw_681, mw_682, mw_2, mw_683, ⟨by decide +kernel, by decide +kernel, by decide +kernel⟩⟩
theorem cv_X8_392 : pv_cv RX8 392 yX8_wins cX8_wins 3 (some .int) 2 := ⟨mw_1135, mw_712, mw_713, mw_2, mw_714, ⟨by decide +kernel, by decide +kernel, by decide +kernel⟩⟩
theorem cv_X8_395 : pv_cv RX8 395 yX8_worth cX8_worth 4 (some .long) 3 := ⟨mw_1140, mw_788, mw_789, mw_2, mw_790, ⟨by decide +kernel, by decide +kernel, by decide +kernel⟩⟩
theorem cv_X8_399 : pv_cv RX8 399 yX8_clash cX8_clash 1 (some .int) 0 := ⟨mw_1141, mw_854, mw_855, mw_2, mw_856, ⟨by decide +kernel, by decide +kernel, by decide +kernel⟩⟩
theorem cv_X8_402 : pv_cv RX8 402 yX8_drop cX8_drop 1 (some .int) 0 := ⟨mw_1142, mw_862, mw_863, mw_2, mw_864, ⟨by decide +kernel, by decide +kernel, by decide +kernel⟩⟩
theorem cv_X8_409 : pv_cv RX8 409 yX2_take cX2_take 6 none 3 := ⟨mw_262, mw_263, mw_264, mw_29, mw_265, ⟨by decide +kernel, by decide +kernel, by decide +kernel⟩⟩
theorem cv_X8_413 : pv_cv RX8 413 yX8_paid cX8_paid 2 (some .int) 1 := ⟨mw_563, mw_564, mw_565, mw_2, mw_566, ⟨by decide +kernel, by decide +kernel, by decide +kernel⟩⟩
theorem cs_X9_88 : pv_cs RX9 88 yX9_in cX9_in 6 (some .boolean) 3 := ⟨mw_197, mw_198, mw_5, mw_199, ⟨by decide +kernel, by decide +kernel, by decide +kernel⟩⟩
theorem cs_X9_98 : pv_cs RX9 98 yX9_isSheet cX9_isSheet 1 (some .boolean) 1 := ⟨mw_998, mw_999, mw_5, mw_1000, ⟨by decide +kernel, by decide +kernel, by decide +kernel⟩⟩
theorem cv_X9_104 : pv_cv RX9 104 yX9_met cX9_met 2 (some .int) 1 := ⟨mw_1001, mw_1002, mw_1003, mw_5, mw_1004, ⟨by decide +kernel, by decide +kernel, by decide +kernel⟩⟩
theorem cv_X9_108 : pv_cv RX9 108 yX9_lacks cX9_lacks 4 (some .int) 3 := ⟨mw_1040, mw_1041, mw_1042, mw_5, mw_1043, ⟨by decide +kernel, by decide +kernel, by decide +kernel⟩⟩
theorem cs_X9_112 : pv_cs RX9 112 yX9_cut cX9_cut 2 (some .int) 2 := ⟨mw_1044, mw_1045, mw_5, mw_1046, ⟨by decide +kernel, by decide +kernel, by decide +kernel⟩⟩
theorem cs_X9_117 : pv_cs RX9 117 yX9_isText cX9_isText 1 (some .boolean) 1 := ⟨mw_193, mw_194, mw_5, mw_195, ⟨by decide +kernel, by decide +kernel, by decide +kernel⟩⟩
theorem cv_X9_125 : pv_cv RX9 125 yX9_here cX9_here 2 (some .int) 1 := ⟨mw_250, mw_251, mw_252, mw_5, mw_253, ⟨by decide +kernel, by decide +kernel, by decide +kernel⟩⟩
theorem cv_X9_138 : pv_cv RX9 138 yX9_tells cX9_tells 6 (some .int) 3 := ⟨mw_241, mw_242, mw_243, mw_5, mw_244, ⟨by decide +kernel, by decide +kernel, by decide +kernel⟩⟩
theorem cv_X9_141 : pv_cv RX9 141 yX9_readsThing cX9_readsThing 5 (some .boolean) 1 := ⟨mw_237, mw_238, mw_239, mw_5, mw_240, ⟨by decide +kernel, by decide +kernel, by decide +kernel⟩⟩
theorem cv_X9_144 : pv_cv RX9 144 yX9_readsText cX9_readsText 4 (some .int) 1 := ⟨mw_232, mw_233, mw_234, mw_5, mw_235, ⟨by decide +kernel, by decide +kernel, by decide +kernel⟩⟩
theorem cv_X9_151 : pv_cv RX9 151 yX9_reads cX9_reads 2 none 0 := ⟨mw_355, mw_356, mw_357, mw_5, mw_358, ⟨by decide +kernel, by decide +kernel, by decide +kernel⟩⟩
theorem cv_X9_154 : pv_cv RX9 154 yX9_isVoter cX9_isVoter 2 (some .boolean) 1 := ⟨mw_397, mw_398, mw_399, mw_5, mw_400, ⟨by decide +kernel, by decide +kernel, by decide +kernel⟩⟩
theorem cs_X9_157 : pv_cs RX9 157 yX9_isTwo cX9_isTwo 1 (some .boolean) 1 := ⟨mw_409, mw_410, mw_5, mw_411, ⟨by decide +kernel, by decide +kernel, by decide +kernel⟩⟩
theorem cs_X9_160 : pv_cs RX9 160 yX9_isAnyVoter cX9_isAnyVoter 1 (some .boolean) 1 := ⟨mw_424, mw_425, mw_5, mw_426, ⟨by decide +kernel, by decide +kernel, by decide +kernel⟩⟩
theorem cs_X9_165 : pv_cs RX9 165 yX9_isYear cX9_isYear 1 (some .boolean) 1 := ⟨mw_359, mw_360, mw_5, mw_361, ⟨by decide +kernel, by decide +kernel, by decide +kernel⟩⟩
theorem cs_X9_168 : pv_cs RX9 168 yX9_isUnit cX9_isUnit 1 (some .boolean) 1 := ⟨mw_367, mw_368, mw_5, mw_369, ⟨by decide +kernel, by decide +kernel, by decide +kernel⟩⟩
theorem cv_X9_174 : pv_cv RX9 174 yX9_isParty cX9_isParty 2 (some .boolean) 1 := ⟨mw_363, mw_364, mw_365, mw_5, mw_366, ⟨by decide +kernel, by decide +kernel, by decide +kernel⟩⟩
theorem cv_X9_177 : pv_cv RX9 177 yX9_ticketOf cX9_ticketOf 8 (some .int) 3 := ⟨mw_370, mw_371, mw_372, mw_5, mw_373, ⟨by decide +kernel, by decide +kernel, by decide +kernel⟩⟩
theorem cv_X9_180 : pv_cv RX9 180 yX9_holds cX9_holds 2 (some .int) 1 := ⟨mw_489, mw_490, mw_491, mw_5, mw_492, ⟨by decide +kernel, by decide +kernel, by decide +kernel⟩⟩
theorem cv_X9_183 : pv_cv RX9 183 yX9_unitOf cX9_unitOf 2 (some .int) 1 := ⟨mw_493, mw_494, mw_495, mw_5, mw_496, ⟨by decide +kernel, by decide +kernel, by decide +kernel⟩⟩
theorem cv_X9_186 : pv_cv RX9 186 yX9_gain cX9_gain 4 (some .int) 3 := ⟨mw_485, mw_486, mw_487, mw_5, mw_488, ⟨by decide +kernel, by decide +kernel, by decide +kernel⟩⟩
theorem cv_X9_189 : pv_cv RX9 189 yX9_approves cX9_approves 7 (some .boolean) 4 := ⟨mw_481, mw_482, mw_483, mw_5, mw_484, ⟨by decide +kernel, by decide +kernel, by decide +kernel⟩⟩
theorem cv_X9_193 : pv_cv RX9 193 yX9_choice cX9_choice 7 (some .int) 3 := ⟨mw_497, mw_498, mw_499, mw_5, mw_500, ⟨by decide +kernel, by decide +kernel, by decide +kernel⟩⟩
theorem cv_X9_196 : pv_cv RX9 196 yX9_counts cX9_counts 8 none 4 := ⟨mw_477, mw_478, mw_479, mw_5, mw_480, ⟨by decide +kernel, by decide +kernel, by decide +kernel⟩⟩
theorem cv_X9_200 : pv_cv RX9 200 yX9_mostAt cX9_mostAt 6 (some .int) 2 := ⟨mw_501, mw_502, mw_503, mw_5, mw_504, ⟨by decide +kernel, by decide +kernel, by decide +kernel⟩⟩
theorem cv_X9_203 : pv_cv RX9 203 yX9_lives cX9_lives 5 none 1 := ⟨mw_473, mw_474, mw_475, mw_5, mw_476, ⟨by decide +kernel, by decide +kernel, by decide +kernel⟩⟩
theorem cv_X9_207 : pv_cv RX9 207 yX9_livesNow cX9_livesNow 1 none 0 := ⟨mw_469, mw_470, mw_471, mw_5, mw_472, ⟨by decide +kernel, by decide +kernel, by decide +kernel⟩⟩
theorem cv_X9_210 : pv_cv RX9 210 yX9_greatOf cX9_greatOf 4 (some .int) 2 := ⟨mw_517, mw_518, mw_519, mw_5, mw_520, ⟨by decide +kernel, by decide +kernel, by decide +kernel⟩⟩
theorem cv_X9_213 : pv_cv RX9 213 yX9_splitNow cX9_splitNow 3 (some .int) 0 := ⟨mw_541, mw_542, mw_543, mw_5, mw_544, ⟨by decide +kernel, by decide +kernel, by decide +kernel⟩⟩
theorem cv_X9_220 : pv_cv RX9 220 yX9_paysBy cX9_paysBy 3 (some .int) 2 := ⟨mw_584, mw_585, mw_586, mw_5, mw_587, ⟨by decide +kernel, by decide +kernel, by decide +kernel⟩⟩
theorem cv_X9_223 : pv_cv RX9 223 yX9_pays cX9_pays 2 (some .int) 1 := ⟨mw_580, mw_581, mw_582, mw_5, mw_583, ⟨by decide +kernel, by decide +kernel, by decide +kernel⟩⟩
theorem cv_X9_226 : pv_cv RX9 226 yX9_moneyOf cX9_moneyOf 5 (some .int) 2 := ⟨mw_576, mw_577, mw_578, mw_5, mw_579, ⟨by decide +kernel, by decide +kernel, by decide +kernel⟩⟩
theorem cv_X9_230 : pv_cv RX9 230 yX9_ruinedOf cX9_ruinedOf 5 (some .int) 1 := ⟨mw_601, mw_602, mw_603, mw_5, mw_604, ⟨by decide +kernel, by decide +kernel, by decide +kernel⟩⟩
theorem cs_X9_233 : pv_cs RX9 233 yX9_amount cX9_amount 1 (some .int) 1 := ⟨mw_617, mw_618, mw_5, mw_619, ⟨by decide +kernel, by decide +kernel, by decide +kernel⟩⟩
theorem cv_X9_236 : pv_cv RX9 236 yX9_worstOf cX9_worstOf 2 (some .int) 1 := ⟨mw_613, mw_614, mw_615, mw_5, mw_616, ⟨by decide +kernel, by decide +kernel, by decide +kernel⟩⟩
theorem cv_X9_239 : pv_cv RX9 239 yX9_mostTold cX9_mostTold 3 (some .int) 0 := ⟨mw_676, mw_677, mw_678, mw_5, mw_679, ⟨by decide +kernel, by decide +kernel, by decide +kernel⟩⟩
theorem cv_X9_242 : pv_cv RX9 242 yX9_six cX9_six 1 (some .int) 0 := ⟨mw_668, mw_669, mw_670, mw_5, mw_671, ⟨by decide +kernel, by decide +kernel, by decide +kernel⟩⟩
theorem cv_X9_245 : pv_cv RX9 245 yX9_chooses cX9_chooses 2 none 0 := ⟨mw_660, mw_661, mw_662, mw_5, mw_663, ⟨by decide +kernel, by decide +kernel, by decide +kernel⟩⟩
theorem cv_X9_248 : pv_cv RX9 248 yX9_isRow cX9_isRow 4 (some .boolean) 1 := ⟨mw_664, mw_665, mw_666, mw_5, mw_667, ⟨by decide +kernel, by decide +kernel, by decide +kernel⟩⟩
theorem cv_X9_251 : pv_cv RX9 251 yX9_isRest cX9_isRest 6 (some .boolean) 0 := ⟨mw_672, mw_673, mw_674, mw_5, mw_675, ⟨by decide +kernel, by decide +kernel, by decide +kernel⟩⟩
theorem cv_X9_257 : pv_cv RX9 257 yX9_restOf cX9_restOf 2 (some .int) 1 := ⟨mw_656, mw_657, mw_658, mw_5, mw_659, ⟨by decide +kernel, by decide +kernel, by decide +kernel⟩⟩
theorem cv_X9_260 : pv_cv RX9 260 yX9_restsNow cX9_restsNow 3 (some .int) 0 := ⟨mw_707, mw_708, mw_709, mw_5, mw_710, ⟨by decide +kernel, by decide +kernel, by decide +kernel⟩⟩
theorem cv_X9_263 : pv_cv RX9 263 yX9_gainBy cX9_gainBy 7 (some .int) 4 := ⟨mw_754, mw_755, mw_756, mw_5, mw_757, ⟨by decide +kernel, by decide +kernel, by decide +kernel⟩⟩
theorem cv_X9_267 : pv_cv RX9 267 yX9_isElectedBy cX9_isElectedBy 5 (some .boolean) 2 := ⟨mw_750, mw_751, mw_752, mw_5, mw_753, ⟨by decide +kernel, by decide +kernel, by decide +kernel⟩⟩
theorem cv_X9_271 : pv_cv RX9 271 yX9_findWish cX9_findWish 7 none 1 := ⟨mw_746, mw_747, mw_748, mw_5, mw_749, ⟨by decide +kernel, by decide +kernel, by decide +kernel⟩⟩
theorem cv_X9_274 : pv_cv RX9 274 yX9_isHedged cX9_isHedged 9 (some .boolean) 4 := ⟨mw_783, mw_784, mw_785, mw_5, mw_786, ⟨by decide +kernel, by decide +kernel, by decide +kernel⟩⟩
theorem cv_X9_277 : pv_cv RX9 277 yX9_hedgeOf cX9_hedgeOf 8 (some .int) 1 := ⟨mw_779, mw_780, mw_781, mw_5, mw_782, ⟨by decide +kernel, by decide +kernel, by decide +kernel⟩⟩
theorem cs_X9_280 : pv_cs RX9 280 yX9_common cX9_common 10 (some .long) 2 := ⟨mw_846, mw_847, mw_5, mw_848, ⟨by decide +kernel, by decide +kernel, by decide +kernel⟩⟩
theorem cs_X9_287 : pv_cs RX9 287 yX9_isIn cX9_isIn 2 (some .boolean) 2 := ⟨mw_839, mw_840, mw_5, mw_841, ⟨by decide +kernel, by decide +kernel, by decide +kernel⟩⟩
theorem cv_X9_290 : pv_cv RX9 290 yX9_joins cX9_joins 14 none 4 := ⟨mw_842, mw_843, mw_844, mw_5, mw_845, ⟨by decide +kernel, by decide +kernel, by decide +kernel⟩⟩
theorem cv_X9_294 : pv_cv RX9 294 yX9_finds cX9_finds 8 (some .boolean) 1 := ⟨mw_834, mw_835, mw_836, mw_5, mw_837, ⟨by decide +kernel, by decide +kernel, by decide +kernel⟩⟩
theorem cs_X9_297 : pv_cs RX9 297 yX9_no cX9_no 1 (some .long) 1 := ⟨mw_849, mw_850, mw_5, mw_851, ⟨by decide +kernel, by decide +kernel, by decide +kernel⟩⟩
theorem cv_X9_303 : pv_cv RX9 303 yX9_worthOf cX9_worthOf 8 (some .long) 3 := ⟨mw_830, mw_831, mw_832, mw_5, mw_833, ⟨by decide +kernel, by decide +kernel, by decide +kernel⟩⟩
theorem cs_X9_307 : pv_cs RX9 307 yX9_ones cX9_ones 3 (some .int) 1 := ⟨mw_888, mw_889, mw_5, mw_890, ⟨by decide +kernel, by decide +kernel, by decide +kernel⟩⟩
theorem cv_X9_310 : pv_cv RX9 310 yX9_dropNow cX9_dropNow 4 (some .int) 0 := ⟨mw_884, mw_885, mw_886, mw_5, mw_887, ⟨by decide +kernel, by decide +kernel, by decide +kernel⟩⟩
theorem cs_X9_313 : pv_cs RX9 313 yX9_digit cX9_digit 3 (some .int) 3 := ⟨mw_946, mw_947, mw_5, mw_948, ⟨by decide +kernel, by decide +kernel, by decide +kernel⟩⟩
theorem cs_X9_325 : pv_cs RX9 325 yX9_isTour cX9_isTour 6 (some .boolean) 2 := ⟨mw_949, mw_950, mw_5, mw_951, ⟨by decide +kernel, by decide +kernel, by decide +kernel⟩⟩
theorem cv_X9_330 : pv_cv RX9 330 yX9_findRound cX9_findRound 7 none 0 := ⟨mw_939, mw_940, mw_941, mw_5, mw_942, ⟨by decide +kernel, by decide +kernel, by decide +kernel⟩⟩
theorem cv_X9_333 : pv_cv RX9 333 yX9_tellsRound cX9_tellsRound 3 (some .int) 1 := ⟨mw_952, mw_953, mw_954, mw_5, mw_955, ⟨by decide +kernel, by decide +kernel, by decide +kernel⟩⟩
theorem cv_X9_339 : pv_cv RX9 339 yX9_yearsNow cX9_yearsNow 5 (some .int) 0 := ⟨mw_972, mw_973, mw_974, mw_5, mw_975, ⟨by decide +kernel, by decide +kernel, by decide +kernel⟩⟩
theorem cv_X9_342 : pv_cv RX9 342 yX9_purse cX9_purse 4 (some .int) 2 := ⟨mw_1082, mw_420, mw_421, mw_5, mw_422, ⟨by decide +kernel, by decide +kernel, by decide +kernel⟩⟩
theorem cv_X9_349 : pv_cv RX9 349 yX9_count cX9_count 2 (some .int) 1 := ⟨mw_1151, mw_1097, mw_1098, mw_5, mw_1099, ⟨by decide +kernel, by decide +kernel, by decide +kernel⟩⟩
theorem cv_X9_352 : pv_cv RX9 352 yX9_hedge cX9_hedge 2 (some .int) 1 := ⟨mw_1152, mw_776, mw_777, mw_5, mw_778, ⟨by decide +kernel, by decide +kernel, by decide +kernel⟩⟩
theorem cv_X9_355 : pv_cv RX9 355 yX9_rest cX9_rest 2 (some .int) 1 := ⟨mw_1153, mw_652, mw_653, mw_5, mw_654, ⟨by decide +kernel, by decide +kernel, by decide +kernel⟩⟩
theorem cv_X9_358 : pv_cv RX9 358 yX9_worth cX9_worth 4 (some .long) 3 := ⟨mw_1154, mw_826, mw_827, mw_5, mw_828, ⟨by decide +kernel, by decide +kernel, by decide +kernel⟩⟩
theorem cv_X9_361 : pv_cv RX9 361 yX9_clash cX9_clash 1 (some .int) 0 := ⟨mw_1155, mw_858, mw_859, mw_5, mw_860, ⟨by decide +kernel, by decide +kernel, by decide +kernel⟩⟩
theorem cn_X0_94 : pv_cn RX0 94 yX8_greatest cX8_greatest 6 (some .int) 4 "PoundVotes" := ⟨List.mem_of_getElem? (i := 0) rfl, mw_328, mw_2, mw_329, ⟨by decide +kernel, by decide +kernel, by decide +kernel⟩⟩
theorem cn_X1_68 : pv_cn RX1 68 yX8_greatest cX8_greatest 6 (some .int) 4 "PoundVotes" := ⟨List.mem_of_getElem? (i := 1) rfl, mw_328, mw_2, mw_329, ⟨by decide +kernel, by decide +kernel, by decide +kernel⟩⟩
theorem cn_X4_29 : pv_cn RX4 29 yX8_isWithin cX8_isWithin 3 (some .boolean) 3 "PoundVotes" := ⟨List.mem_of_getElem? (i := 2) rfl, mw_172, mw_2, mw_173, ⟨by decide +kernel, by decide +kernel, by decide +kernel⟩⟩
theorem cn_X6_37 : pv_cn RX6 37 yX8_isWithin cX8_isWithin 3 (some .boolean) 3 "PoundVotes" := ⟨List.mem_of_getElem? (i := 3) rfl, mw_172, mw_2, mw_173, ⟨by decide +kernel, by decide +kernel, by decide +kernel⟩⟩
theorem cn_X6_48 : pv_cn RX6 48 yX8_commonDivisor cX8_commonDivisor 11 (some .long) 2 "PoundVotes" := ⟨List.mem_of_getElem? (i := 4) rfl, mw_818, mw_2, mw_819, ⟨by decide +kernel, by decide +kernel, by decide +kernel⟩⟩
theorem cn_X7_22 : pv_cn RX7 22 yX8_isWithin cX8_isWithin 3 (some .boolean) 3 "PoundVotes" := ⟨List.mem_of_getElem? (i := 5) rfl, mw_172, mw_2, mw_173, ⟨by decide +kernel, by decide +kernel, by decide +kernel⟩⟩
theorem cn_X7_61 : pv_cn RX7 61 yX8_commonDivisor cX8_commonDivisor 11 (some .long) 2 "PoundVotes" := ⟨List.mem_of_getElem? (i := 6) rfl, mw_818, mw_2, mw_819, ⟨by decide +kernel, by decide +kernel, by decide +kernel⟩⟩
theorem ci_m1 : Int32.ofInt (-1) = (-1) := by decide
theorem ci_0 : Int32.ofInt (0) = 0 := by decide
theorem ci_1 : Int32.ofInt (1) = 1 := by decide
theorem ci_2 : Int32.ofInt (2) = 2 := by decide
theorem ci_3 : Int32.ofInt (3) = 3 := by decide
theorem ci_4 : Int32.ofInt (4) = 4 := by decide
theorem ci_5 : Int32.ofInt (5) = 5 := by decide
abbrev pv_FU : Nat := 5000
