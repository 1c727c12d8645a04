def R_law : String := "PoundVotesLaw"
def lw_P (b : Addr) (xs : List Int32) (args : Array Value) (s : State) : Prop := args = #[.ref b] ∧ s.IntsAt b xs ∧ xs.length ≤ 3584 ∧ (Jvm.Cond.and given_1 narrow_1).before args s = true
def lw_Q (_ : Array Value) (s : State) (o : Outcome) (t : State) : Prop := o = .returned (some (.int 1)) ∧ Framed s o t [] 600000 7302250
def lw_Z (below : List Frame) (a : Array Value) (s : State) : State → Prop := fun t => ∃ o, t.status = .running ∧ Ended t below o ∧ lw_Q a s o t
/-- the law's own end, with 1 on the stack, nothing written that was there before, its room as the claim has it -/
theorem lw_ret {p : Program} {l : Launch} {e : Env} {s : State} {m : MethodId} {below : List Frame} {meth : Method} {c : Code} {b : Nat} (hx : p.tables.exec = Jvm.exec) (hb : c.code = code) (hr : meth.sig.returnType = ret) (hlocks : meth.locks = false) {pc : Nat} {H : Heap} {ls : Array Slot} (hdg : decode code pc = .ok (.ireturn, 1)) : W p l e room_1 s m #[Value.ref b] below meth c H [] 600000 7302250 (lw_Z below #[Value.ref b] s) (F0 m pc ls [.int 1]) := by
  intro T hT X
  obtain ⟨fs, hret, hrun, hended, hW, hframe⟩ := X.leave (v := some (.int 1)) (hlocks := hlocks) (fun h => by rw [hr] at h; cases h)
  have hmeth' : T.vm.method? m = some meth := X.method'
  refine ⟨T.setFrames fs, ?_, .returned (some (.int 1)), hrun, hended, rfl, ⟨_, rfl⟩, hW, hframe⟩
  jvm_step X.here [X.here.top, hx, hb, hdg, hmeth', hr, ret, narrow_b1]
  (try refine ⟨rfl, ?_⟩); (try refine ⟨rfl, ?_⟩)
  first | (intro acts; rw [hret _ acts rfl rfl rfl]) | rw [hret _ _ rfl rfl rfl]
  exact Steps.refl _
/-- what holds at the law's entry: the machine, the code, the tables' words (any of lw_tbl by 'hts w (by decide +kernel)'), the script of L ints xs at the cell b, what the Statement gives of the start (any of its parts by flat_of_before) -/
def lw_At (p : Program) (s : State) (m : MethodId) (meth : Method) (c : Code) (b L : Nat) (xs : Nat → Int32) : Prop :=
  p.tables.exec = Jvm.exec ∧ c.code = code ∧ meth.sig.returnType = ret ∧ c.maxLocals = 4 ∧ s.vm.findClass R_law = some m.cls ∧ (∀ w ∈ lw_tbl, w.before #[Value.ref b] s = true) ∧ va_X b L xs s s.heap ∧ b < s.heap.size ∧ meth.locks = false ∧ (Jvm.Cond.and given_1 narrow_1).before #[Value.ref b] s = true
def pv_ldS {ρ : Type} (L : Nat) (xs : Nat → Int32) (j : Int32) (f : Int32 → Option ρ) : Option ρ := if ¬ j < 0 ∧ j.toNatClampNeg < L then f (xs j.toNatClampNeg) else none
def pv_QL (g : pv_X) (b : Nat) : Int32 → State → Prop := fun v t => v = 1 → lw_Z g.2.2.2.2.2.2.2.1 #[Value.ref b] g.2.2.2.2.1 t
def pv_isRF (rf : pv_F) : Bool := (List.range 222).all (fun k => (List.range 34).all (fun j => decide (rf k j = pv_RF k j)))
section PVL
variable {α : Type} {g : pv_X} {κ : pv_K} {N : Nat} {rf : pv_F} {nL cells slots : Nat} {Q : α → State → Prop} {pc : Nat} {lv : List (Nat × Value)} {st : List Value} {M : pv_M} {x : Option α} {cc : ByteArray} {own : String} {ret : Option FieldType}
theorem rw_lenS {b L : Nat} {xs : Nat → Int32} (hX : va_X b L xs g.2.2.2.2.1 (pv_H0 κ)) (hbz : b < κ.1) (C : pv_Ok g κ nL cc own ret) (hd : decode cc pc = .ok (.arraylength, 1)) (k : pv_R g κ N rf nL cells slots Q (pc + 1) lv (.int (nI L) :: st) M x) : pv_R g κ N rf nL cells slots Q pc lv (.ref b :: st) M x := by
  intro v hv H locs ls hW hL hl
  obtain ⟨scr, h1, h2, h3, h4, h5⟩ := hX
  refine W.alen (n := nI L) C.1 C.2.1 (by rw [hW.2.2 b hbz]; exact h1) h2 (by rw [h4]; rfl) rfl rfl hd ?_
  exact k v hv H locs ls hW hL hl
theorem rw_ldS {b L : Nat} {xs : Nat → Int32} {j : Int32} {y : Int32 → Option α} (hX : va_X b L xs g.2.2.2.2.1 (pv_H0 κ)) (hbz : b < κ.1) (C : pv_Ok g κ nL cc own ret) (hd : decode cc pc = .ok (.iaload, 1)) (k : ∀ v, pv_R g κ N rf nL cells slots Q (pc + 1) lv (.int v :: st) M (y v)) : pv_R g κ N rf nL cells slots Q pc lv (.int j :: .ref b :: st) M (pv_ldS L xs j y) := by
  intro v hv H locs ls hW hL hl
  obtain ⟨scr, h1, h2, h3, h4, h5⟩ := hX
  unfold pv_ldS at hv
  split at hv
  · rename_i hb
    refine W.iald (v := .int (xs j.toNatClampNeg)) C.1 C.2.1 (by rw [hW.2.2 b hbz]; exact h1) h2 h3 (fun q => q.elim hb.1 (fun z => absurd hb.2 (by omega))) (h5 _ hb.2) rfl rfl hd ?_
    exact k _ v hv H locs ls hW hL hl
  · cases hv
theorem rw_wide {k n : Nat} (h1 : cells ≤ k) (h2 : slots ≤ n) (kk : pv_R g κ N rf nL k n Q pc lv st M x) : pv_R g κ N rf nL cells slots Q pc lv st M x := fun v hv H locs ls hW hL hl => W.widen h1 h2 (kk v hv H locs ls hW hL hl)
theorem pv_SH_le (k : Nat) : (pv_SH k).2 ≤ 34 ∨ (pv_SH k).1 < 3 := by
  by_cases h : k < 222
  · exact (show ∀ k, k < 222 → (pv_SH k).2 ≤ 34 ∨ (pv_SH k).1 < 3 by decide +kernel) k h
  · left
    unfold pv_SH
    rw [List.getD_eq_getElem?_getD, List.getElem?_eq_none (by show 222 ≤ k; omega)]
    decide
theorem rw_toRF (k : pv_R g κ 222 pv_RF nL cells slots Q pc lv st M x) : pv_R g κ 222 rf nL cells slots Q pc lv st M (pv_ck (pv_isRF rf) x) := by
  refine rw_ck (fun hb => ?_)
  intro v hv H locs ls hW hL hl
  refine k v hv H locs ls ⟨fun i q hi => ?_, hW.2⟩ hL hl
  obtain ⟨hlt, rfl⟩ := pv_wl_of hi
  have hr : ∀ j, j < 34 → rf i j = pv_RF i j := by
    intro j hj
    have h1 := List.all_eq_true.mp hb i (List.mem_range.mpr hlt)
    have h2 := List.all_eq_true.mp h1 j (List.mem_range.mpr hj)
    exact of_decide_eq_true h2
  have he : pv_ent κ pv_RF M i = pv_ent κ rf M i := by
    unfold pv_ent
    rcases pv_SH_le i with h | h
    · have hf : pv_fs κ.1 (pv_RF i) (M.1 i) ((pv_SH i).1 - 3) (pv_SH i).2 = pv_fs κ.1 (rf i) (M.1 i) ((pv_SH i).1 - 3) (pv_SH i).2 := by
        unfold pv_fs
        refine List.map_congr_left (fun j hj => ?_)
        unfold pv_fv
        rw [hr j (by have := List.mem_range.mp hj; omega)]
      rw [hf]
    · by_cases h0 : (pv_SH i).1 = 0
      · rw [if_pos h0, if_pos h0]
      · by_cases h1 : (pv_SH i).1 = 1
        · rw [if_neg h0, if_neg h0, if_pos h1, if_pos h1]
        · have h2 : (pv_SH i).1 = 2 := by omega
          rw [if_neg h0, if_neg h0, if_neg h1, if_neg h1, if_pos h2, if_pos h2]
  rw [he]
  exact pv_at hW hlt
end PVL
theorem rw_law0 {g : pv_X} {κ : pv_K} {N : Nat} {rf : pv_F} {nL cells slots : Nat} {pc b : Nat} {lv : List (Nat × Value)} {st : List Value} {M : pv_M} : pv_R g κ N rf nL cells slots (pv_QL g b) pc lv st M (some 0) := by
  intro v hv H locs ls hW hL hl T hT X
  cases hv
  exact ⟨_, Steps.refl _, fun h => absurd h (by decide)⟩
theorem rw_law1 {g : pv_X} {κ : pv_K} {N : Nat} {rf : pv_F} {nL : Nat} {pc b : Nat} {lv : List (Nat × Value)} {M : pv_M} {own : String} (hR : g.2.2.2.1 = room_1) (ha : g.2.2.2.2.2.2.1 = #[Value.ref b]) (hz : g.2.2.2.2.1.heap.size = κ.1) (C : pv_Ok g κ nL code own ret) (hd : decode code pc = .ok (.ireturn, 1)) : pv_R g κ N rf nL 600000 7302250 (pv_QL g b) pc lv [.int 1] M (some 1) := by
  intro v hv H locs ls hW hL hl
  cases hv
  obtain ⟨p, l, e, R, s, m, args, below, meth, c⟩ := g
  cases hR
  cases ha
  refine va_forget (fun q hq => by have := hL q hq; show s.heap.size ≤ q.base; have h2 : s.heap.size = κ.1 := hz; omega) ?_
  intro T hT X
  obtain ⟨t, h1, h2⟩ := lw_ret C.1 C.2.1 C.2.2.2.2.2.2.2 C.2.2.2.2.2.2.1 hd T hT X
  exact ⟨t, h1, fun _ => h2⟩
section PVLC
variable {α β : Type} {g : pv_X} {κ : pv_K} {nL cells slots : Nat} {Q : α → State → Prop} {pc : Nat} {lv : List (Nat × Value)} {st : List Value} {M : pv_M} {cc : ByteArray} {own : String} {ret : Option FieldType}
theorem pv_afterL {z : β → pv_M → Option α} {v : α} {inj : β → Option Value} {q : β × pv_M} {st0 : List Value} {a : Array Value} {H : Heap} {locs : List Loc} {ls : Array Slot} (hL : ∀ q ∈ locs, κ.1 ≤ q.base) (hl : lv_has ls nL lv)
    (hr : va_Run g.1 g.2.1 g.2.2.1 g.2.2.2.1 g.2.2.2.2.1 g.2.2.2.2.2.1 g.2.2.2.2.2.2.1 g.2.2.2.2.2.2.2.1 g.2.2.2.2.2.2.2.2.1 g.2.2.2.2.2.2.2.2.2 H locs cells slots 0 0 (F0 g.2.2.2.2.2.1 pc ls st0) st (pv_Post κ (inj q.1) q.2 a) (fun q => κ.1 ≤ q))
    (hv : z q.1 q.2 = some v) (k : ∀ r M', pv_R g κ pv_T pv_RF nL cells slots Q (pc + 3) lv ((inj r).toList ++ st) M' (z r M')) :
    W g.1 g.2.1 g.2.2.1 g.2.2.2.1 g.2.2.2.2.1 g.2.2.2.2.2.1 g.2.2.2.2.2.2.1 g.2.2.2.2.2.2.2.1 g.2.2.2.2.2.2.2.2.1 g.2.2.2.2.2.2.2.2.2 H locs cells slots (Q v) (F0 g.2.2.2.2.2.1 pc ls st0) := by
  intro T hT X
  obtain ⟨v', st₀, t, T', L, h0, X', hL', e1, e2, ⟨ho, hWd⟩, stp⟩ := hr T hT X
  cases ho
  obtain ⟨t2, a1, b1⟩ := k q.1 q.2 v hv T'.heap (locs ++ L) ls (by rw [e1]; exact hWd) (fun y hy => (List.mem_append.mp hy).elim (hL y) (hL' y)) hl T' rfl X'
  exact ⟨t2, stp t2 a1, b1⟩
theorem rw_callL {i : Nat} {y : MethodName} {c2 : ByteArray} {n2 : Nat} {r2 : Option FieldType} {n d2 : Nat} {k0 c nf : Nat} {T : u_T} {As : List Value} {inj : β → Option Value} {x : Option (β × pv_M)} {z : β → pv_M → Option α} (C : pv_Ok g κ nL cc own ret) (hR : d2 + 1 ≤ g.2.2.2.1.frames ∧ 80 + 80 * d2 ≤ g.2.2.2.1.locals ∧ cells ≤ g.2.2.2.1.cells ∧ slots ≤ g.2.2.2.1.slots) (hd : decode cc pc = .ok (.invokevirtual i, 3)) (hw : pv_cv own i y c2 n2 r2 n) (hM : pv_Mt g.2.1 y c2 n2 r2 d2 κ (.ref (κ.1 + k0) :: As) M inj x) (hn2 : n2 ≤ 50) (hk : k0 < pv_T) (hs : pv_SH k0 = (c + 3, nf)) (hc : pv_cl[c]? = some (y.cls, T, nf)) (hA : As.length = n) (hst : ((st.map fun v => v.category).sum ≤ 8)) {st0 : List Value} (h0 : st0 = As.reverse ++ .ref (κ.1 + k0) :: st)
    (k : ∀ r M', pv_R g κ pv_T pv_RF nL cells slots Q (pc + 3) lv ((inj r).toList ++ st) M' (z r M')) : pv_R g κ pv_T pv_RF nL cells slots Q pc lv st0 M (pv_cal x z) := by
  intro v hv H locs ls hW hL hl
  subst h0
  cases x with
  | none => cases hv
  | some q =>
    obtain ⟨w1, w2, w3, w4, w5, w6⟩ := hw
    have hg : GoodIn UW (wsV own i y.cls y (.code y c2 n2 r2 :: UW)) := pv_good (fun w h => by
      rcases List.mem_append.mp h with h | h
      · simp only [List.mem_cons, List.mem_nil_iff, or_false] at h
        rcases h with rfl | rfl | rfl | rfl
        · exact w1
        · exact w2
        · exact w3
        · exact w4
      · exact pv_codeUW w5 w h)
    refine pv_afterL (inj := inj) (q := q) hL hl (va_runV (As := As) (rest := st) ⟨C.1, C.2.1, C.2.2.1, C.2.2.2.1, C.2.2.2.2.1⟩ (hM q rfl) (cwV n C.2.2.2.2.1 hg rfl rfl rfl ⟨rfl, w6⟩ ?_) ⟨pv_blind, pv_recv C hW hk hs hc, pv_preU C hW⟩ rfl hA hl.1 rfl (lv_room hst) hd ?_) hv k
    · exact ⟨hR.1, by show 8 + (n2 + 11) + 80 * d2 ≤ _; omega⟩
    · exact ⟨hR.2.2.1, hR.2.2.2⟩
theorem rw_callLi {i : Nat} {y : MethodName} {c2 : ByteArray} {n2 : Nat} {r2 : Option FieldType} {n d2 : Nat} {k0 c nf : Nat} {T : u_T} {As : List Value} {x : Option (Int32 × pv_M)} {z : Int32 → pv_M → Option α} (C : pv_Ok g κ nL cc own ret) (hR : d2 + 1 ≤ g.2.2.2.1.frames ∧ 80 + 80 * d2 ≤ g.2.2.2.1.locals ∧ cells ≤ g.2.2.2.1.cells ∧ slots ≤ g.2.2.2.1.slots) (hd : decode cc pc = .ok (.invokevirtual i, 3)) (hw : pv_cv own i y c2 n2 r2 n) (hM : pv_Mt g.2.1 y c2 n2 r2 d2 κ (.ref (κ.1 + k0) :: As) M pv_ji x) (hn2 : n2 ≤ 50) (hk : k0 < pv_T) (hs : pv_SH k0 = (c + 3, nf)) (hc : pv_cl[c]? = some (y.cls, T, nf)) (hA : As.length = n) (hst : ((st.map fun v => v.category).sum ≤ 8)) {st0 : List Value} (h0 : st0 = As.reverse ++ .ref (κ.1 + k0) :: st)
    (k : ∀ (r : Int32) M', pv_R g κ pv_T pv_RF nL cells slots Q (pc + 3) lv (.int r :: st) M' (z r M')) : pv_R g κ pv_T pv_RF nL cells slots Q pc lv st0 M (pv_cal x z) := rw_callL (inj := pv_ji) C hR hd hw hM hn2 hk hs hc hA hst h0 k
theorem rw_callLl {i : Nat} {y : MethodName} {c2 : ByteArray} {n2 : Nat} {r2 : Option FieldType} {n d2 : Nat} {k0 c nf : Nat} {T : u_T} {As : List Value} {x : Option (Int64 × pv_M)} {z : Int64 → pv_M → Option α} (C : pv_Ok g κ nL cc own ret) (hR : d2 + 1 ≤ g.2.2.2.1.frames ∧ 80 + 80 * d2 ≤ g.2.2.2.1.locals ∧ cells ≤ g.2.2.2.1.cells ∧ slots ≤ g.2.2.2.1.slots) (hd : decode cc pc = .ok (.invokevirtual i, 3)) (hw : pv_cv own i y c2 n2 r2 n) (hM : pv_Mt g.2.1 y c2 n2 r2 d2 κ (.ref (κ.1 + k0) :: As) M pv_jl x) (hn2 : n2 ≤ 50) (hk : k0 < pv_T) (hs : pv_SH k0 = (c + 3, nf)) (hc : pv_cl[c]? = some (y.cls, T, nf)) (hA : As.length = n) (hst : ((st.map fun v => v.category).sum ≤ 8)) {st0 : List Value} (h0 : st0 = As.reverse ++ .ref (κ.1 + k0) :: st)
    (k : ∀ (r : Int64) M', pv_R g κ pv_T pv_RF nL cells slots Q (pc + 3) lv (.long r :: st) M' (z r M')) : pv_R g κ pv_T pv_RF nL cells slots Q pc lv st0 M (pv_cal x z) := rw_callL (inj := pv_jl) C hR hd hw hM hn2 hk hs hc hA hst h0 k
theorem pv_afterLP {z : β → Option α} {v : α} {inj : β → Option Value} {q : β} {st0 : List Value} {a : Array Value} {H : Heap} {locs : List Loc} {ls : Array Slot} (hL : ∀ q ∈ locs, κ.1 ≤ q.base) (hl : lv_has ls nL lv)
    (hr : va_Run g.1 g.2.1 g.2.2.1 g.2.2.2.1 g.2.2.2.2.1 g.2.2.2.2.2.1 g.2.2.2.2.2.2.1 g.2.2.2.2.2.2.2.1 g.2.2.2.2.2.2.2.2.1 g.2.2.2.2.2.2.2.2.2 H locs cells slots 0 0 (F0 g.2.2.2.2.2.1 pc ls st0) st (pv_Post κ (inj q) M a) (fun q => κ.1 ≤ q))
    (hv : z q = some v) (k : ∀ r, pv_R g κ pv_T pv_RF nL cells slots Q (pc + 3) lv ((inj r).toList ++ st) M (z r)) :
    W g.1 g.2.1 g.2.2.1 g.2.2.2.1 g.2.2.2.2.1 g.2.2.2.2.2.1 g.2.2.2.2.2.2.1 g.2.2.2.2.2.2.2.1 g.2.2.2.2.2.2.2.2.1 g.2.2.2.2.2.2.2.2.2 H locs cells slots (Q v) (F0 g.2.2.2.2.2.1 pc ls st0) := by
  intro T hT X
  obtain ⟨v', st₀, t, T', L, h0, X', hL', e1, e2, ⟨ho, hWd⟩, stp⟩ := hr T hT X
  cases ho
  obtain ⟨t2, a1, b1⟩ := k q v hv T'.heap (locs ++ L) ls (by rw [e1]; exact hWd) (fun y hy => (List.mem_append.mp hy).elim (hL y) (hL' y)) hl T' rfl X'
  exact ⟨t2, stp t2 a1, b1⟩
theorem rw_callLP {i : Nat} {y : MethodName} {c2 : ByteArray} {n2 : Nat} {r2 : Option FieldType} {n d2 : Nat} {k0 c nf : Nat} {T : u_T} {As : List Value} {inj : β → Option Value} {x : Option β} {z : β → Option α} (C : pv_Ok g κ nL cc own ret) (hR : d2 + 1 ≤ g.2.2.2.1.frames ∧ 80 + 80 * d2 ≤ g.2.2.2.1.locals ∧ cells ≤ g.2.2.2.1.cells ∧ slots ≤ g.2.2.2.1.slots) (hd : decode cc pc = .ok (.invokevirtual i, 3)) (hw : pv_cv own i y c2 n2 r2 n) (hM : pv_MtP g.2.1 y c2 n2 r2 d2 κ (.ref (κ.1 + k0) :: As) M inj x) (hn2 : n2 ≤ 50) (hk : k0 < pv_T) (hs : pv_SH k0 = (c + 3, nf)) (hc : pv_cl[c]? = some (y.cls, T, nf)) (hA : As.length = n) (hst : ((st.map fun v => v.category).sum ≤ 8)) {st0 : List Value} (h0 : st0 = As.reverse ++ .ref (κ.1 + k0) :: st)
    (k : ∀ r, pv_R g κ pv_T pv_RF nL cells slots Q (pc + 3) lv ((inj r).toList ++ st) M (z r)) : pv_R g κ pv_T pv_RF nL cells slots Q pc lv st0 M (pv_cap x z) := by
  intro v hv H locs ls hW hL hl
  cases x with
  | none => cases hv
  | some b =>
    subst h0
    obtain ⟨w1, w2, w3, w4, w5, w6⟩ := hw
    have hg : GoodIn UW (wsV own i y.cls y (.code y c2 n2 r2 :: UW)) := pv_good (fun w h => by
      rcases List.mem_append.mp h with h | h
      · simp only [List.mem_cons, List.mem_nil_iff, or_false] at h
        rcases h with rfl | rfl | rfl | rfl
        · exact w1
        · exact w2
        · exact w3
        · exact w4
      · exact pv_codeUW w5 w h)
    refine pv_afterLP (inj := inj) (q := b) hL hl (va_runV (As := As) (rest := st) ⟨C.1, C.2.1, C.2.2.1, C.2.2.2.1, C.2.2.2.2.1⟩ (hM b rfl) (cwV n C.2.2.2.2.1 hg rfl rfl rfl ⟨rfl, w6⟩ ?_) ⟨pv_blind, pv_recv C hW hk hs hc, pv_preU C hW⟩ rfl hA hl.1 rfl (lv_room hst) hd ?_) hv k
    · exact ⟨hR.1, by show 8 + (n2 + 11) + 80 * d2 ≤ _; omega⟩
    · exact ⟨hR.2.2.1, hR.2.2.2⟩
theorem rw_callLPi {i : Nat} {y : MethodName} {c2 : ByteArray} {n2 : Nat} {r2 : Option FieldType} {n d2 : Nat} {k0 c nf : Nat} {T : u_T} {As : List Value} {x : Option Int32} {z : Int32 → Option α} (C : pv_Ok g κ nL cc own ret) (hR : d2 + 1 ≤ g.2.2.2.1.frames ∧ 80 + 80 * d2 ≤ g.2.2.2.1.locals ∧ cells ≤ g.2.2.2.1.cells ∧ slots ≤ g.2.2.2.1.slots) (hd : decode cc pc = .ok (.invokevirtual i, 3)) (hw : pv_cv own i y c2 n2 r2 n) (hM : pv_MtP g.2.1 y c2 n2 r2 d2 κ (.ref (κ.1 + k0) :: As) M pv_ji x) (hn2 : n2 ≤ 50) (hk : k0 < pv_T) (hs : pv_SH k0 = (c + 3, nf)) (hc : pv_cl[c]? = some (y.cls, T, nf)) (hA : As.length = n) (hst : ((st.map fun v => v.category).sum ≤ 8)) {st0 : List Value} (h0 : st0 = As.reverse ++ .ref (κ.1 + k0) :: st)
    (k : ∀ (r : Int32), pv_R g κ pv_T pv_RF nL cells slots Q (pc + 3) lv (.int r :: st) M (z r)) : pv_R g κ pv_T pv_RF nL cells slots Q pc lv st0 M (pv_cap x z) := rw_callLP (inj := pv_ji) C hR hd hw hM hn2 hk hs hc hA hst h0 k
theorem rw_callLPl {i : Nat} {y : MethodName} {c2 : ByteArray} {n2 : Nat} {r2 : Option FieldType} {n d2 : Nat} {k0 c nf : Nat} {T : u_T} {As : List Value} {x : Option Int64} {z : Int64 → Option α} (C : pv_Ok g κ nL cc own ret) (hR : d2 + 1 ≤ g.2.2.2.1.frames ∧ 80 + 80 * d2 ≤ g.2.2.2.1.locals ∧ cells ≤ g.2.2.2.1.cells ∧ slots ≤ g.2.2.2.1.slots) (hd : decode cc pc = .ok (.invokevirtual i, 3)) (hw : pv_cv own i y c2 n2 r2 n) (hM : pv_MtP g.2.1 y c2 n2 r2 d2 κ (.ref (κ.1 + k0) :: As) M pv_jl x) (hn2 : n2 ≤ 50) (hk : k0 < pv_T) (hs : pv_SH k0 = (c + 3, nf)) (hc : pv_cl[c]? = some (y.cls, T, nf)) (hA : As.length = n) (hst : ((st.map fun v => v.category).sum ≤ 8)) {st0 : List Value} (h0 : st0 = As.reverse ++ .ref (κ.1 + k0) :: st)
    (k : ∀ (r : Int64), pv_R g κ pv_T pv_RF nL cells slots Q (pc + 3) lv (.long r :: st) M (z r)) : pv_R g κ pv_T pv_RF nL cells slots Q pc lv st0 M (pv_cap x z) := rw_callLP (inj := pv_jl) C hR hd hw hM hn2 hk hs hc hA hst h0 k
end PVLC
