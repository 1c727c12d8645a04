/-- a field that an instruction names: class number, place, and the words of it -/
def pv_fl (own : String) (i c f : Nat) : Prop := ∃ (T : u_T) (n : Nat) (C : String), pv_cl[c]? = some (C, T, n) ∧ f < n ∧ (∀ w ∈ u_ws C T n, w ∈ UW) ∧ (Cond.fieldLink own i C (T f).2.1 (T f).2.2.1) ∈ UW ∧ (∀ a, a < n → ∀ b, b < n → a ≠ b → (T a).2.1 ≠ (T b).2.1) ∧ (∀ k, k < n → parseFieldDescriptor (T k).2.2.1 = some (pv_ty c k)) ∧ (T f).1 = C
def pv_fin (c f : Nat) (b : Bool) : Prop := ∀ (T : u_T) (n : Nat) (C : String), pv_cl[c]? = some (C, T, n) → (T f).2.2.2 = b
section PVF
variable {α : Type} {g : pv_X} {κ : pv_K} {N : Nat} {rf : Nat → Nat → Option Nat} {nL cells slots : Nat} {Q : α → State → Prop} {pc : Nat} {lv : List (Nat × Value)} {st : List Value} {M : pv_M} {x : Option α} {cc : ByteArray} {own : String} {ret : Option FieldType}
theorem rw_getI {i c f n k0 : Nat} {y : Int32 → Option α} (C : pv_Ok g κ nL cc own ret) (hd : decode cc pc = .ok (.getfield i, 3)) (hf : pv_fl own i c f) (hr : pv_isR c f = false) (hk : k0 < N) (hs : pv_SH k0 = (c + 3, n)) (hfn : f < n) (k : ∀ v, pv_R g κ N rf nL cells slots Q (pc + 3) lv (.int v :: st) M (y v)) : pv_R g κ N rf nL cells slots Q pc lv (.ref (κ.1 + k0) :: st) M (pv_nm (M.1 k0 f) y) := by
  intro v hv H locs ls hW hL hl
  obtain ⟨T, n', Cn, h1, h2, h3, h4, h5, h6, h7⟩ := hf
  have hat : (pv_wl κ N rf M)[k0]? = some (κ.1 + k0, .inr (c, pv_fs κ.1 (rf k0) (M.1 k0) c n)) := by rw [pv_wl_get hk, pv_ent_O hs]
  refine va_get C.1 C.2.1 C.2.2.2.2.1 h3 C.2.2.2.1 C.2.2.2.2.2.1.1 hW.1 k0 hat h1 f h2 (C.2.2.2.2.1 _ h4) (fun q hq => by rw [h7] at hq; exact hq) (v := .int (M.1 k0 f)) (by rw [pv_fs_get hfn]; simp [pv_fv, hr]) hd ?_
  exact k _ v hv H locs ls hW hL hl
theorem rw_getR {i c f n k0 k1 : Nat} (C : pv_Ok g κ nL cc own ret) (hd : decode cc pc = .ok (.getfield i, 3)) (hf : pv_fl own i c f) (hr : pv_isR c f = true) (hk : k0 < N) (hs : pv_SH k0 = (c + 3, n)) (hfn : f < n) (hv1 : rf k0 f = some k1) (k : pv_R g κ N rf nL cells slots Q (pc + 3) lv (.ref (κ.1 + k1) :: st) M x) : pv_R g κ N rf nL cells slots Q pc lv (.ref (κ.1 + k0) :: st) M x := by
  intro v hv H locs ls hW hL hl
  obtain ⟨T, n', Cn, h1, h2, h3, h4, h5, h6, h7⟩ := hf
  have hat : (pv_wl κ N rf M)[k0]? = some (κ.1 + k0, .inr (c, pv_fs κ.1 (rf k0) (M.1 k0) c n)) := by rw [pv_wl_get hk, pv_ent_O hs]
  refine va_get C.1 C.2.1 C.2.2.2.2.1 h3 C.2.2.2.1 C.2.2.2.2.2.1.1 hW.1 k0 hat h1 f h2 (C.2.2.2.2.1 _ h4) (fun q hq => by rw [h7] at hq; exact hq) (v := .ref (κ.1 + k1)) (by rw [pv_fs_get hfn]; simp [pv_fv, hr, hv1, va_rf]) hd ?_
  exact k v hv H locs ls hW hL hl
theorem pv_locs {κ : pv_K} {locs : List Loc} {a i : Nat} (hL : ∀ q ∈ locs, κ.1 ≤ q.base) (ha : κ.1 ≤ a) : ∀ q ∈ locs ++ [⟨a, i⟩], κ.1 ≤ q.base := by
  intro q hq
  rcases List.mem_append.mp hq with h | h
  · exact hL q h
  · rw [List.mem_singleton.mp h]
    exact ha
/-- a field of ints (or of truth values) is set -/
theorem rw_put {i c f n k0 : Nat} {y : Int32} {z : pv_M → Option α} (C : pv_Ok g κ nL cc own ret) (hd : decode cc pc = .ok (.putfield i, 3)) (hf : pv_fl own i c f) (hfi : pv_fin c f false) (hr : pv_isR c f = false) (hn : narrow (pv_ty c f) (.int y) = .int y) (hfit : fits (pv_ty c f) (.int y) = true) (hk : k0 < N) (hs : pv_SH k0 = (c + 3, n)) (hfn : f < n) (k : ∀ M', pv_R g κ N rf nL cells slots Q (pc + 3) lv st M' (z M')) : pv_R g κ N rf nL cells slots Q pc lv (.int y :: .ref (κ.1 + k0) :: st) M (pv_nm (pv_u M.1 k0 f y, M.2) z) := by
  intro v hv H locs ls hW hL hl
  obtain ⟨T, n', Cn, h1, h2, h3, h4, h5, h6, h7⟩ := hf
  have hts := C.2.2.2.2.1
  have hK := C.2.2.2.2.2.1.1
  have hap := va_apart (own := own) hts h3 (pv_ty c) h6 h5 hK h1
  have hat : (pv_wl κ N rf M)[k0]? = some (κ.1 + k0, .inr (c, pv_fs κ.1 (rf k0) (M.1 k0) c n)) := by rw [pv_wl_get hk, pv_ent_O hs]
  obtain ⟨r, h1', cell, q1, q2, q3, q4⟩ := hW.1 k0 _ hat
  have hr' : r = (Cn, T, n') := Option.some.inj (h1'.symm.trans h1)
  subst hr'
  obtain ⟨hS, hfc, kC, hkC, hkind⟩ := hK.1 c _ h1
  obtain ⟨cf, kf, fi, fd, hi, hsl⟩ := hS f h2
  have hlay := hts _ (h3 _ (u_in_lay h2))
  unfold u_lay at hlay
  rw [if_neg (by rw [hfi T n' Cn h1]; decide)] at hlay
  have hst := (u_facts hfc hkC (u_lays hts h3 h2) hi).1
  have h6' := u_store hfc hkC hkind hlay hi (h6 f h2) hn hfit
  refine W.putK C.1 C.2.1 (f := fd) ⟨C.2.2.2.1, hts _ h4, ⟨_, _, _, by rw [h7] at hi; exact hi⟩, hst⟩ (by rw [q2]; exact h6') q1 q3 (by rw [hsl]; exact k2_hasslot (q4 f h2)) rfl rfl hd fun H' e1 e2 e3 => ?_
  rw [hsl] at e1 ⊢
  refine k _ v hv H' _ ls (hW.set (k := k0) e2 e3 ?_ (fun j _ hj => pv_ent_cong (pv_u_ne _ _ _ hj) rfl rfl)) (pv_locs hL (Nat.le_add_right _ _)) hl
  rw [pv_ent_O hs]
  refine ⟨_, h1, t_OB.to (V := updV (vp_V (pv_fs κ.1 (rf k0) (M.1 k0) c n)) f (.int y)) ⟨_, e1, q2, q3, t_set q4 hap h2 _⟩ (fun j hj => ?_)⟩
  by_cases e : j = f
  · subst e
    simp only [updV, if_pos, vp_V, List.getD_eq_getElem?_getD]
    rw [pv_fs_get hfn]
    simp [pv_fv, hr, pv_u]
  · simp only [updV, e, if_neg, vp_V, List.getD_eq_getElem?_getD, not_false_eq_true]
    by_cases hjn : j < n
    · rw [pv_fs_get hjn, pv_fs_get hjn]
      simp [pv_fv, pv_u, e]
    · rw [List.getElem?_eq_none (by rw [pv_fs_len]; omega), List.getElem?_eq_none (by rw [pv_fs_len]; omega)]
theorem rw_ldI {j : Int32} {k0 : Nat} {y : Int32 → Option α} (C : pv_Ok g κ nL cc own ret) (hd : decode cc pc = .ok (.iaload, 1)) (k : ∀ v, pv_R g κ N rf nL cells slots Q (pc + 1) lv (.int v :: st) M (y v)) : pv_R g κ N rf nL cells slots Q pc lv (.int j :: .ref (κ.1 + k0) :: st) M (pv_ldI N k0 j M y) := by
  intro v hv H locs ls hW hL hl
  unfold pv_ldI at hv
  split at hv
  · rename_i hb
    obtain ⟨hk, h0, hin⟩ := pv_okb_of hb
    exact va_iald C.1 C.2.1 C.2.2.2.2.2.1.1 hW.1 k0 0 (by rw [pv_wl_get hk, pv_ent_I h0]) rfl hin hd (k _ v hv H locs ls hW hL hl)
  · cases hv
theorem rw_ldL {j : Int32} {k0 : Nat} {y : Int64 → Option α} (C : pv_Ok g κ nL cc own ret) (hd : decode cc pc = .ok (.laload, 1)) (k : ∀ v, pv_R g κ N rf nL cells slots Q (pc + 1) lv (.long v :: st) M (y v)) : pv_R g κ N rf nL cells slots Q pc lv (.int j :: .ref (κ.1 + k0) :: st) M (pv_ldL N k0 j M y) := by
  intro v hv H locs ls hW hL hl
  unfold pv_ldL at hv
  split at hv
  · rename_i hb
    obtain ⟨hk, h0, hin⟩ := pv_okb_of hb
    exact va_lald C.1 C.2.1 C.2.2.2.2.2.1.1 hW.1 k0 1 (by rw [pv_wl_get hk, pv_ent_L h0]) rfl hin hd (k _ v hv H locs ls hW hL hl)
  · cases hv
theorem rw_ldR {j : Int32} {k0 : Nat} {y : Nat → Option α} (C : pv_Ok g κ nL cc own ret) (hd : decode cc pc = .ok (.aaload, 1)) (k : ∀ v, pv_R g κ N rf nL cells slots Q (pc + 1) lv (.ref (κ.1 + v) :: st) M (y v)) : pv_R g κ N rf nL cells slots Q pc lv (.int j :: .ref (κ.1 + k0) :: st) M (pv_ldR N k0 j y) := by
  intro v hv H locs ls hW hL hl
  unfold pv_ldR at hv
  split at hv
  · rename_i hb
    obtain ⟨hk, h0, hin⟩ := pv_okb_of hb
    have hlt : j.toNatClampNeg < (pv_SH k0).2 := Nat.not_le.mp fun q => hin (Or.inr q)
    have ha : va_at (pv_D κ) pv_cl (κ.1 + k0, pv_ent κ rf M k0) H := pv_at hW hk
    rw [pv_ent_R h0] at ha
    have ht : (pv_tys κ)[2]? = some (pv_cR κ, .array .int) := rfl
    exact W.aald (v := .ref (κ.1 + (k0 + 1 + j.toNatClampNeg))) (ty := .array .int) C.1 C.2.1 ha ((C.2.2.2.2.2.1.1.2 2 _ ht).1 (pv_SH k0).2 (fun i => va_rf (some (κ.1 + (k0 + 1 + i))))) rfl (fun q => by cases q) (by show ¬ (j < 0 ∨ (arrV _ _ _).slots.size ≤ _); rw [arrV_size]; exact hin) (by show (arrV _ _ _).slots[_]? = _; rw [arrV_read _ _ hlt]; rfl) rfl rfl hd (k _ v hv H locs ls hW hL hl)
  · cases hv
theorem rw_stI {j y : Int32} {k0 : Nat} {z : pv_M → Option α} (C : pv_Ok g κ nL cc own ret) (hd : decode cc pc = .ok (.iastore, 1)) (k : ∀ M', pv_R g κ N rf nL cells slots Q (pc + 1) lv st M' (z M')) : pv_R g κ N rf nL cells slots Q pc lv (.int y :: .int j :: .ref (κ.1 + k0) :: st) M (pv_stI N k0 j y M z) := by
  intro v hv H locs ls hW hL hl
  unfold pv_stI at hv
  split at hv
  · rename_i hb
    obtain ⟨hk, h0, hin⟩ := pv_okb_of hb
    have ha : va_at (pv_D κ) pv_cl (κ.1 + k0, pv_ent κ rf M k0) H := pv_at hW hk
    rw [pv_ent_I h0] at ha
    have ht : (pv_tys κ)[0]? = some (pv_cI κ, .int) := rfl
    refine W.iast C.1 C.2.1 ha ((C.2.2.2.2.2.1.1.2 0 _ ht).1 (pv_SH k0).2 (fun i => .int (M.1 k0 i))) (fun q => by cases q) (by show ¬ (j < 0 ∨ (arrV _ _ _).slots.size ≤ _); rw [arrV_size]; exact hin) rfl rfl hd fun H1 e1 e2 e3 => ?_
    refine k _ v hv H1 _ ls (hW.set (k := k0) e2 e3 ?_ (fun i _ hi => pv_ent_cong (pv_u_ne _ _ _ hi) rfl rfl)) (pv_locs hL (Nat.le_add_right _ _)) hl
    rw [pv_ent_I h0]
    show H1[κ.1 + k0]? = some (vp_cell _ _)
    rw [e1]
    rw [vp_cell_i, vp_cell_i, arrV_store]
    congr 2
    funext q
    by_cases hq : q = j.toNatClampNeg
    · subst hq
      simp [updV, pv_u]
    · simp [updV, pv_u, hq]
  · cases hv
theorem rw_stL {j : Int32} {y : Int64} {k0 : Nat} {z : pv_M → Option α} (C : pv_Ok g κ nL cc own ret) (hd : decode cc pc = .ok (.lastore, 1)) (k : ∀ M', pv_R g κ N rf nL cells slots Q (pc + 1) lv st M' (z M')) : pv_R g κ N rf nL cells slots Q pc lv (.long y :: .int j :: .ref (κ.1 + k0) :: st) M (pv_stL N k0 j y M z) := by
  intro v hv H locs ls hW hL hl
  unfold pv_stL at hv
  split at hv
  · rename_i hb
    obtain ⟨hk, h0, hin⟩ := pv_okb_of hb
    have ha : va_at (pv_D κ) pv_cl (κ.1 + k0, pv_ent κ rf M k0) H := pv_at hW hk
    rw [pv_ent_L h0] at ha
    have ht : (pv_tys κ)[1]? = some (pv_cL κ, .long) := rfl
    refine W.last C.1 C.2.1 ha ((C.2.2.2.2.2.1.1.2 1 _ ht).1 (pv_SH k0).2 (fun i => .long (M.2 k0 i))) (fun q => by cases q) (by show ¬ (j < 0 ∨ (arrV _ _ _).slots.size ≤ _); rw [arrV_size]; exact hin) rfl rfl hd fun H1 e1 e2 e3 => ?_
    refine k _ v hv H1 _ ls (hW.set (k := k0) e2 e3 ?_ (fun i _ hi => pv_ent_cong rfl (pv_u_ne _ _ _ hi) rfl)) (pv_locs hL (Nat.le_add_right _ _)) hl
    rw [pv_ent_L h0]
    show H1[κ.1 + k0]? = some (vp_cell _ _)
    rw [e1]
    rw [vp_cell_l, vp_cell_l, arrV_store]
    congr 2
    funext q
    by_cases hq : q = j.toNatClampNeg
    · subst hq
      simp [updV, pv_u]
    · simp [updV, pv_u, hq]
  · cases hv
theorem rw_len {k0 : Nat} {y : Int32 → Option α} (C : pv_Ok g κ nL cc own ret) (hd : decode cc pc = .ok (.arraylength, 1)) (k : ∀ v, pv_R g κ N rf nL cells slots Q (pc + 1) lv (.int v :: st) M (y v)) : pv_R g κ N rf nL cells slots Q pc lv (.ref (κ.1 + k0) :: st) M (pv_len N k0 y) := by
  intro v hv H locs ls hW hL hl
  unfold pv_len at hv
  split at hv
  · rename_i hb
    obtain ⟨hk, h0⟩ := hb
    rcases (show (pv_SH k0).1 = 0 ∨ (pv_SH k0).1 = 1 ∨ (pv_SH k0).1 = 2 by omega) with e | e | e
    · exact va_alen C.1 C.2.1 C.2.2.2.2.2.1.1 hW.1 k0 0 (by rw [pv_wl_get hk, pv_ent_I e]) rfl rfl hd (k _ v hv H locs ls hW hL hl)
    · exact va_alen C.1 C.2.1 C.2.2.2.2.2.1.1 hW.1 k0 1 (by rw [pv_wl_get hk, pv_ent_L e]) rfl rfl hd (k _ v hv H locs ls hW hL hl)
    · exact va_alen C.1 C.2.1 C.2.2.2.2.2.1.1 hW.1 k0 2 (by rw [pv_wl_get hk, pv_ent_R e]) rfl rfl hd (k _ v hv H locs ls hW hL hl)
  · cases hv
end PVF
/-- a method's room: d frames below it -/
def pv_rm (d : Nat) : Room := { frames := d, cells := 0, slots := 0, locals := 80 * d }
/-- a method's contract: where x says an answer and a memory, it comes to them -/
def pv_Pre (κ : pv_K) (av : List Value) (M : pv_M) : Array Value → State → Prop := va_Pc av (fun U => pv_Wd κ pv_T pv_RF M U.heap ∧ pv_Kn κ U)
def pv_Post (κ : pv_K) (r : Option Value) (M : pv_M) : Array Value → State → Outcome → State → Prop := fun _ _ oc t => oc = .returned r ∧ pv_Wd κ pv_T pv_RF M t.heap
def pv_Mt {β : Type} (l : Launch) (y : MethodName) (cc : ByteArray) (nL : Nat) (ret : Option FieldType) (d : Nat) (κ : pv_K) (av : List Value) (M : pv_M) (inj : β → Option Value) (x : Option (β × pv_M)) : Prop :=
  ∀ v, x = some v → Met l y (.code y cc nL ret :: UW) (pv_rm d) (pv_Pre κ av M) (pv_Post κ (inj v.1) v.2) 0 0 (fun q => κ.1 ≤ q)
def pv_ji (r : Int32) : Option Value := some (.int r)
def pv_jl (r : Int64) : Option Value := some (.long r)
def pv_ju (_ : Unit) : Option Value := none
def pv_jr (κ : pv_K) (k : Nat) : Option Value := some (.ref (κ.1 + k))
def pv_QF {β : Type} (g : pv_X) (κ : pv_K) (inj : β → Option Value) : β × pv_M → State → Prop := fun v => MQ g.2.2.2.2.2.2.2.1 (pv_Post κ (inj v.1) v.2) g.2.2.2.2.2.2.1 g.2.2.2.2.1 0 0 (fun q => κ.1 ≤ q)
theorem pv_blind {κ : pv_K} {av : List Value} {M : pv_M} : FrameBlind (pv_Pre κ av M) := fun _ _ _ _ h => ⟨h.1, h.2.1, h.2.2.same rfl⟩
theorem pv_enter {β : Type} {l : Launch} {y : MethodName} {cc : ByteArray} {nL : Nat} {ret : Option FieldType} {d : Nat} {κ : pv_K} {av : List Value} {M : pv_M} {inj : β → Option Value} {x : Option (β × pv_M)} (hy : plainName y.cls = true) (ha : (lg_sl av).length ≤ nL)
    (body : ∀ g : pv_X, g.2.1 = l → g.2.2.2.1 = pv_rm d → pv_Ok g κ nL cc y.cls ret → pv_R g κ pv_T pv_RF nL 0 0 (pv_QF g κ inj) 0 (lv_args 0 av) [] M x) : pv_Mt l y cc nL ret d κ av M inj x := by
  intro v hv
  refine Met.ofW (cc := cc) (maxL := nL) (ret := ret) hy rfl ?_
  intro p e s m args below meth c s₁ B hml hP
  obtain ⟨rfl, hW, hKn⟩ := hP
  have hts := atoms_spec (ws := Cond.code y cc nL ret :: UW) B.pre
  have hown : s.vm.findClass y.cls = some m.cls := findClass_of_methodNamed B.named
  rw [lg_entry_eq]
  exact body (p, l, e, pv_rm d, s, m, av.toArray, below, meth, c) rfl rfl ⟨B.exec, B.bytes, hml, hown, fun w hw => hts w (List.mem_cons_of_mem _ hw), hKn, B.notSynchronized, B.returns⟩ v hv s.heap [] _ hW (fun q h => by cases h) (lv_entry av ha)
section PVR
variable {g : pv_X} {κ : pv_K} {nL : Nat} {pc : Nat} {lv : List (Nat × Value)} {M : pv_M} {cc : ByteArray} {own : String}
theorem rw_iret {r : Int32} (C : pv_Ok g κ nL cc own (some .int)) (hd : decode cc pc = .ok (.ireturn, 1)) : pv_R g κ pv_T pv_RF nL 0 0 (pv_QF g κ pv_ji) pc lv [.int r] M (some (r, M)) := by
  intro v hv H locs ls hW hL hl
  cases hv
  have hlk := C.2.2.2.2.2.2.1
  exact W.iret C.1 C.2.1 C.2.2.2.2.2.2.2 (fun t ht hWm => ⟨rfl, by rw [ht]; exact hW⟩) hL hd hlk
theorem rw_zret {r : Int32} (hr : r = 0 ∨ r = 1) (C : pv_Ok g κ nL cc own (some .boolean)) (hd : decode cc pc = .ok (.ireturn, 1)) : pv_R g κ pv_T pv_RF nL 0 0 (pv_QF g κ pv_ji) pc lv [.int r] M (some (r, M)) := by
  intro v hv H locs ls hW hL hl
  cases hv
  have hlk := C.2.2.2.2.2.2.1
  have hn : narrow .boolean (.int r) = .int r := by rcases hr with rfl | rfl <;> decide +kernel
  exact W.zret C.1 C.2.1 C.2.2.2.2.2.2.2 hn (fun t ht hWm => ⟨rfl, by rw [ht]; exact hW⟩) hL hd hlk
theorem rw_zret_ck {r : Int32} (C : pv_Ok g κ nL cc own (some .boolean)) (hd : decode cc pc = .ok (.ireturn, 1)) : pv_R g κ pv_T pv_RF nL 0 0 (pv_QF g κ pv_ji) pc lv [.int r] M (if r = 0 ∨ r = 1 then some (r, M) else none) := by
  intro v hv
  by_cases h : r = 0 ∨ r = 1
  · rw [if_pos h] at hv
    exact rw_zret h C hd v hv
  · rw [if_neg h] at hv
    cases hv
theorem rw_lret {r : Int64} (C : pv_Ok g κ nL cc own (some .long)) (hd : decode cc pc = .ok (.lreturn, 1)) : pv_R g κ pv_T pv_RF nL 0 0 (pv_QF g κ pv_jl) pc lv [.long r] M (some (r, M)) := by
  intro v hv H locs ls hW hL hl
  cases hv
  have hlk := C.2.2.2.2.2.2.1
  exact W.lret C.1 C.2.1 C.2.2.2.2.2.2.2 (fun t ht hWm => ⟨rfl, by rw [ht]; exact hW⟩) hL hd hlk
theorem rw_vret (C : pv_Ok g κ nL cc own none) (hd : decode cc pc = .ok (.return_, 1)) : pv_R g κ pv_T pv_RF nL 0 0 (pv_QF g κ pv_ju) pc lv [] M (some ((), M)) := by
  intro v hv H locs ls hW hL hl
  cases hv
  have hlk := C.2.2.2.2.2.2.1
  exact W.vret C.1 C.2.1 C.2.2.2.2.2.2.2 (fun t ht hWm => ⟨rfl, by rw [ht]; exact hW⟩) hL hd hlk
theorem rw_aret {r : Nat} {rt : FieldType} (hrt : (∃ n, rt = .object n) ∨ ∃ t, rt = .array t) (C : pv_Ok g κ nL cc own (some rt)) (hd : decode cc pc = .ok (.areturn, 1)) : pv_R g κ pv_T pv_RF nL 0 0 (pv_QF g κ (pv_jr κ)) pc lv [.ref (κ.1 + r)] M (some (r, M)) := by
  intro v hv H locs ls hW hL hl
  cases hv
  have hlk := C.2.2.2.2.2.2.1
  exact W.aret C.1 C.2.1 C.2.2.2.2.2.2.2 hrt (Or.inr ⟨_, rfl⟩) (fun t ht hWm => ⟨rfl, by rw [ht]; exact hW⟩) hL hd hlk
end PVR
/-- what a call's words say: a method of an object, a static one, a nest mate's static one -/
def pv_cd (y : MethodName) (n : Nat) : Prop := y.cls ≠ "java/lang/invoke/MethodHandle" ∧ y.cls ≠ "java/lang/invoke/VarHandle" ∧ (parseMethodDescriptor y.desc).map (fun d => d.parameters.length) = some n
def pv_cv (own : String) (i : Nat) (y : MethodName) (cc : ByteArray) (nL : Nat) (ret : Option FieldType) (n : Nat) : Prop := Cond.methodLink own i y ∈ UW ∧ Cond.instanceMethod y ∈ UW ∧ Cond.selects y.cls y y ∈ UW ∧ Cond.initialized y.cls ∈ UW ∧ Cond.code y cc nL ret ∈ UW ∧ pv_cd y n
def pv_cs (own : String) (i : Nat) (y : MethodName) (cc : ByteArray) (nL : Nat) (ret : Option FieldType) (n : Nat) : Prop := Cond.methodLink own i y ∈ UW ∧ Cond.static y ∈ UW ∧ Cond.initialized y.cls ∈ UW ∧ Cond.code y cc nL ret ∈ UW ∧ pv_cd y n
def pv_cn (own : String) (i : Nat) (y : MethodName) (cc : ByteArray) (nL : Nat) (ret : Option FieldType) (n : Nat) (host : String) : Prop := Cond.methodLinkNest own i y host ∈ pv_nw ∧ Cond.static y ∈ UW ∧ Cond.initialized y.cls ∈ UW ∧ Cond.code y cc nL ret ∈ UW ∧ pv_cd y n
theorem pv_goodw {w : Cond} (h : w ∈ UW) : w ∈ UW ∧ ((w.onTables && w.keeps) = true ∨ ∃ ty, w = .arrayClass ty) := ⟨h, good_of_word (List.all_eq_true.mp UW_good w h)⟩
theorem pv_good {ws : List Cond} (h : ∀ w ∈ ws, w ∈ UW) : GoodIn UW ws := fun w hw => pv_goodw (h w hw)
theorem pv_codeUW {w : Cond} (h : w ∈ UW) : ∀ v ∈ w :: UW, v ∈ UW := fun v hv => (List.mem_cons.mp hv).elim (fun e => by rw [e]; exact h) id
section PVC
variable {α β : Type} {g : pv_X} {κ : pv_K} {nL : Nat} {Q : α → State → Prop} {pc : Nat} {lv : List (Nat × Value)} {st : List Value} {M : pv_M} {cc : ByteArray} {own : String} {ret : Option FieldType}
/-- behind a run of a call whose end is pv_Post -/
theorem pv_after {z : β → pv_M → Option α} {v : α} {inj : β → Option Value} {q : β × pv_M} {st0 : List Value} {a : Array Value} {H : Heap} {locs : List Loc} {ls : Array Slot} (hL : ∀ q ∈ locs, κ.1 ≤ q.base) (hl : lv_has ls nL lv)
    (hr : va_Run g.1 g.2.1 g.2.2.1 g.2.2.2.1 g.2.2.2.2.1 g.2.2.2.2.2.1 g.2.2.2.2.2.2.1 g.2.2.2.2.2.2.2.1 g.2.2.2.2.2.2.2.2.1 g.2.2.2.2.2.2.2.2.2 H locs 0 0 0 0 (F0 g.2.2.2.2.2.1 pc ls st0) st (pv_Post κ (inj q.1) q.2 a) (fun q => κ.1 ≤ q))
    (hv : z q.1 q.2 = some v) (k : ∀ r M', pv_R g κ pv_T pv_RF nL 0 0 Q (pc + 3) lv ((inj r).toList ++ st) M' (z r M')) :
    W g.1 g.2.1 g.2.2.1 g.2.2.2.1 g.2.2.2.2.1 g.2.2.2.2.2.1 g.2.2.2.2.2.2.1 g.2.2.2.2.2.2.2.1 g.2.2.2.2.2.2.2.2.1 g.2.2.2.2.2.2.2.2.2 H locs 0 0 (Q v) (F0 g.2.2.2.2.2.1 pc ls st0) := by
  intro T hT X
  obtain ⟨v', st₀, t, T', L, h0, X', hL', e1, e2, ⟨ho, hWd⟩, stp⟩ := hr T hT X
  cases ho
  obtain ⟨t2, a1, b1⟩ := k q.1 q.2 v hv T'.heap (locs ++ L) ls (by rw [e1]; exact hWd) (fun y hy => (List.mem_append.mp hy).elim (hL y) (hL' y)) hl T' rfl X'
  exact ⟨t2, stp t2 a1, b1⟩
theorem pv_preU {av : List Value} {H : Heap} (C : pv_Ok g κ nL cc own ret) (hW : pv_Wd κ pv_T pv_RF M H) : ∀ U : State, U.heap = H → g.2.2.2.2.1.WarmedH U.vm → pv_Pre κ av M av.toArray U := fun U hU hWm => ⟨rfl, by rw [hU]; exact hW, C.2.2.2.2.2.1.warm hWm⟩
theorem pv_recv {k0 c n : Nat} {T : u_T} {Cn : String} {H : Heap} (C : pv_Ok g κ nL cc own ret) (hW : pv_Wd κ pv_T pv_RF M H) (hk : k0 < pv_T) (hs : pv_SH k0 = (c + 3, n)) (hc : pv_cl[c]? = some (Cn, T, n)) : ∃ cellB : Cell, H[κ.1 + k0]? = some cellB ∧ cellB.vm.isStatics = false ∧ g.2.2.2.2.1.vm.findClass Cn = some cellB.cls :=
  va_recv C.2.2.2.2.2.1.1 hW.1 (ci := c) (q0 := k0) hc (by rw [pv_wl_get hk, pv_ent_O hs])
theorem rw_callV {i : Nat} {y : MethodName} {c2 : ByteArray} {n2 : Nat} {r2 : Option FieldType} {n d d2 : Nat} {k0 c nf : Nat} {T : u_T} {As : List Value} {inj : β → Option Value} {x : Option (β × pv_M)} {z : β → pv_M → Option α} (C : pv_Ok g κ nL cc own ret) (hR : g.2.2.2.1 = pv_rm d) (hd : decode cc pc = .ok (.invokevirtual i, 3)) (hw : pv_cv own i y c2 n2 r2 n) (hM : pv_Mt g.2.1 y c2 n2 r2 d2 κ (.ref (κ.1 + k0) :: As) M inj x) (hdd : d2 + 1 ≤ d) (hn2 : n2 ≤ 50) (hk : k0 < pv_T) (hs : pv_SH k0 = (c + 3, nf)) (hc : pv_cl[c]? = some (y.cls, T, nf)) (hA : As.length = n) (hst : ((st.map fun v => v.category).sum ≤ 8)) {st0 : List Value} (h0 : st0 = As.reverse ++ .ref (κ.1 + k0) :: st)
    (k : ∀ r M', pv_R g κ pv_T pv_RF nL 0 0 Q (pc + 3) lv ((inj r).toList ++ st) M' (z r M')) : pv_R g κ pv_T pv_RF nL 0 0 Q pc lv st0 M (pv_cal x z) := by
  intro v hv H locs ls hW hL hl
  subst h0
  cases x with
  | none => cases hv
  | some q =>
    obtain ⟨w1, w2, w3, w4, w5, w6⟩ := hw
    have hg : GoodIn UW (wsV own i y.cls y (.code y c2 n2 r2 :: UW)) := pv_good (fun w h => by
      rcases List.mem_append.mp h with h | h
      · simp only [List.mem_cons, List.mem_nil_iff, or_false] at h
        rcases h with rfl | rfl | rfl | rfl
        · exact w1
        · exact w2
        · exact w3
        · exact w4
      · exact pv_codeUW w5 w h)
    refine pv_after (inj := inj) (q := q) hL hl (va_runV (As := As) (rest := st) ⟨C.1, C.2.1, C.2.2.1, C.2.2.2.1, C.2.2.2.2.1⟩ (hM q rfl) (cwV n C.2.2.2.2.1 hg rfl rfl rfl ⟨rfl, w6⟩ ?_) ⟨pv_blind, pv_recv C hW hk hs hc, pv_preU C hW⟩ rfl hA hl.1 rfl (lv_room hst) hd ?_) hv k
    · rw [hR]
      exact ⟨hdd, by show 8 + (n2 + 11) + 80 * d2 ≤ 80 * d; omega⟩
    · exact ⟨Nat.zero_le _, Nat.zero_le _⟩
theorem rw_callS {i : Nat} {y : MethodName} {c2 : ByteArray} {n2 : Nat} {r2 : Option FieldType} {n d d2 : Nat} {As : List Value} {inj : β → Option Value} {x : Option (β × pv_M)} {z : β → pv_M → Option α} (C : pv_Ok g κ nL cc own ret) (hR : g.2.2.2.1 = pv_rm d) (hd : decode cc pc = .ok (.invokestatic i, 3)) (hw : pv_cs own i y c2 n2 r2 n) (hM : pv_Mt g.2.1 y c2 n2 r2 d2 κ As M inj x) (hdd : d2 + 1 ≤ d) (hn2 : n2 ≤ 50) (hA : As.length = n) (hst : ((st.map fun v => v.category).sum ≤ 8)) {st0 : List Value} (h0 : st0 = As.reverse ++ st)
    (k : ∀ r M', pv_R g κ pv_T pv_RF nL 0 0 Q (pc + 3) lv ((inj r).toList ++ st) M' (z r M')) : pv_R g κ pv_T pv_RF nL 0 0 Q pc lv st0 M (pv_cal x z) := by
  intro v hv H locs ls hW hL hl
  subst h0
  cases x with
  | none => cases hv
  | some q =>
    obtain ⟨w1, w2, w3, w4, w5⟩ := hw
    have hg : GoodIn UW (va_wsS own i y (.code y c2 n2 r2 :: UW)) := pv_good (fun w h => by
      rcases List.mem_append.mp h with h | h
      · simp only [List.mem_cons, List.mem_nil_iff, or_false] at h
        rcases h with rfl | rfl | rfl
        · exact w1
        · exact w2
        · exact w3
      · exact pv_codeUW w4 w h)
    refine pv_after (inj := inj) (q := q) hL hl (va_runS (As := As) (rest := st) ⟨C.1, C.2.1, C.2.2.1, C.2.2.2.1, C.2.2.2.2.1⟩ (hM q rfl) (va_cwS n C.2.2.2.2.1 hg rfl rfl rfl w5 ?_) ⟨pv_blind, pv_preU C hW⟩ rfl hA hl.1 rfl (lv_room hst) hd ?_) hv k
    · rw [hR]
      exact ⟨hdd, by show 8 + (n2 + 11) + 80 * d2 ≤ 80 * d; omega⟩
    · exact ⟨Nat.zero_le _, Nat.zero_le _⟩
theorem rw_callN {i : Nat} {y : MethodName} {c2 : ByteArray} {n2 : Nat} {r2 : Option FieldType} {n d d2 : Nat} {host : String} {As : List Value} {inj : β → Option Value} {x : Option (β × pv_M)} {z : β → pv_M → Option α} (C : pv_Ok g κ nL cc own ret) (hR : g.2.2.2.1 = pv_rm d) (hd : decode cc pc = .ok (.invokestatic i, 3)) (hw : pv_cn own i y c2 n2 r2 n host) (hM : pv_Mt g.2.1 y c2 n2 r2 d2 κ As M inj x) (hdd : d2 + 1 ≤ d) (hn2 : n2 ≤ 50) (hA : As.length = n) (hst : ((st.map fun v => v.category).sum ≤ 8)) {st0 : List Value} (h0 : st0 = As.reverse ++ st)
    (k : ∀ r M', pv_R g κ pv_T pv_RF nL 0 0 Q (pc + 3) lv ((inj r).toList ++ st) M' (z r M')) : pv_R g κ pv_T pv_RF nL 0 0 Q pc lv st0 M (pv_cal x z) := by
  intro v hv H locs ls hW hL hl
  subst h0
  cases x with
  | none => cases hv
  | some q =>
    obtain ⟨w1, w2, w3, w4, w5⟩ := hw
    refine pv_after (inj := inj) (q := q) hL hl (va_runSN (As := As) (rest := st) ⟨C.1, C.2.1, C.2.2.1, C.2.2.2.1, C.2.2.2.2.1⟩ (hM q rfl) ⟨va_cnB n C.2.2.2.2.1 (pv_good (pv_codeUW w4)) rfl rfl rfl (C.2.2.2.2.2.1.2.1 _ w1) (C.2.2.2.2.1 _ w3) w5 ?_, C.2.2.2.2.1 _ w2, trivial⟩ ⟨pv_blind, pv_preU C hW⟩ rfl hA hl.1 rfl (lv_room hst) hd ?_) hv k
    · rw [hR]
      exact ⟨hdd, by show 8 + (n2 + 11) + 80 * d2 ≤ 80 * d; omega⟩
    · exact ⟨Nat.zero_le _, Nat.zero_le _⟩
end PVC
