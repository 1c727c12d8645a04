/-! constructors: cells are made; the references that fields hold grow -/
abbrev pv_F : Type := Nat → Nat → Option Nat
def pv_KnC (κ : pv_K) (U : State) : Prop := pv_Kn κ U ∧ (Cond.arrayOver (.array .int)).before #[] U = true
theorem pv_over_alike {A A' : Array Value} {s U : State} (hvm : s.vm.Alike U.vm) (h : (Cond.arrayOver (.array .int)).before A s = true) : (Cond.arrayOver (.array .int)).before A' U = true := Stand.arrayOver_alikeB hvm h
theorem pv_KnC.warm {κ : pv_K} {s U : State} (h : pv_KnC κ s) (hW : s.WarmedH U.vm) : pv_KnC κ U := ⟨h.1.warm hW, pv_over_alike hW.alike h.2⟩
theorem pv_KnC.same {κ : pv_K} {s U : State} (h : pv_KnC κ s) (hv : s.vm = U.vm) : pv_KnC κ U := ⟨h.1.same hv, pv_over_alike (by rw [hv]; exact Vm.Alike.refl U.vm) h.2⟩
def pv_rmC (d mc ms : Nat) : Room := { frames := d, cells := mc, slots := ms, locals := 80 * d }
def pv_PreC (κ : pv_K) (N : Nat) (rf : pv_F) (av : List Value) (M : pv_M) : Array Value → State → Prop := va_Pc av (fun U => pv_Wd κ N rf M U.heap ∧ pv_KnC κ U)
def pv_PostC (κ : pv_K) (N : Nat) (q : pv_M × pv_F) : Array Value → State → Outcome → State → Prop := fun _ _ oc t => oc = .returned none ∧ pv_Wd κ N q.2 q.1 t.heap
/-- a constructor's contract: N cells before, N' behind it -/
def pv_MtC (l : Launch) (y : MethodName) (cc : ByteArray) (nL d : Nat) (κ : pv_K) (N : Nat) (av : List Value) (M : pv_M) (rf : pv_F) (N' mc ms : Nat) (x : Option (pv_M × pv_F)) : Prop :=
  ∀ v, x = some v → Met l y (.code y cc nL none :: UW) (pv_rmC d mc ms) (pv_PreC κ N rf av M) (pv_PostC κ N' v) mc ms (fun q => κ.1 ≤ q)
def pv_QC (g : pv_X) (κ : pv_K) (N mc ms : Nat) : pv_M × pv_F → State → Prop := fun v => MQ g.2.2.2.2.2.2.2.1 (pv_PostC κ N v) g.2.2.2.2.2.2.1 g.2.2.2.2.1 mc ms (fun q => κ.1 ≤ q)
theorem pv_blindC {κ : pv_K} {N : Nat} {rf : pv_F} {av : List Value} {M : pv_M} : FrameBlind (pv_PreC κ N rf av M) := fun _ _ _ _ h => ⟨h.1, h.2.1, h.2.2.same rfl⟩
/-- what holds in a constructor besides -/
def pv_OkC (g : pv_X) (κ : pv_K) : Prop := (Cond.arrayOver (.array .int)).before g.2.2.2.2.2.2.1 g.2.2.2.2.1 = true ∧ g.2.2.2.2.2.2.2.2.1.name = "<init>"
theorem pv_enterC {l : Launch} {y : MethodName} {cc : ByteArray} {nL d : Nat} {κ : pv_K} {N : Nat} {av : List Value} {M : pv_M} {rf : pv_F} {N' mc ms : Nat} {x : Option (pv_M × pv_F)} (hy : plainName y.cls = true) (hyi : y.name = "<init>") (ha : (lg_sl av).length ≤ nL)
    (body : ∀ g : pv_X, g.2.1 = l → g.2.2.2.1 = pv_rmC d mc ms → pv_Ok g κ nL cc y.cls none → pv_OkC g κ → pv_R g κ N rf nL 0 0 (pv_QC g κ N' mc ms) 0 (lv_args 0 av) [] M x) : pv_MtC l y cc nL d κ N av M rf N' mc ms x := by
  intro v hv
  refine Met.ofW (cc := cc) (maxL := nL) (ret := none) hy rfl ?_
  intro p e s m args below meth c s₁ B hml hP
  obtain ⟨rfl, hW, hKn⟩ := hP
  have hts := atoms_spec (ws := Cond.code y cc nL none :: UW) B.pre
  have hown : s.vm.findClass y.cls = some m.cls := findClass_of_methodNamed B.named
  rw [lg_entry_eq]
  exact body (p, l, e, pv_rmC d mc ms, s, m, av.toArray, below, meth, c) rfl rfl ⟨B.exec, B.bytes, hml, hown, fun w hw => hts w (List.mem_cons_of_mem _ hw), hKn.1, B.notSynchronized, B.returns⟩ ⟨pv_over_alike (Vm.Alike.refl _) hKn.2, (name_of_methodNamed B.named B.method).1.trans hyi⟩ v hv s.heap [] _ hW (fun q h => by cases h) (lv_entry av ha)
theorem pv_Wd.push {κ : pv_K} {N : Nat} {rf rf' : pv_F} {M M' : pv_M} {H H1 : Heap} (hW : pv_Wd κ N rf M H) (hz : H1.size = H.size + 1) (oq : ∀ q : Nat, q < H.size → H1[q]? = H[q]?) (he : va_at (pv_D κ) pv_cl (κ.1 + N, pv_ent κ rf' M' N) H1) (ho : ∀ j, j < N → pv_ent κ rf' M' j = pv_ent κ rf M j) : pv_Wd κ (N + 1) rf' M' H1 := by
  have hs := hW.2.1
  refine ⟨fun i q hi => ?_, by rw [hz, hs]; omega, fun q hq => by rw [oq q (by omega)]; exact hW.2.2 q hq⟩
  obtain ⟨hl, rfl⟩ := pv_wl_of hi
  by_cases e : i = N
  · subst e
    exact he
  · rw [ho i (by omega)]
    exact (pv_at hW (by omega)).kept (oq _ (by show κ.1 + i < H.size; omega))
section PVN
variable {α : Type} {g : pv_X} {κ : pv_K} {N : Nat} {rf : pv_F} {nL cells slots : Nat} {Q : α → State → Prop} {pc : Nat} {lv : List (Nat × Value)} {st : List Value} {M : pv_M} {x : Option α} {cc : ByteArray} {own : String} {ret : Option FieldType}
theorem rw_new {c n i cells' slots' : Nat} {T : u_T} {Cn : String} {z : pv_M → pv_F → Option α} (C : pv_Ok g κ nL cc own ret) (hd : decode cc pc = .ok (.new i, 3)) (hc : pv_cl[c]? = some (Cn, T, n)) (hw : Cond.classLink own i Cn ∈ UW ∧ Cond.instantiable Cn n ∈ UW ∧ Cond.initialized Cn ∈ UW) (hin : ∀ w ∈ u_ws Cn T n, w ∈ UW) (hty : ∀ k, k < n → parseFieldDescriptor (T k).2.2.1 = some (pv_ty c k)) (hdf : ∀ j, j < n → defaultValue (pv_ty c j) = if pv_isR c j = true then .null else .int 0) (hs : pv_SH N = (c + 3, n)) (h1 : cells + 1 = cells') (h2 : slots + n = slots') (hR : cells' ≤ g.2.2.2.1.cells ∧ slots' ≤ g.2.2.2.1.slots)
    (k : ∀ M' rf', pv_R g κ (N + 1) rf' nL cells' slots' Q (pc + 3) lv (.ref (κ.1 + N) :: st) M' (z M' rf')) : pv_R g κ N rf nL cells slots Q pc lv st M (pv_nm (pv_row M.1 N (fun _ => 0), M.2) (fun M' => pv_nm (pv_row rf N (fun _ => none)) (fun rf' => z M' rf'))) := by
  intro v hv H locs ls hW hL hl
  subst h1
  subst h2
  have hKn := C.2.2.2.2.2.1.1.1 c _ hc
  refine W.newcK C.1 C.2.1 C.2.2.2.1 (C.2.2.2.2.1 _ hw.1) (C.2.2.2.2.1 _ hw.2.1) (C.2.2.2.2.1 _ hw.2.2) rfl hd hR.1 hR.2 hKn.2.1 hW.2.1 fun H1 kC hkC e1 z1 o1 => ?_
  refine k _ _ v hv H1 locs ls (hW.push (by rw [z1, hW.2.1]) (fun q hq => o1 q (by rw [← hW.2.1]; exact hq)) ?_ (fun j hj => pv_ent_cong (pv_row_ne _ _ (by omega)) rfl (pv_row_ne _ _ (by omega)))) hL hl
  rw [pv_ent_O hs]
  refine ⟨_, hc, (u_born (pv_ty c) C.2.2.2.2.1 hin hKn hkC e1 hty).to (fun j hj => ?_)⟩
  rw [hdf j hj]
  simp only [vp_V, List.getD_eq_getElem?_getD]
  rw [pv_fs_get hj]
  by_cases hr : pv_isR c j = true <;> simp [pv_fv, hr, pv_row, va_rf]
theorem rw_newI {n : Int32} {L cells' slots' : Nat} {z : pv_M → Option α} (C : pv_Ok g κ nL cc own ret) (hd : decode cc pc = .ok (.newarray .int, 2)) (hw : Cond.arrayClass .int ∈ UW) (hn : ¬ n < 0) (hN : n.toNatClampNeg = L) (hb : L * 4 ≤ 536870912) (hs : pv_SH N = (0, L)) (h1 : cells + 1 = cells') (h2 : slots + L = slots') (hR : cells' ≤ g.2.2.2.1.cells ∧ slots' ≤ g.2.2.2.1.slots)
    (k : ∀ M', pv_R g κ (N + 1) rf nL cells' slots' Q (pc + 2) lv (.ref (κ.1 + N) :: st) M' (z M')) : pv_R g κ N rf nL cells slots Q pc lv (.int n :: st) M (pv_nm (pv_row M.1 N (fun _ => 0), M.2) z) := by
  intro v hv H locs ls hW hL hl
  subst h1
  subst h2
  refine va_newaK (atype := .int) C.1 C.2.1 (C.2.2.2.2.1 _ hw) rfl hd rfl hn hN hb hR.1 hR.2 hW.2.1 fun H1 cA e1 z1 o1 hAr hNm => ?_
  have hcA : cA = pv_cI κ := by
    have h0 : (pv_tys κ)[0]? = some (pv_cI κ, .int) := rfl
    have := (C.2.2.2.2.2.1.1.2 0 _ h0).2
    exact Option.some.inj (hNm.symm.trans this)
  subst hcA
  refine k _ v hv H1 locs ls (hW.push (by rw [z1, hW.2.1]) (fun q hq => o1 q (by rw [← hW.2.1]; exact hq)) ?_ (fun j hj => pv_ent_cong (pv_row_ne _ _ (by omega)) rfl rfl)) hL hl
  rw [pv_ent_I (by rw [hs])]
  show H1[κ.1 + N]? = some (vp_cell _ _)
  rw [e1, vp_cell_i]
  show some (arrV (pv_cI κ) L (fun _ => .int 0)) = some (arrV (pv_cI κ) (pv_SH N).2 (fun j => .int (pv_row M.1 N (fun _ => 0) N j)))
  rw [hs, pv_row_eq]
theorem rw_newL {n : Int32} {L cells' slots' : Nat} {z : pv_M → Option α} (C : pv_Ok g κ nL cc own ret) (hd : decode cc pc = .ok (.newarray .long, 2)) (hw : Cond.arrayClass .long ∈ UW) (hn : ¬ n < 0) (hN : n.toNatClampNeg = L) (hb : L * 8 ≤ 536870912) (hs : pv_SH N = (1, L)) (h1 : cells + 1 = cells') (h2 : slots + L = slots') (hR : cells' ≤ g.2.2.2.1.cells ∧ slots' ≤ g.2.2.2.1.slots)
    (k : ∀ M', pv_R g κ (N + 1) rf nL cells' slots' Q (pc + 2) lv (.ref (κ.1 + N) :: st) M' (z M')) : pv_R g κ N rf nL cells slots Q pc lv (.int n :: st) M (pv_nm (M.1, pv_row M.2 N (fun _ => 0)) z) := by
  intro v hv H locs ls hW hL hl
  subst h1
  subst h2
  refine va_newaK (atype := .long) C.1 C.2.1 (C.2.2.2.2.1 _ hw) rfl hd rfl hn hN hb hR.1 hR.2 hW.2.1 fun H1 cA e1 z1 o1 hAr hNm => ?_
  have hcA : cA = pv_cL κ := by
    have h0 : (pv_tys κ)[1]? = some (pv_cL κ, .long) := rfl
    have := (C.2.2.2.2.2.1.1.2 1 _ h0).2
    exact Option.some.inj (hNm.symm.trans this)
  subst hcA
  refine k _ v hv H1 locs ls (hW.push (by rw [z1, hW.2.1]) (fun q hq => o1 q (by rw [← hW.2.1]; exact hq)) ?_ (fun j hj => pv_ent_cong rfl (pv_row_ne _ _ (by omega)) rfl)) hL hl
  rw [pv_ent_L (by rw [hs])]
  show H1[κ.1 + N]? = some (vp_cell _ _)
  rw [e1, vp_cell_l]
  show some (arrV (pv_cL κ) L (fun _ => .long 0)) = some (arrV (pv_cL κ) (pv_SH N).2 (fun j => .long (pv_row M.2 N (fun _ => 0) N j)))
  rw [hs, pv_row_eq]
/-- rows N + 1 .. N + n are made empty -/
def pv_rows (M : pv_M) (N n : Nat) : pv_M := (fun a b => if N < a ∧ a ≤ N + n then 0 else M.1 a b, M.2)
theorem pv_outer (c : ClassId) (N h0 : Nat) : ∀ i : Nat, Jvm.Free.Multi.outerC c N h0 i = arrV c N (fun j => va_rf (if j < i then some (h0 + 1 + j) else none))
  | 0 => by
    show ({ cls := c, slots := Array.replicate N .null, vm := .none } : Cell) = _
    rw [arrV_new]
    refine congrArg (arrV c N) (funext fun j => ?_)
    simp [va_rf]
  | i + 1 => by
    show (Jvm.Free.Multi.outerC c N h0 i).setSlot i (.ref (h0 + 1 + i)) = _
    rw [pv_outer c N h0 i, arrV_store]
    refine congrArg (arrV c N) (funext fun j => ?_)
    by_cases e : j = i
    · subst e
      simp [updV, va_rf]
    · by_cases h : j < i
      · simp [updV, e, h, Nat.lt_succ_of_lt h]
      · simp [updV, e, h, show ¬ j < i + 1 by omega]
theorem pv_arrV_cong {c : ClassId} {n : Nat} {f h : Nat → Value} (e : ∀ j, j < n → f j = h j) : arrV c n f = arrV c n h := by
  unfold arrV
  congr 1
  apply Array.ext
  · simp
  · intro i h1 h2
    simp at h1
    simp [e i h1]
theorem rw_multi {i : Nat} {n k0 : Int32} {L K cells' slots' : Nat} {z : pv_M → Option α} (C : pv_Ok g κ nL cc own ret) (CC : pv_OkC g κ) (hd : decode cc pc = .ok (.multianewarray i 2, 4)) (hw : Cond.classLink own i "[[I" ∈ UW ∧ Cond.arrayClass .int ∈ UW) (hn : ¬ n < 0) (hk : ¬ k0 < 0) (hN : n.toNatClampNeg = L) (hK : k0.toNatClampNeg = K) (hb : L * 4 ≤ 536870912 ∧ K * 4 ≤ 536870912) (hs : pv_SH N = (2, L)) (hs2 : ∀ j, j < L → pv_SH (N + 1 + j) = (0, K)) (h1 : cells + 1 + L = cells') (h2 : slots + L + L * K = slots') (hR : cells' ≤ g.2.2.2.1.cells ∧ slots' ≤ g.2.2.2.1.slots)
    (k : ∀ M', pv_R g κ (N + 1 + L) rf nL cells' slots' Q (pc + 4) lv (.ref (κ.1 + N) :: st) M' (z M')) : pv_R g κ N rf nL cells slots Q pc lv (.int k0 :: .int n :: st) M (pv_nm (pv_rows M N L) z) := by
  intro v hv H locs ls hW hL hl
  subst h1
  subst h2
  subst hN
  subst hK
  intro T hT X
  obtain ⟨vm₁, cA, comp, -, fA, fC, hO, -, X', step⟩ := X.multianewarray2F C.1 (ty := .int) C.2.2.2.1 (C.2.2.2.2.1 _ hw.1) CC.1 (C.2.2.2.2.1 _ hw.2) (g := F0 g.2.2.2.2.2.1 pc ls (.int k0 :: .int n :: st)) rfl (by rw [C.2.1]; exact hd) rfl hn hk hb.1 hb.2 (by omega) rfl rfl (by have := hR.1; omega) (by have := hR.2; omega)
  have hcI : comp = pv_cI κ := by
    have h0 : (pv_tys κ)[0]? = some (pv_cI κ, .int) := rfl
    have := (C.2.2.2.2.2.1.1.2 0 _ h0).2
    exact Option.some.inj (fC.symm.trans this)
  have hcR : cA = pv_cR κ := by
    have h0 : (pv_tys κ)[2]? = some (pv_cR κ, .array .int) := rfl
    have := (C.2.2.2.2.2.1.1.2 2 _ h0).2
    exact Option.some.inj (fA.symm.trans this)
  subst hcI
  subst hcR
  have hTs : (T.setVm vm₁).heap.size = κ.1 + N := by show T.heap.size = _; rw [hT]; exact hW.2.1
  have hTh : (T.setVm vm₁).heap = H := hT
  generalize hF : Jvm.Free.Multi.fill (T.setVm vm₁) (pv_cR κ) (pv_cI κ) n.toNatClampNeg k0.toNatClampNeg (defaultValue .int) n.toNatClampNeg = F at X' step
  obtain ⟨f1, f2, -, -⟩ := Jvm.Free.Multi.fill_facts (T.setVm vm₁) (pv_cR κ) (pv_cI κ) n.toNatClampNeg k0.toNatClampNeg (defaultValue .int) n.toNatClampNeg
  have hold : ∀ q : Nat, q < H.size → F.heap[q]? = H[q]? := fun q hq => by
    have := Jvm.Free.Multi.fill_old (T.setVm vm₁) (pv_cR κ) (pv_cI κ) n.toNatClampNeg k0.toNatClampNeg (defaultValue .int) (a := q) (by rw [hTh]; exact hq) n.toNatClampNeg
    rw [hF, hTh] at this
    exact this
  have hrow : ∀ j : Nat, j < n.toNatClampNeg → F.heap[κ.1 + N + 1 + j]? = some (arrV (pv_cI κ) k0.toNatClampNeg (fun _ => .int 0)) := fun j hj => by
    have := Jvm.Free.Multi.fill_inner (T.setVm vm₁) (pv_cR κ) (pv_cI κ) n.toNatClampNeg k0.toNatClampNeg (defaultValue .int) n.toNatClampNeg j hj
    rw [hF, hTs] at this
    rw [this, ← arrV_new]
    rfl
  rw [hF, hTs] at f1 f2
  rw [pv_outer] at f2
  have hW' : pv_Wd κ (N + 1 + n.toNatClampNeg) rf (pv_rows M N n.toNatClampNeg) F.heap := by
    have hsz := hW.2.1
    refine ⟨fun a q ha => ?_, by rw [f1]; omega, fun q hq => by rw [hold q (by omega)]; exact hW.2.2 q hq⟩
    obtain ⟨hlt, rfl⟩ := pv_wl_of ha
    by_cases e1 : a < N
    · have hc : pv_ent κ rf (pv_rows M N n.toNatClampNeg) a = pv_ent κ rf M a := pv_ent_cong (by funext b; simp [pv_rows, show ¬ N < a by omega]) rfl rfl
      rw [hc]
      exact (pv_at hW e1).kept (hold _ (by show κ.1 + a < H.size; omega))
    · by_cases e2 : a = N
      · subst e2
        rw [pv_ent_R (by rw [hs])]
        show F.heap[κ.1 + a]? = some (vp_cell _ _)
        rw [f2, vp_cell_q, hs]
        congr 1
        refine pv_arrV_cong (fun j hj => ?_)
        rw [if_pos hj, show κ.1 + a + 1 + j = κ.1 + (a + 1 + j) by omega]
      · obtain ⟨j, rfl⟩ : ∃ j, a = N + 1 + j := ⟨a - N - 1, by omega⟩
        have hj : j < n.toNatClampNeg := by omega
        rw [pv_ent_I (by rw [hs2 j hj])]
        show F.heap[κ.1 + (N + 1 + j)]? = some (vp_cell _ _)
        rw [show κ.1 + (N + 1 + j) = κ.1 + N + 1 + j by omega, hrow j hj, vp_cell_i, hs2 j hj]
        congr 1
        refine pv_arrV_cong (fun b hb => ?_)
        simp [pv_rows, show N < N + 1 + j by omega, show N + 1 + j ≤ N + n.toNatClampNeg by omega]
  obtain ⟨t, a1, b1⟩ := k _ v hv F.heap locs ls hW' hL hl F rfl X'
  refine ⟨t, step t ?_, b1⟩
  have e : T.heap.size = κ.1 + N := by rw [hT]; exact hW.2.1
  rw [e]
  exact a1
/-- a field of a new object is set, by its constructor: what hangs on it alone -/
theorem pv_putC {i c f n k0 : Nat} {y : Value} {rf' : pv_F} {M' : pv_M} {v : α} {H : Heap} {locs : List Loc} {ls : Array Slot} (C : pv_Ok g κ nL cc own ret) (CC : pv_OkC g κ) (hd : decode cc pc = .ok (.putfield i, 3)) (hf : pv_fl own i c f) (hfi : pv_fin c f true) (hown2 : ∀ (T : u_T) (m : Nat) (D : String), pv_cl[c]? = some (D, T, m) → D = own) (hn : narrow (pv_ty c f) y = y) (hfit : fits (pv_ty c f) y = true) (hk : k0 < N) (hs : pv_SH k0 = (c + 3, n)) (hfn : f < n) (hW : pv_Wd κ N rf M H) (hL : ∀ q ∈ locs, κ.1 ≤ q.base)
    (hy : pv_fv κ.1 (rf' k0) (M'.1 k0) c f = y) (hrest : ∀ j, j < n → j ≠ f → pv_fv κ.1 (rf' k0) (M'.1 k0) c j = pv_fv κ.1 (rf k0) (M.1 k0) c j) (ho : ∀ j, j < N → j ≠ k0 → pv_ent κ rf' M' j = pv_ent κ rf M j)
    (k : ∀ H1 locs1, pv_Wd κ N rf' M' H1 → (∀ q ∈ locs1, κ.1 ≤ q.base) → W g.1 g.2.1 g.2.2.1 g.2.2.2.1 g.2.2.2.2.1 g.2.2.2.2.2.1 g.2.2.2.2.2.2.1 g.2.2.2.2.2.2.2.1 g.2.2.2.2.2.2.2.2.1 g.2.2.2.2.2.2.2.2.2 H1 locs1 cells slots (Q v) (F0 g.2.2.2.2.2.1 (pc + 3) ls st)) :
    W g.1 g.2.1 g.2.2.1 g.2.2.2.1 g.2.2.2.2.1 g.2.2.2.2.2.1 g.2.2.2.2.2.2.1 g.2.2.2.2.2.2.2.1 g.2.2.2.2.2.2.2.2.1 g.2.2.2.2.2.2.2.2.2 H locs cells slots (Q v) (F0 g.2.2.2.2.2.1 pc ls (y :: .ref (κ.1 + k0) :: st)) := by
  obtain ⟨T, n', Cn, h1, h2, h3, h4, h5, h6, h7⟩ := hf
  have hts := C.2.2.2.2.1
  have hK := C.2.2.2.2.2.1.1
  have hap := va_apart (own := own) hts h3 (pv_ty c) h6 h5 hK h1
  have hat : (pv_wl κ N rf M)[k0]? = some (κ.1 + k0, .inr (c, pv_fs κ.1 (rf k0) (M.1 k0) c n)) := by rw [pv_wl_get hk, pv_ent_O hs]
  obtain ⟨r, h1', cell, q1, q2, q3, q4⟩ := hW.1 k0 _ hat
  have hr' : r = (Cn, T, n') := Option.some.inj (h1'.symm.trans h1)
  subst hr'
  obtain ⟨hS, hfc, kC, hkC, hkind⟩ := hK.1 c _ h1
  obtain ⟨cf, kf, fi, fd, hi, hsl⟩ := hS f h2
  have hlay := hts _ (h3 _ (u_in_lay h2))
  unfold u_lay at hlay
  rw [if_pos (hfi T n' Cn h1)] at hlay
  have hst := (u_facts hfc hkC (u_lays hts h3 h2) hi).1
  have hcf : g.2.2.2.2.2.1.cls = cf := by
    obtain ⟨_, _, c', _, _, _, -, -, hf', -, -, -, hown3, -⟩ := Cond.laysFinal_spec hlay
    have e1 : c' = cf := by have := hi.symm.trans hf'; simp at this; exact this.1.symm
    rw [h7, hown2 T n' Cn h1] at hown3
    rw [← e1]; exact Option.some.inj (C.2.2.2.1.symm.trans hown3)
  have h6' := u_fits hfc hkC hkind (Or.inr hlay) hi (h6 f h2) hn hfit
  refine W.putFinK C.1 C.2.1 C.2.2.2.1 (hts _ h4) (by rw [h7] at hi; exact hi) hst hcf CC.2 (by rw [q2]; exact h6') q1 q3 (by rw [hsl]; exact k2_hasslot (q4 f h2)) rfl rfl hd fun H' e1 e2 e3 => ?_
  rw [hsl] at e1 ⊢
  refine k H' _ (hW.set (k := k0) e2 e3 ?_ ho) (pv_locs hL (Nat.le_add_right _ _))
  rw [pv_ent_O hs]
  refine ⟨_, h1, t_OB.to (V := updV (vp_V (pv_fs κ.1 (rf k0) (M.1 k0) c n)) f y) ⟨_, e1, q2, q3, t_set q4 hap h2 _⟩ (fun j hj => ?_)⟩
  by_cases e : j = f
  · subst e
    simp only [updV, if_pos, vp_V, List.getD_eq_getElem?_getD]
    rw [pv_fs_get hfn, hy]
    rfl
  · simp only [updV, e, if_neg, vp_V, List.getD_eq_getElem?_getD, not_false_eq_true]
    by_cases hjn : j < n
    · rw [pv_fs_get hjn, pv_fs_get hjn, hrest j hjn e]
    · rw [List.getElem?_eq_none (by rw [pv_fs_len]; omega), List.getElem?_eq_none (by rw [pv_fs_len]; omega)]
theorem rw_putR {i c f n k0 k1 : Nat} {z : pv_F → Option α} (C : pv_Ok g κ nL cc own ret) (CC : pv_OkC g κ) (hd : decode cc pc = .ok (.putfield i, 3)) (hf : pv_fl own i c f) (hfi : pv_fin c f true) (hown2 : ∀ (T : u_T) (m : Nat) (D : String), pv_cl[c]? = some (D, T, m) → D = own) (hr : pv_isR c f = true) (hn : ∀ a, narrow (pv_ty c f) (.ref a) = .ref a) (hfit : ∀ a, fits (pv_ty c f) (.ref a) = true) (hk : k0 < N) (hs : pv_SH k0 = (c + 3, n)) (hfn : f < n)
    (k : ∀ rf', pv_R g κ N rf' nL cells slots Q (pc + 3) lv st M (z rf')) : pv_R g κ N rf nL cells slots Q pc lv (.ref (κ.1 + k1) :: .ref (κ.1 + k0) :: st) M (pv_nm (pv_u rf k0 f (some k1)) z) := by
  intro v hv H locs ls hW hL hl
  refine pv_putC (M' := M) (rf' := pv_u rf k0 f (some k1)) C CC hd hf hfi hown2 (hn _) (hfit _) hk hs hfn hW hL ?_ (fun j hj hne => ?_) (fun j hj hne => pv_ent_cong rfl rfl (pv_u_ne _ _ _ hne)) (fun H1 locs1 hW1 hL1 => k _ v hv H1 locs1 ls hW1 hL1 hl)
  · simp [pv_fv, hr, pv_u, va_rf]
  · simp [pv_fv, pv_u, hne]
theorem rw_putFI {i c f n k0 : Nat} {y : Int32} {z : pv_M → Option α} (C : pv_Ok g κ nL cc own ret) (CC : pv_OkC g κ) (hd : decode cc pc = .ok (.putfield i, 3)) (hf : pv_fl own i c f) (hfi : pv_fin c f true) (hown2 : ∀ (T : u_T) (m : Nat) (D : String), pv_cl[c]? = some (D, T, m) → D = own) (hr : pv_isR c f = false) (hn : narrow (pv_ty c f) (.int y) = .int y) (hfit : fits (pv_ty c f) (.int y) = true) (hk : k0 < N) (hs : pv_SH k0 = (c + 3, n)) (hfn : f < n)
    (k : ∀ M', pv_R g κ N rf nL cells slots Q (pc + 3) lv st M' (z M')) : pv_R g κ N rf nL cells slots Q pc lv (.int y :: .ref (κ.1 + k0) :: st) M (pv_nm (pv_u M.1 k0 f y, M.2) z) := by
  intro v hv H locs ls hW hL hl
  refine pv_putC (M' := (pv_u M.1 k0 f y, M.2)) (rf' := rf) C CC hd hf hfi hown2 hn hfit hk hs hfn hW hL ?_ (fun j hj hne => ?_) (fun j hj hne => pv_ent_cong (pv_u_ne _ _ _ hne) rfl rfl) (fun H1 locs1 hW1 hL1 => k _ v hv H1 locs1 ls hW1 hL1 hl)
  · simp [pv_fv, hr, pv_u]
  · simp [pv_fv, pv_u, hne]
theorem rw_objI {i : Nat} {a : Nat} (C : pv_Ok g κ nL cc own ret) (hd : decode cc pc = .ok (.invokespecial i, 3)) (hw : Cond.methodLink own i objectInit ∈ UW ∧ Cond.instanceMethod objectInit ∈ UW ∧ Cond.code objectInit ⟨#[0xb1]⟩ 1 none ∈ UW) (hR : 1 ≤ g.2.2.2.1.frames ∧ 80 ≤ g.2.2.2.1.locals) (hst : ((st.map fun v => v.category).sum ≤ 8)) (k : pv_R g κ N rf nL cells slots Q (pc + 3) lv st M x) : pv_R g κ N rf nL cells slots Q pc lv (.ref a :: st) M x := by
  intro v hv H locs ls hW hL hl
  refine W.objInit C.1 C.2.1 C.2.2.2.1 (C.2.2.2.2.1 _ hw.1) (C.2.2.2.2.1 _ hw.2.1) (C.2.2.2.2.1 _ hw.2.2) rfl (by rw [C.2.2.1]; exact hl.1) rfl hd hR.1 (by have := hR.2; show 2 * 0 + _ + 12 ≤ _; omega) ?_
  exact k v hv H locs ls hW hL hl
def pv_gr {ρ : Type} (rf : pv_F) (k0 f k1 : Nat) (x : Option ρ) : Option ρ := if rf k0 f = some k1 then x else none
theorem rw_gr {k0 f k1 : Nat} (k : rf k0 f = some k1 → pv_R g κ N rf nL cells slots Q pc lv st M x) : pv_R g κ N rf nL cells slots Q pc lv st M (pv_gr rf k0 f k1 x) := by
  intro v hv
  unfold pv_gr at hv
  by_cases h : rf k0 f = some k1
  · rw [if_pos h] at hv
    exact k h v hv
  · rw [if_neg h] at hv
    cases hv
def pv_cac {ρ : Type} (x : Option (pv_M × pv_F)) (f : pv_M → pv_F → Option ρ) : Option ρ := match x with
  | some v => f v.1 v.2
  | none => none
theorem pv_afterC {N' mc ms cells' slots' : Nat} {z : pv_M → pv_F → Option α} {v : α} {q : pv_M × pv_F} {st0 : List Value} {a : Array Value} {H : Heap} {locs : List Loc} {ls : Array Slot} (h1 : cells + mc = cells') (h2 : slots + ms = slots') (hL : ∀ q ∈ locs, κ.1 ≤ q.base) (hl : lv_has ls nL lv)
    (hr : va_Run g.1 g.2.1 g.2.2.1 g.2.2.2.1 g.2.2.2.2.1 g.2.2.2.2.2.1 g.2.2.2.2.2.2.1 g.2.2.2.2.2.2.2.1 g.2.2.2.2.2.2.2.2.1 g.2.2.2.2.2.2.2.2.2 H locs cells slots mc ms (F0 g.2.2.2.2.2.1 pc ls st0) st (pv_PostC κ N' q a) (fun q => κ.1 ≤ q))
    (hv : z q.1 q.2 = some v) (k : ∀ M' rf', pv_R g κ N' rf' nL cells' slots' Q (pc + 3) lv st M' (z M' rf')) :
    W g.1 g.2.1 g.2.2.1 g.2.2.2.1 g.2.2.2.2.1 g.2.2.2.2.2.1 g.2.2.2.2.2.2.1 g.2.2.2.2.2.2.2.1 g.2.2.2.2.2.2.2.2.1 g.2.2.2.2.2.2.2.2.2 H locs cells slots (Q v) (F0 g.2.2.2.2.2.1 pc ls st0) := by
  subst h1
  subst h2
  intro T hT X
  obtain ⟨v', st₀, t, T', L, h0, X', hL', e1, e2, ⟨ho, hWd⟩, stp⟩ := hr T hT X
  cases ho
  obtain ⟨t2, a1, b1⟩ := k q.1 q.2 v hv T'.heap (locs ++ L) ls (by rw [e1]; exact hWd) (fun y hy => (List.mem_append.mp hy).elim (hL y) (hL' y)) hl T' rfl X'
  exact ⟨t2, stp t2 a1, b1⟩
def pv_ci (own : String) (i : Nat) (y : MethodName) (cc : ByteArray) (nL n : Nat) : Prop := Cond.methodLink own i y ∈ UW ∧ Cond.instanceMethod y ∈ UW ∧ Cond.initialized y.cls ∈ UW ∧ Cond.code y cc nL none ∈ UW ∧ pv_cd y n ∧ y.name = "<init>"
def pv_cin (own : String) (i : Nat) (y : MethodName) (cc : ByteArray) (nL n : Nat) (host : String) : Prop := Cond.methodLinkNest own i y host ∈ pv_nw ∧ Cond.instanceMethod y ∈ UW ∧ Cond.initialized y.cls ∈ UW ∧ Cond.code y cc nL none ∈ UW ∧ pv_cd y n ∧ y.name = "<init>"
theorem rw_callI {i : Nat} {y : MethodName} {c2 : ByteArray} {n2 n d2 k0 N' mc ms cells' slots' : Nat} {As : List Value} {x : Option (pv_M × pv_F)} {z : pv_M → pv_F → Option α} (C : pv_Ok g κ nL cc own ret) (hov : (Cond.arrayOver (.array .int)).before g.2.2.2.2.2.2.1 g.2.2.2.2.1 = true) (hd : decode cc pc = .ok (.invokespecial i, 3)) (hw : pv_ci own i y c2 n2 n) (hM : pv_MtC g.2.1 y c2 n2 d2 κ N (.ref (κ.1 + k0) :: As) M rf N' mc ms x) (hR : d2 + 1 ≤ g.2.2.2.1.frames ∧ 80 + 80 * d2 ≤ g.2.2.2.1.locals) (hn2 : n2 ≤ 50) (hA : As.length = n) (hst : ((st.map fun v => v.category).sum ≤ 8)) (h1 : cells + mc = cells') (h2 : slots + ms = slots') (hRc : cells' ≤ g.2.2.2.1.cells ∧ slots' ≤ g.2.2.2.1.slots) {st0 : List Value} (h0 : st0 = As.reverse ++ .ref (κ.1 + k0) :: st)
    (k : ∀ M' rf', pv_R g κ N' rf' nL cells' slots' Q (pc + 3) lv st M' (z M' rf')) : pv_R g κ N rf nL cells slots Q pc lv st0 M (pv_cac x z) := by
  intro v hv H locs ls hW hL hl
  subst h0
  cases x with
  | none => cases hv
  | some q =>
    obtain ⟨w1, w2, w3, w4, w5, w6⟩ := hw
    refine pv_afterC (q := q) h1 h2 hL hl (va_runI (As := As) (rest := st) ⟨C.1, C.2.1, C.2.2.1, C.2.2.2.1, C.2.2.2.2.1⟩ (hM q rfl) (cwI n C.2.2.2.2.1 (pv_good (pv_codeUW w4)) rfl rfl rfl (C.2.2.2.2.1 _ w3) (C.2.2.2.2.1 _ w1) (C.2.2.2.2.1 _ w2) w6 w5 ⟨hR.1, by show 8 + (n2 + 11) + 80 * d2 ≤ _; omega⟩) ⟨pv_blindC, fun U hU hWm => ⟨rfl, by rw [hU]; exact hW, C.2.2.2.2.2.1.warm hWm, pv_over_alike hWm.alike hov⟩⟩ rfl hA hl.1 rfl (lv_room hst) hd ⟨by rw [h1]; exact hRc.1, by rw [h2]; exact hRc.2⟩) hv k
theorem rw_callIN {i : Nat} {y : MethodName} {c2 : ByteArray} {n2 n d2 k0 N' mc ms cells' slots' : Nat} {host : String} {As : List Value} {x : Option (pv_M × pv_F)} {z : pv_M → pv_F → Option α} (C : pv_Ok g κ nL cc own ret) (hov : (Cond.arrayOver (.array .int)).before g.2.2.2.2.2.2.1 g.2.2.2.2.1 = true) (hd : decode cc pc = .ok (.invokespecial i, 3)) (hw : pv_cin own i y c2 n2 n host) (hM : pv_MtC g.2.1 y c2 n2 d2 κ N (.ref (κ.1 + k0) :: As) M rf N' mc ms x) (hR : d2 + 1 ≤ g.2.2.2.1.frames ∧ 80 + 80 * d2 ≤ g.2.2.2.1.locals) (hn2 : n2 ≤ 50) (hA : As.length = n) (hst : ((st.map fun v => v.category).sum ≤ 8)) (h1 : cells + mc = cells') (h2 : slots + ms = slots') (hRc : cells' ≤ g.2.2.2.1.cells ∧ slots' ≤ g.2.2.2.1.slots) {st0 : List Value} (h0 : st0 = As.reverse ++ .ref (κ.1 + k0) :: st)
    (k : ∀ M' rf', pv_R g κ N' rf' nL cells' slots' Q (pc + 3) lv st M' (z M' rf')) : pv_R g κ N rf nL cells slots Q pc lv st0 M (pv_cac x z) := by
  intro v hv H locs ls hW hL hl
  subst h0
  cases x with
  | none => cases hv
  | some q =>
    obtain ⟨w1, w2, w3, w4, w5, w6⟩ := hw
    refine pv_afterC (q := q) h1 h2 hL hl (va_runIN (As := As) (rest := st) ⟨C.1, C.2.1, C.2.2.1, C.2.2.2.1, C.2.2.2.2.1⟩ (hM q rfl) ⟨va_cnB n C.2.2.2.2.1 (pv_good (pv_codeUW w4)) rfl rfl rfl (C.2.2.2.2.2.1.2.1 _ w1) (C.2.2.2.2.1 _ w3) w5 ⟨hR.1, by show 8 + (n2 + 11) + 80 * d2 ≤ _; omega⟩, w6, C.2.2.2.2.1 _ w2⟩ ⟨pv_blindC, fun U hU hWm => ⟨rfl, by rw [hU]; exact hW, C.2.2.2.2.2.1.warm hWm, pv_over_alike hWm.alike hov⟩⟩ rfl hA hl.1 rfl (lv_room hst) hd ⟨by rw [h1]; exact hRc.1, by rw [h2]; exact hRc.2⟩) hv k
/-- a static method that makes nothing, called while cells are made (Arrays.fill) -/
theorem rw_callSC {i : Nat} {y : MethodName} {c2 : ByteArray} {n2 n d2 : Nat} {As : List Value} {x : Option (pv_M × pv_F)} {z : pv_M → pv_F → Option α} (C : pv_Ok g κ nL cc own ret) (hov : (Cond.arrayOver (.array .int)).before g.2.2.2.2.2.2.1 g.2.2.2.2.1 = true) (hd : decode cc pc = .ok (.invokestatic i, 3)) (hw : pv_cs own i y c2 n2 none n) (hM : pv_MtC g.2.1 y c2 n2 d2 κ N As M rf N 0 0 x) (hR : d2 + 1 ≤ g.2.2.2.1.frames ∧ 80 + 80 * d2 ≤ g.2.2.2.1.locals) (hn2 : n2 ≤ 50) (hA : As.length = n) (hst : ((st.map fun v => v.category).sum ≤ 8)) (hRc : cells ≤ g.2.2.2.1.cells ∧ slots ≤ g.2.2.2.1.slots) {st0 : List Value} (h0 : st0 = As.reverse ++ st)
    (k : ∀ M' rf', pv_R g κ N rf' nL cells slots Q (pc + 3) lv st M' (z M' rf')) : pv_R g κ N rf nL cells slots Q pc lv st0 M (pv_cac x z) := by
  intro v hv H locs ls hW hL hl
  subst h0
  cases x with
  | none => cases hv
  | some q =>
    obtain ⟨w1, w2, w3, w4, w5⟩ := hw
    have hg : GoodIn UW (va_wsS own i y (.code y c2 n2 none :: UW)) := pv_good (fun w h => by
      rcases List.mem_append.mp h with h | h
      · simp only [List.mem_cons, List.mem_nil_iff, or_false] at h
        rcases h with rfl | rfl | rfl
        · exact w1
        · exact w2
        · exact w3
      · exact pv_codeUW w4 w h)
    exact pv_afterC (q := q) (Nat.add_zero _) (Nat.add_zero _) hL hl (va_runS (As := As) (rest := st) ⟨C.1, C.2.1, C.2.2.1, C.2.2.2.1, C.2.2.2.2.1⟩ (hM q rfl) (va_cwS n C.2.2.2.2.1 hg rfl rfl rfl w5 ⟨hR.1, by show 8 + (n2 + 11) + 80 * d2 ≤ _; omega⟩) ⟨pv_blindC, fun U hU hWm => ⟨rfl, by rw [hU]; exact hW, C.2.2.2.2.2.1.warm hWm, pv_over_alike hWm.alike hov⟩⟩ rfl hA hl.1 rfl (lv_room hst) hd ⟨hRc.1, hRc.2⟩) hv k
end PVN
theorem rw_vretC {g : pv_X} {κ : pv_K} {N : Nat} {rf : pv_F} {nL cells slots : Nat} {pc : Nat} {lv : List (Nat × Value)} {M : pv_M} {cc : ByteArray} {own : String} (C : pv_Ok g κ nL cc own none) (hd : decode cc pc = .ok (.return_, 1)) : pv_R g κ N rf nL cells slots (pv_QC g κ N cells slots) pc lv [] M (some (M, rf)) := by
  intro v hv H locs ls hW hL hl
  cases hv
  exact W.vret C.1 C.2.1 C.2.2.2.2.2.2.2 (fun t ht hWm => ⟨rfl, by rw [ht]; exact hW⟩) hL hd C.2.2.2.2.2.2.1
