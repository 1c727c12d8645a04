/-! memory: ints by cell and place, longs by cell and place; cells are numbered in the order in which they are made -/
abbrev pv_M : Type := (Nat → Nat → Int32) × (Nat → Nat → Int64)
def pv_u {α : Type} (f : Nat → Nat → α) (k j : Nat) (v : α) : Nat → Nat → α := fun a b => if a = k ∧ b = j then v else f a b
def pv_row {α : Type} (f : Nat → Nat → α) (k : Nat) (r : Nat → α) : Nat → Nat → α := fun a b => if a = k then r b else f a b
theorem pv_u_row {α : Type} (f : Nat → Nat → α) (k j : Nat) (v : α) : pv_u f k j v k = fun b => if b = j then v else f k b := by
  funext b
  simp [pv_u]
theorem pv_u_ne {α : Type} (f : Nat → Nat → α) {k a : Nat} (j : Nat) (v : α) (h : a ≠ k) : pv_u f k j v a = f a := by
  funext b
  simp [pv_u, h]
theorem pv_row_eq {α : Type} (f : Nat → Nat → α) (k : Nat) (r : Nat → α) : pv_row f k r k = r := by
  funext b
  simp [pv_row]
theorem pv_row_ne {α : Type} (f : Nat → Nat → α) {k a : Nat} (r : Nat → α) (h : a ≠ k) : pv_row f k r a = f a := by
  funext b
  simp [pv_row, h]
/-- the kind of a cell (0 ints, 1 longs, 2 rows, c + 3 an object of class c) and its size -/
def pv_shl : List (Nat × Nat) := [(11, 20), (8, 3), (0, 15), (8, 3), (0, 31), (8, 3), (0, 31), (6, 2), (2, 10), (0, 4), (0, 4), (0, 4), (0, 4), (0, 4), (0, 4), (0, 4), (0, 4), (0, 4), (0, 4), (6, 2), (2, 8), (0, 6), (0, 6), (0, 6), (0, 6), (0, 6), (0, 6), (0, 6), (0, 6), (6, 2), (2, 6), (0, 3), (0, 3), (0, 3), (0, 3), (0, 3), (0, 3), (0, 8), (0, 8), (5, 6), (2, 10), (0, 12), (0, 12), (0, 12), (0, 12), (0, 12), (0, 12), (0, 12), (0, 12), (0, 12), (0, 12), (0, 8), (0, 8), (4, 7), (2, 10), (0, 3), (0, 3), (0, 3), (0, 3), (0, 3), (0, 3), (0, 3), (0, 3), (0, 3), (0, 3), (2, 10), (0, 3), (0, 3), (0, 3), (0, 3), (0, 3), (0, 3), (0, 3), (0, 3), (0, 3), (0, 3), (2, 10), (0, 12), (0, 12), (0, 12), (0, 12), (0, 12), (0, 12), (0, 12), (0, 12), (0, 12), (0, 12), (0, 4), (4, 7), (2, 10), (0, 3), (0, 3), (0, 3), (0, 3), (0, 3), (0, 3), (0, 3), (0, 3), (0, 3), (0, 3), (2, 10), (0, 3), (0, 3), (0, 3), (0, 3), (0, 3), (0, 3), (0, 3), (0, 3), (0, 3), (0, 3), (2, 10), (0, 12), (0, 12), (0, 12), (0, 12), (0, 12), (0, 12), (0, 12), (0, 12), (0, 12), (0, 12), (0, 4), (4, 7), (2, 10), (0, 3), (0, 3), (0, 3), (0, 3), (0, 3), (0, 3), (0, 3), (0, 3), (0, 3), (0, 3), (2, 10), (0, 3), (0, 3), (0, 3), (0, 3), (0, 3), (0, 3), (0, 3), (0, 3), (0, 3), (0, 3), (2, 10), (0, 12), (0, 12), (0, 12), (0, 12), (0, 12), (0, 12), (0, 12), (0, 12), (0, 12), (0, 12), (0, 4), (3, 13), (0, 4), (0, 4), (0, 4), (2, 6), (0, 4), (0, 4), (0, 4), (0, 4), (0, 4), (0, 4), (0, 6), (0, 108), (0, 4), (0, 4), (0, 4), (2, 4), (0, 4), (0, 4), (0, 4), (0, 4), (10, 3), (0, 6), (1, 6), (1, 6), (9, 7), (0, 4), (0, 4), (0, 16), (0, 16), (7, 3), (0, 4), (0, 4), (2, 4), (0, 60), (0, 60), (0, 60), (0, 60), (12, 34), (0, 4), (0, 4), (0, 240), (0, 60), (0, 120), (0, 3), (0, 3), (0, 72), (0, 2), (0, 8), (0, 40), (0, 30), (0, 120), (0, 30), (0, 48), (0, 8), (0, 4), (0, 8), (0, 2), (0, 6), (1, 6), (1, 6), (0, 32), (0, 4), (0, 18)]
def pv_SH (k : Nat) : Nat × Nat := pv_shl.getD k (99, 0)
abbrev pv_T : Nat := 222
/-- what the fields that hold references hold, once all is made -/
def pv_RF (k j : Nat) : Option Nat := match k, j with
  | 0, 0 => some 1
  | 0, 1 => some 3
  | 0, 2 => some 5
  | 0, 3 => some 7
  | 0, 4 => some 19
  | 0, 5 => some 29
  | 0, 6 => some 37
  | 0, 7 => some 38
  | 0, 8 => some 39
  | 0, 9 => some 53
  | 0, 10 => some 88
  | 0, 11 => some 123
  | 0, 12 => some 158
  | 0, 13 => some 179
  | 0, 14 => some 183
  | 0, 15 => some 188
  | 1, 1 => some 2
  | 3, 1 => some 4
  | 5, 1 => some 6
  | 7, 0 => some 8
  | 19, 0 => some 20
  | 29, 0 => some 30
  | 39, 3 => some 40
  | 39, 4 => some 51
  | 39, 5 => some 52
  | 53, 0 => some 39
  | 53, 2 => some 54
  | 53, 3 => some 65
  | 53, 4 => some 76
  | 53, 5 => some 87
  | 88, 0 => some 39
  | 88, 2 => some 89
  | 88, 3 => some 100
  | 88, 4 => some 111
  | 88, 5 => some 122
  | 123, 0 => some 39
  | 123, 2 => some 124
  | 123, 3 => some 135
  | 123, 4 => some 146
  | 123, 5 => some 157
  | 158, 0 => some 39
  | 158, 1 => some 159
  | 158, 2 => some 160
  | 158, 3 => some 161
  | 158, 4 => some 162
  | 158, 5 => some 169
  | 158, 6 => some 170
  | 158, 7 => some 171
  | 158, 8 => some 172
  | 158, 9 => some 173
  | 158, 10 => some 174
  | 179, 0 => some 180
  | 179, 1 => some 181
  | 179, 2 => some 182
  | 183, 3 => some 184
  | 183, 4 => some 185
  | 183, 5 => some 186
  | 183, 6 => some 187
  | 188, 0 => some 189
  | 188, 1 => some 190
  | 188, 2 => some 191
  | 196, 0 => some 197
  | 196, 1 => some 198
  | 196, 2 => some 199
  | 196, 3 => some 200
  | 196, 5 => some 201
  | 196, 6 => some 202
  | 196, 8 => some 203
  | 196, 9 => some 204
  | 196, 10 => some 205
  | 196, 11 => some 206
  | 196, 13 => some 207
  | 196, 14 => some 208
  | 196, 15 => some 209
  | 196, 16 => some 210
  | 196, 18 => some 211
  | 196, 19 => some 212
  | 196, 20 => some 213
  | 196, 21 => some 214
  | 196, 22 => some 215
  | 196, 23 => some 216
  | 196, 24 => some 217
  | 196, 25 => some 218
  | 196, 27 => some 219
  | 196, 28 => some 220
  | 196, 33 => some 221
  | _, _ => none
abbrev pv_cl : List vw_C := [(RX0, TX0, 13), (RX1, TX1, 7), (RX2, TX2, 6), (RX3, TX3, 2), (RX4, TX4, 3), (RX5, TX5, 3), (RX6, TX6, 7), (RX7, TX7, 3), (RX8, TX8, 20), (RX9, TX9, 34)]
def pv_ty (c i : Nat) : FieldType := match c with
  | 0 => tyX0 i
  | 1 => tyX1 i
  | 2 => tyX2 i
  | 3 => tyX3 i
  | 4 => tyX4 i
  | 5 => tyX5 i
  | 6 => tyX6 i
  | 7 => tyX7 i
  | 8 => tyX8 i
  | _ => tyX9 i
def pv_isR (c i : Nat) : Bool := match pv_ty c i with
  | .int => false
  | .boolean => false
  | _ => true
/-- the first address, the heap ahead of the law, the classes and slots, the classes of int[], long[], int[][], the address of the static row -/
abbrev pv_K : Type := Nat × Heap × va_G × ClassId × ClassId × ClassId × Nat
abbrev pv_H0 (κ : pv_K) : Heap := κ.2.1
abbrev pv_D (κ : pv_K) : va_G := κ.2.2.1
abbrev pv_cI (κ : pv_K) : ClassId := κ.2.2.2.1
abbrev pv_cL (κ : pv_K) : ClassId := κ.2.2.2.2.1
abbrev pv_cR (κ : pv_K) : ClassId := κ.2.2.2.2.2.1
abbrev pv_tA (κ : pv_K) : Nat := κ.2.2.2.2.2.2
def pv_fv (z : Nat) (rf : Nat → Option Nat) (mi : Nat → Int32) (c i : Nat) : Value := if pv_isR c i = true then va_rf ((rf i).map (fun j => z + j)) else .int (mi i)
def pv_fs (z : Nat) (rf : Nat → Option Nat) (mi : Nat → Int32) (c n : Nat) : List Value := (List.range n).map (pv_fv z rf mi c)
def pv_ent (κ : pv_K) (rf : Nat → Nat → Option Nat) (M : pv_M) (k : Nat) : va_E :=
  if (pv_SH k).1 = 0 then .inl (pv_cI κ, (pv_SH k).2, .inl (M.1 k))
  else if (pv_SH k).1 = 1 then .inl (pv_cL κ, (pv_SH k).2, .inr (.inl (M.2 k)))
  else if (pv_SH k).1 = 2 then .inl (pv_cR κ, (pv_SH k).2, .inr (.inr (.inr (.inr (fun j => some (κ.1 + (k + 1 + j)))))))
  else .inr ((pv_SH k).1 - 3, pv_fs κ.1 (rf k) (M.1 k) ((pv_SH k).1 - 3) (pv_SH k).2)
def pv_wl (κ : pv_K) (N : Nat) (rf : Nat → Nat → Option Nat) (M : pv_M) : va_W := (List.range N).map (fun k => (κ.1 + k, pv_ent κ rf M k))
abbrev pv_tys (κ : pv_K) : List (ClassId × FieldType) := [(pv_cI κ, .int), (pv_cL κ, .long), (pv_cR κ, .array .int)]
/-- the world: its cells, how many, and what was there before -/
def pv_Wd (κ : pv_K) (N : Nat) (rf : Nat → Nat → Option Nat) (M : pv_M) (H : Heap) : Prop := va_P (pv_D κ) pv_cl (pv_wl κ N rf M) H ∧ H.size = κ.1 + N ∧ ∀ q, q < κ.1 → H[q]? = (pv_H0 κ)[q]?
def pv_nw : List Cond := [.methodLinkNest RX0 94 yX8_greatest "PoundVotes", .methodLinkNest RX1 68 yX8_greatest "PoundVotes", .methodLinkNest RX4 29 yX8_isWithin "PoundVotes", .methodLinkNest RX6 37 yX8_isWithin "PoundVotes", .methodLinkNest RX6 48 yX8_commonDivisor "PoundVotes", .methodLinkNest RX7 22 yX8_isWithin "PoundVotes", .methodLinkNest RX7 61 yX8_commonDivisor "PoundVotes", .methodLinkNest RX8 48 yX2_init "PoundVotes", .methodLinkNest RX8 77 yX7_init "PoundVotes"]
def pv_dg (j : Nat) : Value := .int (match j with | 0 => 0 | 1 => 1 | _ => 9)
/-- what is known of the tables, in any state of the run -/
def pv_Kn (κ : pv_K) (U : State) : Prop := va_K (pv_D κ) pv_cl (pv_tys κ) U ∧ (∀ w ∈ pv_nw, va_Nw w U) ∧ va_Z "PoundVotes" "DIGEST_YEARS" "[I" (.ref (pv_tA κ)) (fun q => κ.1 ≤ q) U (pv_H0 κ) ∧ va_T .int (pv_tA κ) 3 pv_dg (fun q => κ.1 ≤ q) U (pv_H0 κ) ∧ (pv_H0 κ).size = κ.1
theorem pv_Kn.warm {κ : pv_K} {s U : State} (h : pv_Kn κ s) (hW : s.WarmedH U.vm) : pv_Kn κ U := by
  refine ⟨va_K.moved hW.alike h.1, fun w hw => ?_, va_Z.moved hW.alike h.2.2.1, va_T.moved hW.alike h.2.2.2.1, h.2.2.2.2⟩
  have h2 := h.2.1 w hw
  simp only [pv_nw, List.mem_cons, List.mem_nil_iff, or_false] at hw
  rcases hw with rfl | rfl | rfl | rfl | rfl | rfl | rfl | rfl | rfl <;> exact va_Nw.warmM hW h2
theorem pv_Kn.same {κ : pv_K} {s U : State} (h : pv_Kn κ s) (hv : s.vm = U.vm) : pv_Kn κ U := by
  have ha : s.vm.Alike U.vm := by rw [hv]; exact Vm.Alike.refl U.vm
  refine ⟨va_K.moved ha h.1, fun w hw => ?_, va_Z.moved ha h.2.2.1, va_T.moved ha h.2.2.2.1, h.2.2.2.2⟩
  have h2 := h.2.1 w hw
  simp only [pv_nw, List.mem_cons, List.mem_nil_iff, or_false] at hw
  rcases hw with rfl | rfl | rfl | rfl | rfl | rfl | rfl | rfl | rfl <;> exact va_Nw.same rfl hv h2
theorem pv_wl_get {κ : pv_K} {N : Nat} {rf : Nat → Nat → Option Nat} {M : pv_M} {k : Nat} (h : k < N) : (pv_wl κ N rf M)[k]? = some (κ.1 + k, pv_ent κ rf M k) := by
  unfold pv_wl
  rw [List.getElem?_map, List.getElem?_range h]
  rfl
theorem pv_wl_of {κ : pv_K} {N : Nat} {rf : Nat → Nat → Option Nat} {M : pv_M} {k : Nat} {q : Nat × va_E} (h : (pv_wl κ N rf M)[k]? = some q) : k < N ∧ q = (κ.1 + k, pv_ent κ rf M k) := by
  have hl : k < N := by
    have := (List.getElem?_eq_some_iff.mp h).1
    unfold pv_wl at this
    simpa using this
  exact ⟨hl, (Option.some.inj ((pv_wl_get hl).symm.trans h)).symm⟩
theorem pv_at {κ : pv_K} {N : Nat} {rf : Nat → Nat → Option Nat} {M : pv_M} {H : Heap} {k : Nat} (hW : pv_Wd κ N rf M H) (h : k < N) : va_at (pv_D κ) pv_cl (κ.1 + k, pv_ent κ rf M k) H := hW.1 k _ (pv_wl_get h)
theorem pv_Wd.set {κ : pv_K} {N : Nat} {rf rf' : Nat → Nat → Option Nat} {M M' : pv_M} {H H1 : Heap} {k : Nat} (hW : pv_Wd κ N rf M H) (hz : H1.size = H.size) (oq : ∀ q : Nat, q ≠ κ.1 + k → H1[q]? = H[q]?) (he : va_at (pv_D κ) pv_cl (κ.1 + k, pv_ent κ rf' M' k) H1) (ho : ∀ j, j < N → j ≠ k → pv_ent κ rf' M' j = pv_ent κ rf M j) : pv_Wd κ N rf' M' H1 := by
  refine ⟨fun i q hi => ?_, by rw [hz]; exact hW.2.1, fun q hq => by rw [oq q (by omega)]; exact hW.2.2 q hq⟩
  obtain ⟨hl, rfl⟩ := pv_wl_of hi
  by_cases e : i = k
  · subst e
    exact he
  · rw [ho i hl e]
    exact (pv_at hW hl).kept (oq _ (by show κ.1 + i ≠ κ.1 + k; omega))
theorem pv_ent_I {κ : pv_K} {rf : Nat → Nat → Option Nat} {M : pv_M} {k : Nat} (h : (pv_SH k).1 = 0) : pv_ent κ rf M k = .inl (pv_cI κ, (pv_SH k).2, .inl (M.1 k)) := by
  unfold pv_ent
  rw [if_pos h]
theorem pv_ent_L {κ : pv_K} {rf : Nat → Nat → Option Nat} {M : pv_M} {k : Nat} (h : (pv_SH k).1 = 1) : pv_ent κ rf M k = .inl (pv_cL κ, (pv_SH k).2, .inr (.inl (M.2 k))) := by
  unfold pv_ent
  rw [if_neg (by omega), if_pos h]
theorem pv_ent_R {κ : pv_K} {rf : Nat → Nat → Option Nat} {M : pv_M} {k : Nat} (h : (pv_SH k).1 = 2) : pv_ent κ rf M k = .inl (pv_cR κ, (pv_SH k).2, .inr (.inr (.inr (.inr (fun j => some (κ.1 + (k + 1 + j))))))) := by
  unfold pv_ent
  rw [if_neg (by omega), if_neg (by omega), if_pos h]
theorem pv_ent_O {κ : pv_K} {rf : Nat → Nat → Option Nat} {M : pv_M} {k c n : Nat} (h : pv_SH k = (c + 3, n)) : pv_ent κ rf M k = .inr (c, pv_fs κ.1 (rf k) (M.1 k) c n) := by
  have e : c + 3 - 3 = c := by omega
  unfold pv_ent
  rw [h, if_neg (show ¬ (c + 3, n).1 = 0 by show ¬ c + 3 = 0; omega), if_neg (show ¬ (c + 3, n).1 = 1 by show ¬ c + 3 = 1; omega), if_neg (show ¬ (c + 3, n).1 = 2 by show ¬ c + 3 = 2; omega)]
  show Sum.inr (c + 3 - 3, pv_fs κ.1 (rf k) (M.1 k) (c + 3 - 3) n) = _
  rw [e]
/-- an entry hangs on its own row alone -/
theorem pv_ent_cong {κ : pv_K} {rf rf' : Nat → Nat → Option Nat} {M M' : pv_M} {k : Nat} (h1 : M'.1 k = M.1 k) (h2 : M'.2 k = M.2 k) (h3 : rf' k = rf k) : pv_ent κ rf' M' k = pv_ent κ rf M k := by
  unfold pv_ent
  rw [h1, h2, h3]
theorem pv_fs_get {z c n i : Nat} {rf : Nat → Option Nat} {mi : Nat → Int32} (h : i < n) : (pv_fs z rf mi c n)[i]? = some (pv_fv z rf mi c i) := by
  unfold pv_fs
  rw [List.getElem?_map, List.getElem?_range h]
  rfl
theorem pv_fs_len {z c n : Nat} {rf : Nat → Option Nat} {mi : Nat → Int32} : (pv_fs z rf mi c n).length = n := by simp [pv_fs]
abbrev pv_X : Type := Program × Launch × Env × Room × State × MethodId × Array Value × List Frame × Method × Code
/-- at pc, with these locals, stack and memory, the machine comes to what x says (x none: nothing is said) -/
def pv_R {α : Type} (g : pv_X) (κ : pv_K) (N : Nat) (rf : Nat → Nat → Option Nat) (nL cells slots : Nat) (Q : α → State → Prop) (pc : Nat) (lv : List (Nat × Value)) (st : List Value) (M : pv_M) (x : Option α) : Prop :=
  ∀ v, x = some v → ∀ (H : Heap) (locs : List Loc) (ls : Array Slot), pv_Wd κ N rf M H → (∀ q ∈ locs, κ.1 ≤ q.base) → lv_has ls nL lv →
    W g.1 g.2.1 g.2.2.1 g.2.2.2.1 g.2.2.2.2.1 g.2.2.2.2.2.1 g.2.2.2.2.2.2.1 g.2.2.2.2.2.2.2.1 g.2.2.2.2.2.2.2.2.1 g.2.2.2.2.2.2.2.2.2 H locs cells slots (Q v) (F0 g.2.2.2.2.2.1 pc ls st)
/-- what holds all through a method's run -/
def pv_Ok (g : pv_X) (κ : pv_K) (nL : Nat) (cc : ByteArray) (own : String) (ret : Option FieldType) : Prop :=
  g.1.tables.exec = Jvm.exec ∧ g.2.2.2.2.2.2.2.2.2.code = cc ∧ g.2.2.2.2.2.2.2.2.2.maxLocals = nL ∧ g.2.2.2.2.1.vm.findClass own = some g.2.2.2.2.2.1.cls ∧ (∀ w ∈ UW, w.before g.2.2.2.2.2.2.1 g.2.2.2.2.1 = true) ∧ pv_Kn κ g.2.2.2.2.1 ∧ g.2.2.2.2.2.2.2.2.1.locks = false ∧ g.2.2.2.2.2.2.2.2.1.sig.returnType = ret
def pv_nm {α ρ : Type} (v : α) (f : α → Option ρ) : Option ρ := f v
def pv_jn {K ρ : Type} (k : K) (f : K → Option ρ) : Option ρ := f k
def pv_okb (N t k : Nat) (j : Int32) : Bool := decide (k < N) && (decide ((pv_SH k).1 = t) && (decide (¬ j < 0) && decide (j.toNatClampNeg < (pv_SH k).2)))
theorem pv_okb_of {N t k : Nat} {j : Int32} (h : pv_okb N t k j = true) : k < N ∧ (pv_SH k).1 = t ∧ vp_in j (pv_SH k).2 := by
  simp only [pv_okb, Bool.and_eq_true, decide_eq_true_eq] at h
  exact ⟨h.1, h.2.1, fun q => q.elim h.2.2.1 (fun z => absurd h.2.2.2 (Nat.not_lt.mpr z))⟩
def pv_ldI {ρ : Type} (N k : Nat) (j : Int32) (M : pv_M) (f : Int32 → Option ρ) : Option ρ := if pv_okb N 0 k j = true then f (M.1 k j.toNatClampNeg) else none
def pv_ldL {ρ : Type} (N k : Nat) (j : Int32) (M : pv_M) (f : Int64 → Option ρ) : Option ρ := if pv_okb N 1 k j = true then f (M.2 k j.toNatClampNeg) else none
def pv_ldR {ρ : Type} (N k : Nat) (j : Int32) (f : Nat → Option ρ) : Option ρ := if pv_okb N 2 k j = true then f (k + 1 + j.toNatClampNeg) else none
def pv_stI {ρ : Type} (N k : Nat) (j v : Int32) (M : pv_M) (f : pv_M → Option ρ) : Option ρ := if pv_okb N 0 k j = true then f (pv_u M.1 k j.toNatClampNeg v, M.2) else none
def pv_stL {ρ : Type} (N k : Nat) (j : Int32) (v : Int64) (M : pv_M) (f : pv_M → Option ρ) : Option ρ := if pv_okb N 1 k j = true then f (M.1, pv_u M.2 k j.toNatClampNeg v) else none
def pv_len {ρ : Type} (N k : Nat) (f : Int32 → Option ρ) : Option ρ := if k < N ∧ (pv_SH k).1 < 3 then f (Int32.ofNat (pv_SH k).2) else none
def pv_ck {ρ : Type} (b : Bool) (x : Option ρ) : Option ρ := if b = true then x else none
def pv_cal {α ρ : Type} (x : Option (α × pv_M)) (f : α → pv_M → Option ρ) : Option ρ := match x with
  | some v => f v.1 v.2
  | none => none
def pv_cpy (M : pv_M) (a : Nat) (sp : Int32) (b : Nat) (dp n : Int32) : pv_M := (pv_row M.1 b (va_cpy (M.1 a) (M.1 b) sp.toNatClampNeg dp.toNatClampNeg n.toNatClampNeg), M.2)
def pv_cpyb (N a : Nat) (sp : Int32) (b : Nat) (dp n : Int32) : Bool := decide (a < N) && (decide (b < N) && (decide ((pv_SH a).1 = 0) && (decide ((pv_SH b).1 = 0) && (decide (¬ sp < 0) && (decide (¬ dp < 0) && (decide (¬ n < 0) && (decide (sp.toNatClampNeg + n.toNatClampNeg ≤ (pv_SH a).2) && decide (dp.toNatClampNeg + n.toNatClampNeg ≤ (pv_SH b).2))))))))
section PV
variable {α : Type} {g : pv_X} {κ : pv_K} {N : Nat} {rf : Nat → Nat → Option Nat} {nL cells slots : Nat} {Q : α → State → Prop} {pc : Nat} {lv : List (Nat × Value)} {st : List Value} {M : pv_M} {x : Option α} {cc : ByteArray} {own : String} {ret : Option FieldType}
theorem rw_none : pv_R g κ N rf nL cells slots Q pc lv st M none := fun v h => by cases h
theorem rw_jn {K : Type} {k : K} {f : K → Option α} (P : K → Prop) (h1 : P k) (h2 : ∀ j, P j → pv_R g κ N rf nL cells slots Q pc lv st M (f j)) : pv_R g κ N rf nL cells slots Q pc lv st M (pv_jn k f) := h2 k h1
theorem rw_lv {lv' : List (Nat × Value)} (ks : List Nat) (h : lv_pick lv ks = lv') (k : pv_R g κ N rf nL cells slots Q pc lv' st M x) : pv_R g κ N rf nL cells slots Q pc lv st M x := fun v hv H locs ls hW hL hl => k v hv H locs ls hW hL (lv_sub hl ks h)
theorem rw_nm {v : Int32} {f : Int32 → Option α} (k : ∀ y, pv_R g κ N rf nL cells slots Q pc lv (.int y :: st) M (f y)) : pv_R g κ N rf nL cells slots Q pc lv (.int v :: st) M (pv_nm v f) := k v
theorem rw_nmL {v : Int64} {f : Int64 → Option α} (k : ∀ y, pv_R g κ N rf nL cells slots Q pc lv (.long y :: st) M (f y)) : pv_R g κ N rf nL cells slots Q pc lv (.long v :: st) M (pv_nm v f) := k v
theorem rw_ck {b : Bool} (k : b = true → pv_R g κ N rf nL cells slots Q pc lv st M x) : pv_R g κ N rf nL cells slots Q pc lv st M (pv_ck b x) := by
  intro v hv
  unfold pv_ck at hv
  by_cases h : b = true
  · rw [if_pos h] at hv
    exact k h v hv
  · rw [if_neg h] at hv
    cases hv
theorem rw_iconst {n : Int} {c : Int32} (C : pv_Ok g κ nL cc own ret) (hd : decode cc pc = .ok (.iconst n, 1)) (hc : Int32.ofInt n = c) (k : pv_R g κ N rf nL cells slots Q (pc + 1) lv (.int c :: st) M x) : pv_R g κ N rf nL cells slots Q pc lv (st) M x := fun v hv H locs ls hW hL hl => lv_iconst C.1 C.2.1 hd hc (k v hv H locs ls hW hL hl)
theorem rw_bipush {n : Int} {c : Int32} (C : pv_Ok g κ nL cc own ret) (hd : decode cc pc = .ok (.bipush n, 2)) (hc : (Int8.ofInt n).toInt32 = c) (k : pv_R g κ N rf nL cells slots Q (pc + 2) lv (.int c :: st) M x) : pv_R g κ N rf nL cells slots Q pc lv (st) M x := fun v hv H locs ls hW hL hl => lv_bipush C.1 C.2.1 hd hc (k v hv H locs ls hW hL hl)
theorem rw_sipush {n : Int} {c : Int32} (C : pv_Ok g κ nL cc own ret) (hd : decode cc pc = .ok (.sipush n, 3)) (hc : (Int16.ofInt n).toInt32 = c) (k : pv_R g κ N rf nL cells slots Q (pc + 3) lv (.int c :: st) M x) : pv_R g κ N rf nL cells slots Q pc lv (st) M x := fun v hv H locs ls hW hL hl => lv_sipush C.1 C.2.1 hd hc (k v hv H locs ls hW hL hl)
theorem rw_lconst {n : Fin 2} {c : Int64} (C : pv_Ok g κ nL cc own ret) (hd : decode cc pc = .ok (.lconst n, 1)) (hc : Int64.ofNat (n : Nat) = c) (k : pv_R g κ N rf nL cells slots Q (pc + 1) lv (.long c :: st) M x) : pv_R g κ N rf nL cells slots Q pc lv (st) M x := fun v hv H locs ls hW hL hl => lv_lconst C.1 C.2.1 hd hc (k v hv H locs ls hW hL hl)
theorem rw_ldc {i : Nat} {c : Int32} (C : pv_Ok g κ nL cc own ret) (hd : decode cc pc = .ok (.ldc i, 2)) (hc : Cond.constant own i c ∈ UW) (k : pv_R g κ N rf nL cells slots Q (pc + 2) lv (.int c :: st) M x) : pv_R g κ N rf nL cells slots Q pc lv (st) M x := fun v hv H locs ls hW hL hl => lv_ldc C.1 C.2.1 C.2.2.2.1 (C.2.2.2.2.1 _ hc) hd (k v hv H locs ls hW hL hl)
theorem rw_ldc_w {i : Nat} {c : Int32} (C : pv_Ok g κ nL cc own ret) (hd : decode cc pc = .ok (.ldc_w i, 3)) (hc : Cond.constant own i c ∈ UW) (k : pv_R g κ N rf nL cells slots Q (pc + 3) lv (.int c :: st) M x) : pv_R g κ N rf nL cells slots Q pc lv (st) M x := fun v hv H locs ls hW hL hl => lv_ldcw C.1 C.2.1 C.2.2.2.1 (C.2.2.2.2.1 _ hc) hd (k v hv H locs ls hW hL hl)
theorem rw_ldc2_w {i : Nat} {c : Int64} (C : pv_Ok g κ nL cc own ret) (hd : decode cc pc = .ok (.ldc2_w i, 3)) (hc : Cond.constantLong own i c ∈ UW) (k : pv_R g κ N rf nL cells slots Q (pc + 3) lv (.long c :: st) M x) : pv_R g κ N rf nL cells slots Q pc lv (st) M x := fun v hv H locs ls hW hL hl => lv_ldc2 C.1 C.2.1 C.2.2.2.1 (C.2.2.2.2.1 _ hc) hd (k v hv H locs ls hW hL hl)
theorem rw_iload_n {k0 : Fin 4} {i : Nat} {y : Int32} (C : pv_Ok g κ nL cc own ret) (hd : decode cc pc = .ok (.iload_n k0, 1)) (hi : (k0 : Nat) = i) (j : Nat) (hj : lv[j]? = some (i, .int y)) (k : pv_R g κ N rf nL cells slots Q (pc + 1) lv (.int y :: st) M x) : pv_R g κ N rf nL cells slots Q pc lv (st) M x := fun v hv H locs ls hW hL hl => lv_iload_n C.1 C.2.1 hd hi (lv_at hl j hj) (k v hv H locs ls hW hL hl)
theorem rw_iload {i : Nat} {y : Int32} (C : pv_Ok g κ nL cc own ret) (hd : decode cc pc = .ok (.iload i, 2)) (j : Nat) (hj : lv[j]? = some (i, .int y)) (k : pv_R g κ N rf nL cells slots Q (pc + 2) lv (.int y :: st) M x) : pv_R g κ N rf nL cells slots Q pc lv (st) M x := fun v hv H locs ls hW hL hl => lv_iload C.1 C.2.1 hd (lv_at hl j hj) (k v hv H locs ls hW hL hl)
theorem rw_lload_n {k0 : Fin 4} {i : Nat} {y : Int64} (C : pv_Ok g κ nL cc own ret) (hd : decode cc pc = .ok (.lload_n k0, 1)) (hi : (k0 : Nat) = i) (j : Nat) (hj : lv[j]? = some (i, .long y)) (k : pv_R g κ N rf nL cells slots Q (pc + 1) lv (.long y :: st) M x) : pv_R g κ N rf nL cells slots Q pc lv (st) M x := fun v hv H locs ls hW hL hl => lv_lload_n C.1 C.2.1 hd hi (lv_at hl j hj) (k v hv H locs ls hW hL hl)
theorem rw_lload {i : Nat} {y : Int64} (C : pv_Ok g κ nL cc own ret) (hd : decode cc pc = .ok (.lload i, 2)) (j : Nat) (hj : lv[j]? = some (i, .long y)) (k : pv_R g κ N rf nL cells slots Q (pc + 2) lv (.long y :: st) M x) : pv_R g κ N rf nL cells slots Q pc lv (st) M x := fun v hv H locs ls hW hL hl => lv_lload C.1 C.2.1 hd (lv_at hl j hj) (k v hv H locs ls hW hL hl)
theorem rw_aload_n {k0 : Fin 4} {i : Nat} {y : Nat} (C : pv_Ok g κ nL cc own ret) (hd : decode cc pc = .ok (.aload_n k0, 1)) (hi : (k0 : Nat) = i) (j : Nat) (hj : lv[j]? = some (i, .ref y)) (k : pv_R g κ N rf nL cells slots Q (pc + 1) lv (.ref y :: st) M x) : pv_R g κ N rf nL cells slots Q pc lv (st) M x := fun v hv H locs ls hW hL hl => lv_aload_n C.1 C.2.1 hd hi (lv_at hl j hj) (k v hv H locs ls hW hL hl)
theorem rw_aload {i : Nat} {y : Nat} (C : pv_Ok g κ nL cc own ret) (hd : decode cc pc = .ok (.aload i, 2)) (j : Nat) (hj : lv[j]? = some (i, .ref y)) (k : pv_R g κ N rf nL cells slots Q (pc + 2) lv (.ref y :: st) M x) : pv_R g κ N rf nL cells slots Q pc lv (st) M x := fun v hv H locs ls hW hL hl => lv_aload C.1 C.2.1 hd (lv_at hl j hj) (k v hv H locs ls hW hL hl)
theorem rw_istore_n {k0 : Fin 4} {i : Nat} {y : Int32} {lv' : List (Nat × Value)} (C : pv_Ok g κ nL cc own ret) (hd : decode cc pc = .ok (.istore_n k0, 1)) (hi : (k0 : Nat) = i) (hn : i < nL) (hlv : (i, Value.int y) :: lv.filter (fun q => !(q.1 == i) && !(q.1 + 1 == i && q.2.category == 2)) = lv') (k : pv_R g κ N rf nL cells slots Q (pc + 1) lv' st M x) : pv_R g κ N rf nL cells slots Q pc lv (.int y :: st) M x := fun v hv H locs ls hW hL hl => lv_istore_n C.1 C.2.1 hd hi hl hn hlv (fun ls' hl' => k v hv H locs ls' hW hL hl')
theorem rw_istore {i : Nat} {y : Int32} {lv' : List (Nat × Value)} (C : pv_Ok g κ nL cc own ret) (hd : decode cc pc = .ok (.istore i, 2)) (hn : i < nL) (hlv : (i, Value.int y) :: lv.filter (fun q => !(q.1 == i) && !(q.1 + 1 == i && q.2.category == 2)) = lv') (k : pv_R g κ N rf nL cells slots Q (pc + 2) lv' st M x) : pv_R g κ N rf nL cells slots Q pc lv (.int y :: st) M x := fun v hv H locs ls hW hL hl => lv_istore C.1 C.2.1 hd  hl hn hlv (fun ls' hl' => k v hv H locs ls' hW hL hl')
theorem rw_lstore_n {k0 : Fin 4} {i : Nat} {y : Int64} {lv' : List (Nat × Value)} (C : pv_Ok g κ nL cc own ret) (hd : decode cc pc = .ok (.lstore_n k0, 1)) (hi : (k0 : Nat) = i) (hn : i + 1 < nL) (hlv : (i, Value.long y) :: lv.filter (fun q => !(q.1 == i) && (!(q.1 == i + 1) && !(q.1 + 1 == i && q.2.category == 2))) = lv') (k : pv_R g κ N rf nL cells slots Q (pc + 1) lv' st M x) : pv_R g κ N rf nL cells slots Q pc lv (.long y :: st) M x := fun v hv H locs ls hW hL hl => lv_lstore_n C.1 C.2.1 hd hi hl hn hlv (fun ls' hl' => k v hv H locs ls' hW hL hl')
theorem rw_lstore {i : Nat} {y : Int64} {lv' : List (Nat × Value)} (C : pv_Ok g κ nL cc own ret) (hd : decode cc pc = .ok (.lstore i, 2)) (hn : i + 1 < nL) (hlv : (i, Value.long y) :: lv.filter (fun q => !(q.1 == i) && (!(q.1 == i + 1) && !(q.1 + 1 == i && q.2.category == 2))) = lv') (k : pv_R g κ N rf nL cells slots Q (pc + 2) lv' st M x) : pv_R g κ N rf nL cells slots Q pc lv (.long y :: st) M x := fun v hv H locs ls hW hL hl => lv_lstore C.1 C.2.1 hd  hl hn hlv (fun ls' hl' => k v hv H locs ls' hW hL hl')
theorem rw_astore_n {k0 : Fin 4} {i : Nat} {y : Nat} {lv' : List (Nat × Value)} (C : pv_Ok g κ nL cc own ret) (hd : decode cc pc = .ok (.astore_n k0, 1)) (hi : (k0 : Nat) = i) (hn : i < nL) (hlv : (i, Value.ref y) :: lv.filter (fun q => !(q.1 == i) && !(q.1 + 1 == i && q.2.category == 2)) = lv') (k : pv_R g κ N rf nL cells slots Q (pc + 1) lv' st M x) : pv_R g κ N rf nL cells slots Q pc lv (.ref y :: st) M x := fun v hv H locs ls hW hL hl => lv_astore_n C.1 C.2.1 hd hi hl hn hlv (fun ls' hl' => k v hv H locs ls' hW hL hl')
theorem rw_astore {i : Nat} {y : Nat} {lv' : List (Nat × Value)} (C : pv_Ok g κ nL cc own ret) (hd : decode cc pc = .ok (.astore i, 2)) (hn : i < nL) (hlv : (i, Value.ref y) :: lv.filter (fun q => !(q.1 == i) && !(q.1 + 1 == i && q.2.category == 2)) = lv') (k : pv_R g κ N rf nL cells slots Q (pc + 2) lv' st M x) : pv_R g κ N rf nL cells slots Q pc lv (.ref y :: st) M x := fun v hv H locs ls hW hL hl => lv_astore C.1 C.2.1 hd  hl hn hlv (fun ls' hl' => k v hv H locs ls' hW hL hl')
theorem rw_iinc {i : Nat} {n : Int} {y c : Int32} {lv' : List (Nat × Value)} (C : pv_Ok g κ nL cc own ret) (hd : decode cc pc = .ok (.iinc i n, 3)) (j : Nat) (hj : lv[j]? = some (i, .int y)) (hc : Int32.ofInt n = c) (hn : i < nL) (hlv : (i, Value.int (y + c)) :: lv.filter (fun q => !(q.1 == i) && !(q.1 + 1 == i && q.2.category == 2)) = lv') (k : pv_R g κ N rf nL cells slots Q (pc + 3) lv' st M x) : pv_R g κ N rf nL cells slots Q pc lv st M x := fun v hv H locs ls hW hL hl => lv_iinc C.1 C.2.1 hd hl hj (by rw [hc]) hn hlv (fun ls' hl' => k v hv H locs ls' hW hL hl')
theorem rw_iadd {a b : Int32} (C : pv_Ok g κ nL cc own ret) (hd : decode cc pc = .ok (.iadd, 1)) (k : pv_R g κ N rf nL cells slots Q (pc + 1) lv (.int (a + b) :: st) M x) : pv_R g κ N rf nL cells slots Q pc lv (.int b :: .int a :: st) M x := fun v hv H locs ls hW hL hl => lv_iadd C.1 C.2.1 hd (k v hv H locs ls hW hL hl)
theorem rw_isub {a b : Int32} (C : pv_Ok g κ nL cc own ret) (hd : decode cc pc = .ok (.isub, 1)) (k : pv_R g κ N rf nL cells slots Q (pc + 1) lv (.int (a - b) :: st) M x) : pv_R g κ N rf nL cells slots Q pc lv (.int b :: .int a :: st) M x := fun v hv H locs ls hW hL hl => lv_isub C.1 C.2.1 hd (k v hv H locs ls hW hL hl)
theorem rw_imul {a b : Int32} (C : pv_Ok g κ nL cc own ret) (hd : decode cc pc = .ok (.imul, 1)) (k : pv_R g κ N rf nL cells slots Q (pc + 1) lv (.int (a * b) :: st) M x) : pv_R g κ N rf nL cells slots Q pc lv (.int b :: .int a :: st) M x := fun v hv H locs ls hW hL hl => lv_imul C.1 C.2.1 hd (k v hv H locs ls hW hL hl)
theorem rw_iand {a b : Int32} (C : pv_Ok g κ nL cc own ret) (hd : decode cc pc = .ok (.iand, 1)) (k : pv_R g κ N rf nL cells slots Q (pc + 1) lv (.int (a &&& b) :: st) M x) : pv_R g κ N rf nL cells slots Q pc lv (.int b :: .int a :: st) M x := fun v hv H locs ls hW hL hl => lv_iand C.1 C.2.1 hd (k v hv H locs ls hW hL hl)
theorem rw_ior {a b : Int32} (C : pv_Ok g κ nL cc own ret) (hd : decode cc pc = .ok (.ior, 1)) (k : pv_R g κ N rf nL cells slots Q (pc + 1) lv (.int (a ||| b) :: st) M x) : pv_R g κ N rf nL cells slots Q pc lv (.int b :: .int a :: st) M x := fun v hv H locs ls hW hL hl => lv_ior C.1 C.2.1 hd (k v hv H locs ls hW hL hl)
theorem rw_ixor {a b : Int32} (C : pv_Ok g κ nL cc own ret) (hd : decode cc pc = .ok (.ixor, 1)) (k : pv_R g κ N rf nL cells slots Q (pc + 1) lv (.int (a ^^^ b) :: st) M x) : pv_R g κ N rf nL cells slots Q pc lv (.int b :: .int a :: st) M x := fun v hv H locs ls hW hL hl => lv_ixor C.1 C.2.1 hd (k v hv H locs ls hW hL hl)
theorem rw_ishl {a b : Int32} (C : pv_Ok g κ nL cc own ret) (hd : decode cc pc = .ok (.ishl, 1)) (k : pv_R g κ N rf nL cells slots Q (pc + 1) lv (.int (a <<< (b &&& 31)) :: st) M x) : pv_R g κ N rf nL cells slots Q pc lv (.int b :: .int a :: st) M x := fun v hv H locs ls hW hL hl => lv_ishl C.1 C.2.1 hd (k v hv H locs ls hW hL hl)
theorem rw_ishr {a b : Int32} (C : pv_Ok g κ nL cc own ret) (hd : decode cc pc = .ok (.ishr, 1)) (k : pv_R g κ N rf nL cells slots Q (pc + 1) lv (.int (a >>> (b &&& 31)) :: st) M x) : pv_R g κ N rf nL cells slots Q pc lv (.int b :: .int a :: st) M x := fun v hv H locs ls hW hL hl => lv_ishr C.1 C.2.1 hd (k v hv H locs ls hW hL hl)
theorem rw_iushr {a b : Int32} (C : pv_Ok g κ nL cc own ret) (hd : decode cc pc = .ok (.iushr, 1)) (k : pv_R g κ N rf nL cells slots Q (pc + 1) lv (.int ((a.toUInt32 >>> (b.toUInt32 &&& Int32.toUInt32 31)).toInt32) :: st) M x) : pv_R g κ N rf nL cells slots Q pc lv (.int b :: .int a :: st) M x := fun v hv H locs ls hW hL hl => lv_iushr C.1 C.2.1 hd rfl (k v hv H locs ls hW hL hl)
theorem rw_ladd {a b : Int64} (C : pv_Ok g κ nL cc own ret) (hd : decode cc pc = .ok (.ladd, 1)) (k : pv_R g κ N rf nL cells slots Q (pc + 1) lv (.long (a + b) :: st) M x) : pv_R g κ N rf nL cells slots Q pc lv (.long b :: .long a :: st) M x := fun v hv H locs ls hW hL hl => lv_ladd C.1 C.2.1 hd (k v hv H locs ls hW hL hl)
theorem rw_lsub {a b : Int64} (C : pv_Ok g κ nL cc own ret) (hd : decode cc pc = .ok (.lsub, 1)) (k : pv_R g κ N rf nL cells slots Q (pc + 1) lv (.long (a - b) :: st) M x) : pv_R g κ N rf nL cells slots Q pc lv (.long b :: .long a :: st) M x := fun v hv H locs ls hW hL hl => lv_lsub C.1 C.2.1 hd (k v hv H locs ls hW hL hl)
theorem rw_lmul {a b : Int64} (C : pv_Ok g κ nL cc own ret) (hd : decode cc pc = .ok (.lmul, 1)) (k : pv_R g κ N rf nL cells slots Q (pc + 1) lv (.long (a * b) :: st) M x) : pv_R g κ N rf nL cells slots Q pc lv (.long b :: .long a :: st) M x := fun v hv H locs ls hW hL hl => lv_lmul C.1 C.2.1 hd (k v hv H locs ls hW hL hl)
theorem rw_lcmp {a b : Int64} (C : pv_Ok g κ nL cc own ret) (hd : decode cc pc = .ok (.lcmp, 1)) (k : pv_R g κ N rf nL cells slots Q (pc + 1) lv (.int (lg_cmp a b) :: st) M x) : pv_R g κ N rf nL cells slots Q pc lv (.long b :: .long a :: st) M x := fun v hv H locs ls hW hL hl => W.lcmp C.1 C.2.1 hd (k v hv H locs ls hW hL hl)
theorem rw_ineg {a : Int32} (C : pv_Ok g κ nL cc own ret) (hd : decode cc pc = .ok (.ineg, 1)) (k : pv_R g κ N rf nL cells slots Q (pc + 1) lv (.int (-a) :: st) M x) : pv_R g κ N rf nL cells slots Q pc lv (.int a :: st) M x := fun v hv H locs ls hW hL hl => lv_ineg C.1 C.2.1 hd (k v hv H locs ls hW hL hl)
theorem rw_i2l {a : Int32} (C : pv_Ok g κ nL cc own ret) (hd : decode cc pc = .ok (.i2l, 1)) (k : pv_R g κ N rf nL cells slots Q (pc + 1) lv (.long a.toInt64 :: st) M x) : pv_R g κ N rf nL cells slots Q pc lv (.int a :: st) M x := fun v hv H locs ls hW hL hl => lv_i2l C.1 C.2.1 hd rfl (k v hv H locs ls hW hL hl)
theorem rw_l2i {a : Int64} (C : pv_Ok g κ nL cc own ret) (hd : decode cc pc = .ok (.l2i, 1)) (k : pv_R g κ N rf nL cells slots Q (pc + 1) lv (.int a.toInt32 :: st) M x) : pv_R g κ N rf nL cells slots Q pc lv (.long a :: st) M x := fun v hv H locs ls hW hL hl => lv_l2i C.1 C.2.1 hd rfl (k v hv H locs ls hW hL hl)
theorem rw_i2b {a : Int32} (C : pv_Ok g κ nL cc own ret) (hd : decode cc pc = .ok (.i2b, 1)) (k : pv_R g κ N rf nL cells slots Q (pc + 1) lv (.int a.toInt8.toInt32 :: st) M x) : pv_R g κ N rf nL cells slots Q pc lv (.int a :: st) M x := fun v hv H locs ls hW hL hl => lv_i2b C.1 C.2.1 hd rfl (k v hv H locs ls hW hL hl)
theorem rw_i2s {a : Int32} (C : pv_Ok g κ nL cc own ret) (hd : decode cc pc = .ok (.i2s, 1)) (k : pv_R g κ N rf nL cells slots Q (pc + 1) lv (.int a.toInt16.toInt32 :: st) M x) : pv_R g κ N rf nL cells slots Q pc lv (.int a :: st) M x := fun v hv H locs ls hW hL hl => lv_i2s C.1 C.2.1 hd rfl (k v hv H locs ls hW hL hl)
theorem rw_dup {a : Value} (C : pv_Ok g κ nL cc own ret) (hd : decode cc pc = .ok (.dup, 1)) (ha : a.category = 1) (k : pv_R g κ N rf nL cells slots Q (pc + 1) lv (a :: a :: st) M x) : pv_R g κ N rf nL cells slots Q pc lv (a :: st) M x := fun v hv H locs ls hW hL hl => lv_dup C.1 C.2.1 hd ha (k v hv H locs ls hW hL hl)
theorem rw_pop {a : Value} (C : pv_Ok g κ nL cc own ret) (hd : decode cc pc = .ok (.pop, 1)) (ha : a.category = 1) (k : pv_R g κ N rf nL cells slots Q (pc + 1) lv (st) M x) : pv_R g κ N rf nL cells slots Q pc lv (a :: st) M x := fun v hv H locs ls hW hL hl => lv_pop C.1 C.2.1 hd ha (k v hv H locs ls hW hL hl)
theorem rw_dup2 {a b : Value} (C : pv_Ok g κ nL cc own ret) (hd : decode cc pc = .ok (.dup2, 1)) (ha : a.category = 1) (hb : b.category = 1) (k : pv_R g κ N rf nL cells slots Q (pc + 1) lv (a :: b :: a :: b :: st) M x) : pv_R g κ N rf nL cells slots Q pc lv (a :: b :: st) M x := fun v hv H locs ls hW hL hl => lv_dup2_11 C.1 C.2.1 hd ha hb (k v hv H locs ls hW hL hl)
theorem rw_idiv {a b : Int32} (C : pv_Ok g κ nL cc own ret) (hd : decode cc pc = .ok (.idiv, 1)) (hb : ¬ b = 0) (k : pv_R g κ N rf nL cells slots Q (pc + 1) lv (.int (a / b) :: st) M x) : pv_R g κ N rf nL cells slots Q pc lv (.int b :: .int a :: st) M x := fun v hv H locs ls hW hL hl => lv_idiv C.1 C.2.1 hd hb (k v hv H locs ls hW hL hl)
theorem rw_irem {a b : Int32} (C : pv_Ok g κ nL cc own ret) (hd : decode cc pc = .ok (.irem, 1)) (hb : ¬ b = 0) (k : pv_R g κ N rf nL cells slots Q (pc + 1) lv (.int (a - a / b * b) :: st) M x) : pv_R g κ N rf nL cells slots Q pc lv (.int b :: .int a :: st) M x := fun v hv H locs ls hW hL hl => lv_irem C.1 C.2.1 hd hb (k v hv H locs ls hW hL hl)
theorem rw_ldiv {a b : Int64} (C : pv_Ok g κ nL cc own ret) (hd : decode cc pc = .ok (.ldiv, 1)) (hb : ¬ b = 0) (k : pv_R g κ N rf nL cells slots Q (pc + 1) lv (.long (a / b) :: st) M x) : pv_R g κ N rf nL cells slots Q pc lv (.long b :: .long a :: st) M x := fun v hv H locs ls hW hL hl => lv_ldiv C.1 C.2.1 hd hb (k v hv H locs ls hW hL hl)
theorem rw_lrem {a b : Int64} (C : pv_Ok g κ nL cc own ret) (hd : decode cc pc = .ok (.lrem, 1)) (hb : ¬ b = 0) (k : pv_R g κ N rf nL cells slots Q (pc + 1) lv (.long (a - a / b * b) :: st) M x) : pv_R g κ N rf nL cells slots Q pc lv (.long b :: .long a :: st) M x := fun v hv H locs ls hW hL hl => lv_lrem C.1 C.2.1 hd hb (k v hv H locs ls hW hL hl)
theorem rw_goto {off : Int} {tgt : Nat} (C : pv_Ok g κ nL cc own ret) (hd : decode cc pc = .ok (.goto off, 3)) (ht : (pc : Int) + off = (tgt : Int)) (k : pv_R g κ N rf nL cells slots Q tgt lv st M x) : pv_R g κ N rf nL cells slots Q pc lv st M x := fun v hv H locs ls hW hL hl => lv_goto C.1 C.2.1 hd ht (k v hv H locs ls hW hL hl)
theorem rw_if_eq {a : Int32} {off : Int} {tgt : Nat} {xt xf : Option α} (C : pv_Ok g κ nL cc own ret) (hd : decode cc pc = .ok (.ifCond .eq off, 3)) (ht : (pc : Int) + off = (tgt : Int)) (k : pv_R g κ N rf nL cells slots Q tgt lv st M xt) (k2 : pv_R g κ N rf nL cells slots Q (pc + 3) lv st M xf) : pv_R g κ N rf nL cells slots Q pc lv (.int a :: st) M (if a = 0 then xt else xf) := by
  intro v hv H locs ls hW hL hl
  by_cases h : a = 0
  · rw [if_pos h] at hv
    exact lv_if_eq C.1 C.2.1 hd ht (fun q => k v hv H locs ls hW hL hl) (fun q => absurd h q)
  · rw [if_neg h] at hv
    exact lv_if_eq C.1 C.2.1 hd ht (fun q => absurd q h) (fun q => k2 v hv H locs ls hW hL hl)
theorem rw_icmp_eq {a b : Int32} {off : Int} {tgt : Nat} {xt xf : Option α} (C : pv_Ok g κ nL cc own ret) (hd : decode cc pc = .ok (.if_icmp .eq off, 3)) (ht : (pc : Int) + off = (tgt : Int)) (k : pv_R g κ N rf nL cells slots Q tgt lv st M xt) (k2 : pv_R g κ N rf nL cells slots Q (pc + 3) lv st M xf) : pv_R g κ N rf nL cells slots Q pc lv (.int b :: .int a :: st) M (if a = b then xt else xf) := by
  intro v hv H locs ls hW hL hl
  by_cases h : a = b
  · rw [if_pos h] at hv
    exact lv_icmp_eq C.1 C.2.1 hd ht (fun q => k v hv H locs ls hW hL hl) (fun q => absurd h q)
  · rw [if_neg h] at hv
    exact lv_icmp_eq C.1 C.2.1 hd ht (fun q => absurd q h) (fun q => k2 v hv H locs ls hW hL hl)
theorem rw_if_ne {a : Int32} {off : Int} {tgt : Nat} {xt xf : Option α} (C : pv_Ok g κ nL cc own ret) (hd : decode cc pc = .ok (.ifCond .ne off, 3)) (ht : (pc : Int) + off = (tgt : Int)) (k : pv_R g κ N rf nL cells slots Q tgt lv st M xt) (k2 : pv_R g κ N rf nL cells slots Q (pc + 3) lv st M xf) : pv_R g κ N rf nL cells slots Q pc lv (.int a :: st) M (if a = 0 then xf else xt) := by
  intro v hv H locs ls hW hL hl
  by_cases h : a = 0
  · rw [if_pos h] at hv
    exact lv_if_ne C.1 C.2.1 hd ht (fun q => absurd h q) (fun q => k2 v hv H locs ls hW hL hl)
  · rw [if_neg h] at hv
    exact lv_if_ne C.1 C.2.1 hd ht (fun q => k v hv H locs ls hW hL hl) (fun q => absurd q h)
theorem rw_icmp_ne {a b : Int32} {off : Int} {tgt : Nat} {xt xf : Option α} (C : pv_Ok g κ nL cc own ret) (hd : decode cc pc = .ok (.if_icmp .ne off, 3)) (ht : (pc : Int) + off = (tgt : Int)) (k : pv_R g κ N rf nL cells slots Q tgt lv st M xt) (k2 : pv_R g κ N rf nL cells slots Q (pc + 3) lv st M xf) : pv_R g κ N rf nL cells slots Q pc lv (.int b :: .int a :: st) M (if a = b then xf else xt) := by
  intro v hv H locs ls hW hL hl
  by_cases h : a = b
  · rw [if_pos h] at hv
    exact lv_icmp_ne C.1 C.2.1 hd ht (fun q => absurd h q) (fun q => k2 v hv H locs ls hW hL hl)
  · rw [if_neg h] at hv
    exact lv_icmp_ne C.1 C.2.1 hd ht (fun q => k v hv H locs ls hW hL hl) (fun q => absurd q h)
theorem rw_if_lt {a : Int32} {off : Int} {tgt : Nat} {xt xf : Option α} (C : pv_Ok g κ nL cc own ret) (hd : decode cc pc = .ok (.ifCond .lt off, 3)) (ht : (pc : Int) + off = (tgt : Int)) (k : pv_R g κ N rf nL cells slots Q tgt lv st M xt) (k2 : pv_R g κ N rf nL cells slots Q (pc + 3) lv st M xf) : pv_R g κ N rf nL cells slots Q pc lv (.int a :: st) M (if a < 0 then xt else xf) := by
  intro v hv H locs ls hW hL hl
  by_cases h : a < 0
  · rw [if_pos h] at hv
    exact lv_if_lt C.1 C.2.1 hd ht (fun q => k v hv H locs ls hW hL hl) (fun q => absurd h q)
  · rw [if_neg h] at hv
    exact lv_if_lt C.1 C.2.1 hd ht (fun q => absurd q h) (fun q => k2 v hv H locs ls hW hL hl)
theorem rw_icmp_lt {a b : Int32} {off : Int} {tgt : Nat} {xt xf : Option α} (C : pv_Ok g κ nL cc own ret) (hd : decode cc pc = .ok (.if_icmp .lt off, 3)) (ht : (pc : Int) + off = (tgt : Int)) (k : pv_R g κ N rf nL cells slots Q tgt lv st M xt) (k2 : pv_R g κ N rf nL cells slots Q (pc + 3) lv st M xf) : pv_R g κ N rf nL cells slots Q pc lv (.int b :: .int a :: st) M (if a < b then xt else xf) := by
  intro v hv H locs ls hW hL hl
  by_cases h : a < b
  · rw [if_pos h] at hv
    exact lv_icmp_lt C.1 C.2.1 hd ht (fun q => k v hv H locs ls hW hL hl) (fun q => absurd h q)
  · rw [if_neg h] at hv
    exact lv_icmp_lt C.1 C.2.1 hd ht (fun q => absurd q h) (fun q => k2 v hv H locs ls hW hL hl)
theorem rw_if_ge {a : Int32} {off : Int} {tgt : Nat} {xt xf : Option α} (C : pv_Ok g κ nL cc own ret) (hd : decode cc pc = .ok (.ifCond .ge off, 3)) (ht : (pc : Int) + off = (tgt : Int)) (k : pv_R g κ N rf nL cells slots Q tgt lv st M xt) (k2 : pv_R g κ N rf nL cells slots Q (pc + 3) lv st M xf) : pv_R g κ N rf nL cells slots Q pc lv (.int a :: st) M (if 0 ≤ a then xt else xf) := by
  intro v hv H locs ls hW hL hl
  by_cases h : 0 ≤ a
  · rw [if_pos h] at hv
    exact lv_if_ge C.1 C.2.1 hd ht (fun q => k v hv H locs ls hW hL hl) (fun q => absurd h q)
  · rw [if_neg h] at hv
    exact lv_if_ge C.1 C.2.1 hd ht (fun q => absurd q h) (fun q => k2 v hv H locs ls hW hL hl)
theorem rw_icmp_ge {a b : Int32} {off : Int} {tgt : Nat} {xt xf : Option α} (C : pv_Ok g κ nL cc own ret) (hd : decode cc pc = .ok (.if_icmp .ge off, 3)) (ht : (pc : Int) + off = (tgt : Int)) (k : pv_R g κ N rf nL cells slots Q tgt lv st M xt) (k2 : pv_R g κ N rf nL cells slots Q (pc + 3) lv st M xf) : pv_R g κ N rf nL cells slots Q pc lv (.int b :: .int a :: st) M (if b ≤ a then xt else xf) := by
  intro v hv H locs ls hW hL hl
  by_cases h : b ≤ a
  · rw [if_pos h] at hv
    exact lv_icmp_ge C.1 C.2.1 hd ht (fun q => k v hv H locs ls hW hL hl) (fun q => absurd h q)
  · rw [if_neg h] at hv
    exact lv_icmp_ge C.1 C.2.1 hd ht (fun q => absurd q h) (fun q => k2 v hv H locs ls hW hL hl)
theorem rw_if_gt {a : Int32} {off : Int} {tgt : Nat} {xt xf : Option α} (C : pv_Ok g κ nL cc own ret) (hd : decode cc pc = .ok (.ifCond .gt off, 3)) (ht : (pc : Int) + off = (tgt : Int)) (k : pv_R g κ N rf nL cells slots Q tgt lv st M xt) (k2 : pv_R g κ N rf nL cells slots Q (pc + 3) lv st M xf) : pv_R g κ N rf nL cells slots Q pc lv (.int a :: st) M (if 0 < a then xt else xf) := by
  intro v hv H locs ls hW hL hl
  by_cases h : 0 < a
  · rw [if_pos h] at hv
    exact lv_if_gt C.1 C.2.1 hd ht (fun q => k v hv H locs ls hW hL hl) (fun q => absurd h q)
  · rw [if_neg h] at hv
    exact lv_if_gt C.1 C.2.1 hd ht (fun q => absurd q h) (fun q => k2 v hv H locs ls hW hL hl)
theorem rw_icmp_gt {a b : Int32} {off : Int} {tgt : Nat} {xt xf : Option α} (C : pv_Ok g κ nL cc own ret) (hd : decode cc pc = .ok (.if_icmp .gt off, 3)) (ht : (pc : Int) + off = (tgt : Int)) (k : pv_R g κ N rf nL cells slots Q tgt lv st M xt) (k2 : pv_R g κ N rf nL cells slots Q (pc + 3) lv st M xf) : pv_R g κ N rf nL cells slots Q pc lv (.int b :: .int a :: st) M (if b < a then xt else xf) := by
  intro v hv H locs ls hW hL hl
  by_cases h : b < a
  · rw [if_pos h] at hv
    exact lv_icmp_gt C.1 C.2.1 hd ht (fun q => k v hv H locs ls hW hL hl) (fun q => absurd h q)
  · rw [if_neg h] at hv
    exact lv_icmp_gt C.1 C.2.1 hd ht (fun q => absurd q h) (fun q => k2 v hv H locs ls hW hL hl)
theorem rw_if_le {a : Int32} {off : Int} {tgt : Nat} {xt xf : Option α} (C : pv_Ok g κ nL cc own ret) (hd : decode cc pc = .ok (.ifCond .le off, 3)) (ht : (pc : Int) + off = (tgt : Int)) (k : pv_R g κ N rf nL cells slots Q tgt lv st M xt) (k2 : pv_R g κ N rf nL cells slots Q (pc + 3) lv st M xf) : pv_R g κ N rf nL cells slots Q pc lv (.int a :: st) M (if a ≤ 0 then xt else xf) := by
  intro v hv H locs ls hW hL hl
  by_cases h : a ≤ 0
  · rw [if_pos h] at hv
    exact lv_if_le C.1 C.2.1 hd ht (fun q => k v hv H locs ls hW hL hl) (fun q => absurd h q)
  · rw [if_neg h] at hv
    exact lv_if_le C.1 C.2.1 hd ht (fun q => absurd q h) (fun q => k2 v hv H locs ls hW hL hl)
theorem rw_icmp_le {a b : Int32} {off : Int} {tgt : Nat} {xt xf : Option α} (C : pv_Ok g κ nL cc own ret) (hd : decode cc pc = .ok (.if_icmp .le off, 3)) (ht : (pc : Int) + off = (tgt : Int)) (k : pv_R g κ N rf nL cells slots Q tgt lv st M xt) (k2 : pv_R g κ N rf nL cells slots Q (pc + 3) lv st M xf) : pv_R g κ N rf nL cells slots Q pc lv (.int b :: .int a :: st) M (if a ≤ b then xt else xf) := by
  intro v hv H locs ls hW hL hl
  by_cases h : a ≤ b
  · rw [if_pos h] at hv
    exact lv_icmp_le C.1 C.2.1 hd ht (fun q => k v hv H locs ls hW hL hl) (fun q => absurd h q)
  · rw [if_neg h] at hv
    exact lv_icmp_le C.1 C.2.1 hd ht (fun q => absurd q h) (fun q => k2 v hv H locs ls hW hL hl)
end PV
