def pv_sw {ρ : Type} (n : Nat) (a : Int32) (z : Nat → Option ρ) : Option ρ := z (if 0 ≤ a.toInt ∧ a.toInt < (n : Int) then a.toInt.toNat else n)
theorem rw_sw {α : Type} {g : pv_X} {κ : pv_K} {N : Nat} {rf : Nat → Nat → Option Nat} {nL cells slots : Nat} {Q : α → State → Prop} {pc : Nat} {lv : List (Nat × Value)} {st : List Value} {M : pv_M} {cc : ByteArray} {own : String} {ret : Option FieldType} {a : Int32} {dflt lo hi : Int} {offs : Array Int} {len n : Nat} {z : Nat → Option α} (tg : Nat → Nat) (dt : Nat) (C : pv_Ok g κ nL cc own ret) (hd : decode cc pc = .ok (.tableswitch dflt lo hi offs, len)) (h0 : lo = 0) (hdt : (pc : Int) + dflt = (dt : Int)) (hsz : offs.size = n ∧ hi + 1 = (n : Int)) (htg : ∀ i, i < n → (offs[i]?).map (fun (o : Int) => (pc : Int) + o) = some (tg i : Int))
    (k : ∀ i, i < n → pv_R g κ N rf nL cells slots Q (tg i) lv st M (z i)) (k2 : pv_R g κ N rf nL cells slots Q dt lv st M (z n)) : pv_R g κ N rf nL cells slots Q pc lv (.int a :: st) M (pv_sw n a z) := by
  intro v hv H locs ls hW hL hl
  subst h0
  obtain ⟨hs, hh⟩ := hsz
  unfold pv_sw at hv
  by_cases h : 0 ≤ a.toInt ∧ a.toInt < (n : Int)
  · rw [if_pos h] at hv
    have hi' : a.toInt.toNat < n := by omega
    have hi2 : a.toInt.toNat < offs.size := by omega
    have ho := htg _ hi'
    rw [Array.getElem?_eq_getElem hi2] at ho
    refine lv_tableIn (off := offs[a.toInt.toNat]) (tgt := tg a.toInt.toNat) C.1 C.2.1 hd (by omega) (by omega) ?_ (Option.some.inj ho) (k _ hi' v hv H locs ls hW hL hl)
    rw [Int.sub_zero, Array.getElem?_eq_getElem hi2]
  · rw [if_neg h] at hv
    exact lv_tableOut C.1 C.2.1 hd (by omega) hdt (k2 v hv H locs ls hW hL hl)
