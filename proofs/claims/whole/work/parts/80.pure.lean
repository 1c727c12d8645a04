def pv_M0 : pv_M := (fun _ _ => 0, fun _ _ => 0)
def pv_rf0 : pv_F := fun _ _ => none
theorem law_ok (L : Nat) (xs : Nat → Int32) (hL : L ≤ 3584) : f_L_law L xs pv_M0 pv_rf0 = some 1 := sorry
