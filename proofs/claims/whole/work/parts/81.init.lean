def pv_M0 : pv_M := (fun _ _ => 0, fun _ _ => 0)
def pv_rf0 : pv_F := fun _ _ => none
abbrev InitP (M : pv_M) : Prop := (∀ t, t < 3 → M.1 202 t = nI 0 ∧ M.1 (2 * t + 1) 0 = nI t ∧ M.1 (2 * t + 1) 2 = nI 0) ∧ (M.1 7 1 = nI 0 ∧ M.1 196 12 = nI 0 ∧ M.1 19 1 = nI 0 ∧ M.1 196 17 = nI 0 ∧ M.1 29 1 = nI 0 ∧ M.1 196 32 = nI 0) ∧ (M.1 0 16 = nI 0 ∧ M.1 205 0 = nI 0 ∧ M.1 0 17 = nI 0 ∧ M.1 205 1 = nI 0 ∧ M.1 0 18 = M.1 196 4) ∧ (∀ v, v < 8 → M.1 37 v = nI 100 ∧ M.1 206 v = nI 100) ∧ (∀ k, k < 16 → M.1 186 k = nI 1 ∧ M.1 187 k = nI 1 ∧ M.1 219 (2 * k) = nI 1 ∧ M.1 219 (2 * k + 1) = nI 1) ∧ (∀ s, s < 4 → M.1 189 s = -1 ∧ M.1 197 s = -1) ∧ (M.1 39 0 = nI 0 ∧ M.1 39 1 = nI 0 ∧ M.1 39 2 = nI 0 ∧ M.1 0 19 = 1) ∧ (∀ l, l < 3 → M.1 (53 + 35 * l) 1 = nI l ∧ M.1 (53 + 35 * l) 6 = nI 0) ∧ M.1 158 11 = nI 0 ∧ ∀ p, p < 4 → M.1 171 p = nI 0
def pv_Cg (M : pv_M) (rf : pv_F) : Option (pv_M × pv_F) := pv_nm ((pv_row M.1 0 (fun _ => 0), M.2) : pv_M) (fun M1 => pv_nm (pv_row rf 0 (fun _ => none)) (fun rf1 => pv_cac (fc_X8_0 M1 rf1) (fun M2 rf2 => pv_nm ((pv_row M2.1 196 (fun _ => 0), M2.2) : pv_M) (fun M3 => pv_nm (pv_row rf2 196 (fun _ => none)) (fun rf3 => fc_X9_196 M3 rf3)))))
def pv_Ca (x : Option (pv_M × pv_F)) : Bool := match x with
  | some y => decide (InitP y.1)
  | none => false
set_option maxRecDepth 100000 in
theorem init_a : pv_Ca (pv_Cg pv_M0 pv_rf0) = true := by decide +kernel
def pv_Cb (x : Option (pv_M × pv_F)) : Bool := match x with
  | some y => pv_isRF y.2
  | none => false
set_option maxRecDepth 100000 in
theorem init_b : pv_Cb (pv_Cg pv_M0 pv_rf0) = true := by decide +kernel
