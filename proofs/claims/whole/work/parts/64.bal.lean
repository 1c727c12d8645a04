/-! what the ballot is asked -/
theorem for3b {ρ A B : Type} {body : (A → Int32 → B → Option ρ) → A → Int32 → B → Option ρ} (n : Nat) (I : Nat → A → B → Prop) (P : Option ρ → Prop) (hx : ∀ rec a b, I n a b → P (body rec a (nI n) b)) (hs : ∀ rec i a b, i < n → I i a b → (∀ a' b', I (i + 1) a' b' → P (rec a' (nI (i + 1)) b')) → P (body rec a (nI i) b)) : ∀ (F i : Nat) (a : A) (b : B), i ≤ n → n - i < F → I i a b → P (pv_lp3 body F a (nI i) b)
  | 0, _, _, _, _, h, _ => absurd h (Nat.not_lt_zero _)
  | F + 1, i, a, b, hi, hF, hI => by
    show P (body (pv_lp3 body F) a (nI i) b)
    rcases Nat.lt_or_ge i n with h | h
    · exact hs _ i a b h hI (fun a' b' hI' => for3b n I P hx hs F (i + 1) a' b' h (by omega) hI')
    · have e : i = n := by omega
      subst e
      exact hx _ a b hI
theorem bn1 {c : Prop} {inst : Decidable c} (h : c) {ρ : Type} (x y : ρ) : (if (@ite Int32 c inst 1 0) = nI 0 then x else y) = y := by rw [if_pos h, if_neg (by decide)]
theorem bn0 {c : Prop} {inst : Decidable c} (h : ¬ c) {ρ : Type} (x y : ρ) : (if (@ite Int32 c inst 1 0) = nI 0 then x else y) = x := by rw [if_neg h, if_pos (show (0 : Int32) = nI 0 from rfl)]
def al (p : Nat → Bool) : Nat → Bool
  | 0 => true
  | n + 1 => al p n && p n
theorem al_iff (p : Nat → Bool) : ∀ n, al p n = true ↔ ∀ i, i < n → p i = true
  | 0 => ⟨fun _ i h => absurd h (Nat.not_lt_zero _), fun _ => rfl⟩
  | n + 1 => by
    unfold al
    rw [Bool.and_eq_true, al_iff p n]
    exact ⟨fun h i hi => by
      by_cases e : i = n
      · rw [e]; exact h.2
      · exact h.1 i (by omega), fun h => ⟨fun i hi => h i (by omega), h n (by omega)⟩⟩
theorem al_no {p : Nat → Bool} {n i : Nat} (hi : i < n) (h : p i = false) : al p n = false := by
  cases e : al p n with
  | false => rfl
  | true =>
    rw [al_iff] at e
    rw [e i hi] at h
    cases h
theorem al_cong {p q : Nat → Bool} : ∀ {n : Nat}, (∀ i, i < n → p i = q i) → al p n = al q n
  | 0, _ => rfl
  | n + 1, h => by unfold al; rw [al_cong (fun i hi => h i (by omega)), h n (by omega)]
section B
variable (P V : Nat) (T : Nat → Nat → Nat → Nat) (U : Nat → Nat) (H : Nat → Int)
/-- how many of V choose p -/
def cnC (ch : Nat → Nat) (p : Nat) : Nat := fa_cnt (fun v => decide (ch v = p)) V
def wnr (ch : Nat → Nat) : Nat := bst (fun p => ((cnC V ch p : Nat) : Int)) 0 P
def chU (ch : Nat → Nat) (v q : Nat) : Nat → Nat := fun x => if x = v then q else ch x
def cont (ch : Nat → Nat) (v : Nat) : Bool := al (fun q => decide (gn T U H 0 (wnr P V (chU ch v q)) v ≤ gn T U H 0 (wnr P V ch) v)) P
def six : Nat := if V < 6 then V else 6
def rsB (ch : Nat → Nat) : Bool := al (cont P V T U H ch) (six V)
def chR (row : Nat) : Nat → Nat := fun v => if v < six V then row / 4 ^ v % 4 else cho P T U H 0 v none
def tlB (row : Nat) : Bool := al (fun v => decide (row / 4 ^ v % 4 < P)) (six V)
def rst (row : Nat) : Int32 := if tlB P V row = true then (if rsB P V T U H (chR P V T U H row) = true then 1 else 0) else -2
def rsts : Nat := fa_cnt (fun row => tlB P V row && rsB P V T U H (chR P V T U H row)) (4 ^ six V)
def gnB (pa : Nat) (fg : Nat → Nat) (p v : Nat) : Int := if p = pa then H v * ((fg (U v) : Nat) : Int) else gn T U H 0 p v
def chB (pa : Nat) (fg : Nat → Nat) (v : Nat) : Nat := bst (fun p => gnB T U H pa fg p v) 0 P
def fgt (t u : Nat) : Nat := if u = 0 then t / 100 else if u = 1 then t / 10 % 10 else t % 10
def adf (a b : Nat) : Nat := if a < b then b - a else a - b
def apt (pa t : Nat) : Nat := adf (t / 100) (T 0 pa 0) + adf (t / 10 % 10) (T 0 pa 1) + adf (t % 10) (T 0 pa 2)
def elB (pa t : Nat) : Bool := decide (wnr P V (chB P T U H pa (fgt t)) = pa)
def lsb (f : Nat → Nat) (o : Option Nat) (k : Nat) : Bool := match o with
  | none => true
  | some c => decide (f k < f c)
def lsI (f : Nat → Nat) (o : Option Nat) : Int32 := match o with
  | none => -1
  | some c => nI (f c)
/-- the least by f among those with E, of like ones the first -/
def lst (f : Nat → Nat) (E : Nat → Bool) : Nat → Option Nat
  | 0 => none
  | k + 1 => if lsb f (lst f E k) k = true ∧ E k = true then some k else lst f E k
def vld (t : Nat) : Bool := decide (0 < t / 100 ∧ 0 < t / 10 % 10 ∧ 0 < t % 10)
def wns (pa : Nat) : Nat → Option Nat := lst (apt T pa) (fun t => vld t && elB P V T U H pa t)
def dsm (k : Nat) : Nat := k / 100 + k / 10 % 10 + k % 10
def hA (v k p : Nat) : Int := gn T U H 0 p v + ((k / 100 : Nat) : Int) * (T 0 p 0 : Nat) + ((k / 10 % 10 : Nat) : Int) * (T 0 p 1 : Nat) + ((k % 10 : Nat) : Int) * (T 0 p 2 : Nat)
def hE (v k : Nat) : Bool := al (fun p => decide (hA T U H v k p = hA T U H v k 0)) P
def hdg (v : Nat) : Nat → Option Nat := lst dsm (hE P T U H v)
end B
theorem lst_lt {f : Nat → Nat} {E : Nat → Bool} : ∀ {k c : Nat}, lst f E k = some c → c < k
  | 0, c, h => by cases h
  | k + 1, c, h => by
    unfold lst at h
    split at h
    · cases h
      omega
    · have := lst_lt h
      omega
/-- nothing changes where none is fit, or none is less -/
theorem lst_skip {f : Nat → Nat} {E : Nat → Bool} {k : Nat} : ∀ m, (∀ j, k ≤ j → j < k + m → E j = false ∨ lsb f (lst f E k) j = false) → lst f E (k + m) = lst f E k
  | 0, _ => rfl
  | m + 1, h => by
    have ih := lst_skip m (fun j h1 h2 => h j h1 (by omega))
    rw [← Nat.add_assoc]
    conv => lhs; unfold lst
    rw [ih, if_neg]
    rintro ⟨q1, q2⟩
    rcases h (k + m) (by omega) (by omega) with z | z
    · rw [z] at q2
      cases q2
    · rw [z] at q1
      cases q1
def BAo : pv_BA := fun C P V T U H v => (∃ a, a ≤ v ∧ C 158 11 = nI a ∧ (a = v → 0 < v → 0 < P → C 158 12 = nI (rsts P V T U H))) ∧ ∀ p, p < 4 → ∃ a, a ≤ v ∧ C 171 p = nI a ∧ (a = v → 0 < v → p < P → C 172 p = oldI (wns P V T U H p 1000) ∧ C 173 p = lsI (apt T p) (wns P V T U H p 1000))
theorem BAo_ok : BAok BAo := by
  refine ⟨fun C C' P V T U H v hF h => ?_, fun C P V T U H P' V' T' U' H' v h => ?_⟩
  · obtain ⟨⟨a, a1, a2, a3⟩, h2⟩ := h
    refine ⟨⟨a, a1, by rw [hF _ _ (by omega) (by omega)]; exact a2, fun q1 q2 q3 => by rw [hF _ _ (by omega) (by omega)]; exact a3 q1 q2 q3⟩, fun p hp => ?_⟩
    obtain ⟨b, b1, b2, b3⟩ := h2 p hp
    exact ⟨b, b1, by rw [hF _ _ (by omega) (by omega)]; exact b2, fun q1 q2 q3 => by rw [hF 172 _ (by omega) (by omega), hF 173 _ (by omega) (by omega)]; exact b3 q1 q2 q3⟩
  · obtain ⟨⟨a, a1, a2, a3⟩, h2⟩ := h
    refine ⟨⟨a, by omega, a2, fun q => absurd q (by omega)⟩, fun p hp => ?_⟩
    obtain ⟨b, b1, b2, b3⟩ := h2 p hp
    exact ⟨b, by omega, b2, fun q => absurd q (by omega)⟩
section B2
variable {BA : pv_BA} {c v : Nat} {M : pv_M} {n : Nat → Nat} {b : Nat → Nat → Nat} {cn : Nat} {cf : Nat → Nat → Nat} {kn : Nat} {kf : Nat → Nat → Nat} {bn : Nat} {bf : Nat → Nat → Nat} {l d : Nat} {pu ra rb : Nat → Nat} {P V : Nat} {T : Nat → Nat → Nat → Nat} {U : Nat → Nat} {H : Nat → Int}
/-- the ballot's cells may change, as long as what they keep is good -/
theorem KS.frB (K : KS BAo c v M n b cn cf kn kf bn bf l d pu ra rb P V T U H) {M' : pv_M} (hF : ∀ k j, ¬ (PM k j ∨ PX k j ∨ (158 ≤ k ∧ k ≤ 178)) → M'.1 k j = M.1 k j) (hb : BAo M'.1 P V T U H v) : KS BAo c v M' n b cn cf kn kf bn bf l d pu ra rb P V T U H := by
  obtain ⟨h1, h2, h3, h4, h5, h6, h7, h8, s1, s2, s3, s4, s5, s6, s7, s8, s9, s10⟩ := K
  exact ⟨(h1.fr (fun k j q => hF k j (by first | omega | (unfold PM PX; omega) | (unfold PM; omega)))), (h2.fr (fun k j q => hF k j (by first | omega | (unfold PM PX; omega) | (unfold PM; omega)))), (h3.fr (fun k j q => hF k j (by first | omega | (unfold PM PX; omega) | (unfold PM; omega)))), (h4.fr (fun k j q => hF k j (by first | omega | (unfold PM PX; omega) | (unfold PM; omega)))), (h5.fr (fun k j q => hF k j (by first | omega | (unfold PM PX; omega) | (unfold PM; omega)))), (h6.fr (fun k j q => hF k j (by first | omega | (unfold PM PX; omega) | (unfold PM; omega)))), (h7.fr (fun k j q => hF k j (by first | omega | (unfold PM PX; omega) | (unfold PM; omega)))), (h8.fr (fun k j q => hF k j (by first | omega | (unfold PM PX; omega) | (unfold PM; omega)))), s1, s2, by rw [hF _ _ (by unfold PM PX; omega)]; exact s3, by rw [hF _ _ (by unfold PM PX; omega)]; exact s4, s5, s6.fr (fun a c q => hF a c (by unfold PM PX; omega)), XR.fr s7 (fun a c q => hF a c (by unfold PM PX; omega)), fun k hk => (s8 k hk).fr s5.1 (fun a c q1 q2 => hF a c (by unfold PM PX; omega)), by have hl := h5.1; rw [hF _ _ (by unfold PM PX; omega)]; exact s9, hb⟩
theorem BAo.keep {M' : pv_M} (h : BAo M.1 P V T U H v) (hF : ∀ a c, a = 158 ∨ (171 ≤ a ∧ a ≤ 173) → M'.1 a c = M.1 a c) : BAo M'.1 P V T U H v := by
  obtain ⟨⟨a, a1, a2, a3⟩, h2⟩ := h
  refine ⟨⟨a, a1, by rw [hF _ _ (by omega)]; exact a2, fun q1 q2 q3 => by rw [hF _ _ (by omega)]; exact a3 q1 q2 q3⟩, fun p hp => ?_⟩
  obtain ⟨b, b1, b2, b3⟩ := h2 p hp
  exact ⟨b, b1, by rw [hF _ _ (by omega)]; exact b2, fun q1 q2 q3 => by rw [hF 172 _ (by omega), hF 173 _ (by omega)]; exact b3 q1 q2 q3⟩
theorem KS.ba (K : KS BAo c v M n b cn cf kn kf bn bf l d pu ra rb P V T U H) : BAo M.1 P V T U H v := K.2.2.2.2.2.2.2.2.2.2.2.2.2.2.2.2.2
theorem KS.ver (K : KS BA c v M n b cn cf kn kf bn bf l d pu ra rb P V T U H) : v ≤ c ∧ 0 < v ∧ M.1 39 2 = nI v := ⟨K.2.2.2.2.2.2.2.2.1, K.2.2.2.2.2.2.2.2.2.1, K.2.2.2.2.2.2.2.2.2.2.1⟩
end B2
