theorem sa_2 : pv_SH 2 = (0, 15) := by decide +kernel
theorem sa_4 : pv_SH 4 = (0, 31) := by decide +kernel
theorem sa_6 : pv_SH 6 = (0, 31) := by decide +kernel
theorem sa_8 : pv_SH 8 = (2, 10) := by decide +kernel
theorem sa_9 : pv_SH 9 = (0, 4) := by decide +kernel
theorem sa_10 : pv_SH 10 = (0, 4) := by decide +kernel
theorem sa_11 : pv_SH 11 = (0, 4) := by decide +kernel
theorem sa_12 : pv_SH 12 = (0, 4) := by decide +kernel
theorem sa_13 : pv_SH 13 = (0, 4) := by decide +kernel
theorem sa_14 : pv_SH 14 = (0, 4) := by decide +kernel
theorem sa_15 : pv_SH 15 = (0, 4) := by decide +kernel
theorem sa_16 : pv_SH 16 = (0, 4) := by decide +kernel
theorem sa_17 : pv_SH 17 = (0, 4) := by decide +kernel
theorem sa_18 : pv_SH 18 = (0, 4) := by decide +kernel
theorem sa_20 : pv_SH 20 = (2, 8) := by decide +kernel
theorem sa_21 : pv_SH 21 = (0, 6) := by decide +kernel
theorem sa_22 : pv_SH 22 = (0, 6) := by decide +kernel
theorem sa_23 : pv_SH 23 = (0, 6) := by decide +kernel
theorem sa_24 : pv_SH 24 = (0, 6) := by decide +kernel
theorem sa_25 : pv_SH 25 = (0, 6) := by decide +kernel
theorem sa_26 : pv_SH 26 = (0, 6) := by decide +kernel
theorem sa_27 : pv_SH 27 = (0, 6) := by decide +kernel
theorem sa_28 : pv_SH 28 = (0, 6) := by decide +kernel
theorem sa_30 : pv_SH 30 = (2, 6) := by decide +kernel
theorem sa_31 : pv_SH 31 = (0, 3) := by decide +kernel
theorem sa_32 : pv_SH 32 = (0, 3) := by decide +kernel
theorem sa_33 : pv_SH 33 = (0, 3) := by decide +kernel
theorem sa_34 : pv_SH 34 = (0, 3) := by decide +kernel
theorem sa_35 : pv_SH 35 = (0, 3) := by decide +kernel
theorem sa_36 : pv_SH 36 = (0, 3) := by decide +kernel
theorem sa_37 : pv_SH 37 = (0, 8) := by decide +kernel
theorem sa_38 : pv_SH 38 = (0, 8) := by decide +kernel
theorem sa_40 : pv_SH 40 = (2, 10) := by decide +kernel
theorem sa_41 : pv_SH 41 = (0, 12) := by decide +kernel
theorem sa_42 : pv_SH 42 = (0, 12) := by decide +kernel
theorem sa_43 : pv_SH 43 = (0, 12) := by decide +kernel
theorem sa_44 : pv_SH 44 = (0, 12) := by decide +kernel
theorem sa_45 : pv_SH 45 = (0, 12) := by decide +kernel
theorem sa_46 : pv_SH 46 = (0, 12) := by decide +kernel
theorem sa_47 : pv_SH 47 = (0, 12) := by decide +kernel
theorem sa_48 : pv_SH 48 = (0, 12) := by decide +kernel
theorem sa_49 : pv_SH 49 = (0, 12) := by decide +kernel
theorem sa_50 : pv_SH 50 = (0, 12) := by decide +kernel
theorem sa_51 : pv_SH 51 = (0, 8) := by decide +kernel
theorem sa_52 : pv_SH 52 = (0, 8) := by decide +kernel
theorem sa_54 : pv_SH 54 = (2, 10) := by decide +kernel
theorem sa_55 : pv_SH 55 = (0, 3) := by decide +kernel
theorem sa_56 : pv_SH 56 = (0, 3) := by decide +kernel
theorem sa_57 : pv_SH 57 = (0, 3) := by decide +kernel
theorem sa_58 : pv_SH 58 = (0, 3) := by decide +kernel
theorem sa_59 : pv_SH 59 = (0, 3) := by decide +kernel
theorem sa_60 : pv_SH 60 = (0, 3) := by decide +kernel
theorem sa_61 : pv_SH 61 = (0, 3) := by decide +kernel
theorem sa_62 : pv_SH 62 = (0, 3) := by decide +kernel
theorem sa_63 : pv_SH 63 = (0, 3) := by decide +kernel
theorem sa_64 : pv_SH 64 = (0, 3) := by decide +kernel
theorem sa_65 : pv_SH 65 = (2, 10) := by decide +kernel
theorem sa_66 : pv_SH 66 = (0, 3) := by decide +kernel
theorem sa_67 : pv_SH 67 = (0, 3) := by decide +kernel
theorem sa_68 : pv_SH 68 = (0, 3) := by decide +kernel
theorem sa_69 : pv_SH 69 = (0, 3) := by decide +kernel
theorem sa_70 : pv_SH 70 = (0, 3) := by decide +kernel
theorem sa_71 : pv_SH 71 = (0, 3) := by decide +kernel
theorem sa_72 : pv_SH 72 = (0, 3) := by decide +kernel
theorem sa_73 : pv_SH 73 = (0, 3) := by decide +kernel
theorem sa_74 : pv_SH 74 = (0, 3) := by decide +kernel
theorem sa_75 : pv_SH 75 = (0, 3) := by decide +kernel
theorem sa_76 : pv_SH 76 = (2, 10) := by decide +kernel
theorem sa_77 : pv_SH 77 = (0, 12) := by decide +kernel
theorem sa_78 : pv_SH 78 = (0, 12) := by decide +kernel
theorem sa_79 : pv_SH 79 = (0, 12) := by decide +kernel
theorem sa_80 : pv_SH 80 = (0, 12) := by decide +kernel
theorem sa_81 : pv_SH 81 = (0, 12) := by decide +kernel
theorem sa_82 : pv_SH 82 = (0, 12) := by decide +kernel
theorem sa_83 : pv_SH 83 = (0, 12) := by decide +kernel
theorem sa_84 : pv_SH 84 = (0, 12) := by decide +kernel
theorem sa_85 : pv_SH 85 = (0, 12) := by decide +kernel
theorem sa_86 : pv_SH 86 = (0, 12) := by decide +kernel
theorem sa_87 : pv_SH 87 = (0, 4) := by decide +kernel
theorem sa_89 : pv_SH 89 = (2, 10) := by decide +kernel
theorem sa_90 : pv_SH 90 = (0, 3) := by decide +kernel
theorem sa_91 : pv_SH 91 = (0, 3) := by decide +kernel
theorem sa_92 : pv_SH 92 = (0, 3) := by decide +kernel
theorem sa_93 : pv_SH 93 = (0, 3) := by decide +kernel
theorem sa_94 : pv_SH 94 = (0, 3) := by decide +kernel
theorem sa_95 : pv_SH 95 = (0, 3) := by decide +kernel
theorem sa_96 : pv_SH 96 = (0, 3) := by decide +kernel
theorem sa_97 : pv_SH 97 = (0, 3) := by decide +kernel
theorem sa_98 : pv_SH 98 = (0, 3) := by decide +kernel
theorem sa_99 : pv_SH 99 = (0, 3) := by decide +kernel
theorem sa_100 : pv_SH 100 = (2, 10) := by decide +kernel
theorem sa_101 : pv_SH 101 = (0, 3) := by decide +kernel
theorem sa_102 : pv_SH 102 = (0, 3) := by decide +kernel
theorem sa_103 : pv_SH 103 = (0, 3) := by decide +kernel
theorem sa_104 : pv_SH 104 = (0, 3) := by decide +kernel
theorem sa_105 : pv_SH 105 = (0, 3) := by decide +kernel
theorem sa_106 : pv_SH 106 = (0, 3) := by decide +kernel
theorem sa_107 : pv_SH 107 = (0, 3) := by decide +kernel
theorem sa_108 : pv_SH 108 = (0, 3) := by decide +kernel
theorem sa_109 : pv_SH 109 = (0, 3) := by decide +kernel
theorem sa_110 : pv_SH 110 = (0, 3) := by decide +kernel
theorem sa_111 : pv_SH 111 = (2, 10) := by decide +kernel
theorem sa_112 : pv_SH 112 = (0, 12) := by decide +kernel
theorem sa_113 : pv_SH 113 = (0, 12) := by decide +kernel
theorem sa_114 : pv_SH 114 = (0, 12) := by decide +kernel
theorem sa_115 : pv_SH 115 = (0, 12) := by decide +kernel
theorem sa_116 : pv_SH 116 = (0, 12) := by decide +kernel
theorem sa_117 : pv_SH 117 = (0, 12) := by decide +kernel
theorem sa_118 : pv_SH 118 = (0, 12) := by decide +kernel
theorem sa_119 : pv_SH 119 = (0, 12) := by decide +kernel
theorem sa_120 : pv_SH 120 = (0, 12) := by decide +kernel
theorem sa_121 : pv_SH 121 = (0, 12) := by decide +kernel
theorem sa_122 : pv_SH 122 = (0, 4) := by decide +kernel
theorem sa_124 : pv_SH 124 = (2, 10) := by decide +kernel
theorem sa_125 : pv_SH 125 = (0, 3) := by decide +kernel
theorem sa_126 : pv_SH 126 = (0, 3) := by decide +kernel
theorem sa_127 : pv_SH 127 = (0, 3) := by decide +kernel
theorem sa_128 : pv_SH 128 = (0, 3) := by decide +kernel
theorem sa_129 : pv_SH 129 = (0, 3) := by decide +kernel
theorem sa_130 : pv_SH 130 = (0, 3) := by decide +kernel
theorem sa_131 : pv_SH 131 = (0, 3) := by decide +kernel
theorem sa_132 : pv_SH 132 = (0, 3) := by decide +kernel
theorem sa_133 : pv_SH 133 = (0, 3) := by decide +kernel
theorem sa_134 : pv_SH 134 = (0, 3) := by decide +kernel
theorem sa_135 : pv_SH 135 = (2, 10) := by decide +kernel
theorem sa_136 : pv_SH 136 = (0, 3) := by decide +kernel
theorem sa_137 : pv_SH 137 = (0, 3) := by decide +kernel
theorem sa_138 : pv_SH 138 = (0, 3) := by decide +kernel
theorem sa_139 : pv_SH 139 = (0, 3) := by decide +kernel
theorem sa_140 : pv_SH 140 = (0, 3) := by decide +kernel
theorem sa_141 : pv_SH 141 = (0, 3) := by decide +kernel
theorem sa_142 : pv_SH 142 = (0, 3) := by decide +kernel
theorem sa_143 : pv_SH 143 = (0, 3) := by decide +kernel
theorem sa_144 : pv_SH 144 = (0, 3) := by decide +kernel
theorem sa_145 : pv_SH 145 = (0, 3) := by decide +kernel
theorem sa_146 : pv_SH 146 = (2, 10) := by decide +kernel
theorem sa_147 : pv_SH 147 = (0, 12) := by decide +kernel
theorem sa_148 : pv_SH 148 = (0, 12) := by decide +kernel
theorem sa_149 : pv_SH 149 = (0, 12) := by decide +kernel
theorem sa_150 : pv_SH 150 = (0, 12) := by decide +kernel
theorem sa_151 : pv_SH 151 = (0, 12) := by decide +kernel
theorem sa_152 : pv_SH 152 = (0, 12) := by decide +kernel
theorem sa_153 : pv_SH 153 = (0, 12) := by decide +kernel
theorem sa_154 : pv_SH 154 = (0, 12) := by decide +kernel
theorem sa_155 : pv_SH 155 = (0, 12) := by decide +kernel
theorem sa_156 : pv_SH 156 = (0, 12) := by decide +kernel
theorem sa_157 : pv_SH 157 = (0, 4) := by decide +kernel
theorem sa_159 : pv_SH 159 = (0, 4) := by decide +kernel
theorem sa_160 : pv_SH 160 = (0, 4) := by decide +kernel
theorem sa_161 : pv_SH 161 = (0, 4) := by decide +kernel
theorem sa_162 : pv_SH 162 = (2, 6) := by decide +kernel
theorem sa_163 : pv_SH 163 = (0, 4) := by decide +kernel
theorem sa_164 : pv_SH 164 = (0, 4) := by decide +kernel
theorem sa_165 : pv_SH 165 = (0, 4) := by decide +kernel
theorem sa_166 : pv_SH 166 = (0, 4) := by decide +kernel
theorem sa_167 : pv_SH 167 = (0, 4) := by decide +kernel
theorem sa_168 : pv_SH 168 = (0, 4) := by decide +kernel
theorem sa_169 : pv_SH 169 = (0, 6) := by decide +kernel
theorem sa_170 : pv_SH 170 = (0, 108) := by decide +kernel
theorem sa_171 : pv_SH 171 = (0, 4) := by decide +kernel
theorem sa_172 : pv_SH 172 = (0, 4) := by decide +kernel
theorem sa_173 : pv_SH 173 = (0, 4) := by decide +kernel
theorem sa_174 : pv_SH 174 = (2, 4) := by decide +kernel
theorem sa_175 : pv_SH 175 = (0, 4) := by decide +kernel
theorem sa_176 : pv_SH 176 = (0, 4) := by decide +kernel
theorem sa_177 : pv_SH 177 = (0, 4) := by decide +kernel
theorem sa_178 : pv_SH 178 = (0, 4) := by decide +kernel
theorem sa_180 : pv_SH 180 = (0, 6) := by decide +kernel
theorem sa_181 : pv_SH 181 = (1, 6) := by decide +kernel
theorem sa_182 : pv_SH 182 = (1, 6) := by decide +kernel
theorem sa_184 : pv_SH 184 = (0, 4) := by decide +kernel
theorem sa_185 : pv_SH 185 = (0, 4) := by decide +kernel
theorem sa_186 : pv_SH 186 = (0, 16) := by decide +kernel
theorem sa_187 : pv_SH 187 = (0, 16) := by decide +kernel
theorem sa_189 : pv_SH 189 = (0, 4) := by decide +kernel
theorem sa_190 : pv_SH 190 = (0, 4) := by decide +kernel
theorem sa_191 : pv_SH 191 = (2, 4) := by decide +kernel
theorem sa_192 : pv_SH 192 = (0, 60) := by decide +kernel
theorem sa_193 : pv_SH 193 = (0, 60) := by decide +kernel
theorem sa_194 : pv_SH 194 = (0, 60) := by decide +kernel
theorem sa_195 : pv_SH 195 = (0, 60) := by decide +kernel
theorem sa_197 : pv_SH 197 = (0, 4) := by decide +kernel
theorem sa_198 : pv_SH 198 = (0, 4) := by decide +kernel
theorem sa_199 : pv_SH 199 = (0, 240) := by decide +kernel
theorem sa_200 : pv_SH 200 = (0, 60) := by decide +kernel
theorem sa_201 : pv_SH 201 = (0, 120) := by decide +kernel
theorem sa_202 : pv_SH 202 = (0, 3) := by decide +kernel
theorem sa_203 : pv_SH 203 = (0, 3) := by decide +kernel
theorem sa_204 : pv_SH 204 = (0, 72) := by decide +kernel
theorem sa_205 : pv_SH 205 = (0, 2) := by decide +kernel
theorem sa_206 : pv_SH 206 = (0, 8) := by decide +kernel
theorem sa_207 : pv_SH 207 = (0, 40) := by decide +kernel
theorem sa_208 : pv_SH 208 = (0, 30) := by decide +kernel
theorem sa_209 : pv_SH 209 = (0, 120) := by decide +kernel
theorem sa_210 : pv_SH 210 = (0, 30) := by decide +kernel
theorem sa_211 : pv_SH 211 = (0, 48) := by decide +kernel
theorem sa_212 : pv_SH 212 = (0, 8) := by decide +kernel
theorem sa_213 : pv_SH 213 = (0, 4) := by decide +kernel
theorem sa_214 : pv_SH 214 = (0, 8) := by decide +kernel
theorem sa_215 : pv_SH 215 = (0, 2) := by decide +kernel
theorem sa_216 : pv_SH 216 = (0, 6) := by decide +kernel
theorem sa_217 : pv_SH 217 = (1, 6) := by decide +kernel
theorem sa_218 : pv_SH 218 = (1, 6) := by decide +kernel
theorem sa_219 : pv_SH 219 = (0, 32) := by decide +kernel
theorem sa_220 : pv_SH 220 = (0, 4) := by decide +kernel
theorem sa_221 : pv_SH 221 = (0, 18) := by decide +kernel
theorem pv_nm_eq {α ρ : Type} (v : α) (f : α → Option ρ) : pv_nm v f = f v := rfl
theorem pv_jn_eq {K ρ : Type} (k : K) (f : K → Option ρ) : pv_jn k f = f k := rfl
theorem pv_cap_some {α ρ : Type} (v : α) (f : α → Option ρ) : pv_cap (some v) f = f v := rfl
theorem pv_cal_some {α ρ : Type} (v : α) (M : pv_M) (f : α → pv_M → Option ρ) : pv_cal (some (v, M)) f = f v M := rfl
theorem pv_ck_true {ρ : Type} (x : Option ρ) : pv_ck true x = x := rfl
theorem pv_SH_bd {k t n : Nat} (h : pv_SH k = (t, n)) (ht : t < 99) : k < 222 ∧ n ≤ 240 := by
  by_cases hk : k < 222
  · refine ⟨hk, ?_⟩
    have := (show ∀ k, k < 222 → (pv_SH k).2 ≤ 240 by decide +kernel) k hk
    rw [h] at this
    exact this
  · exfalso
    unfold pv_SH at h
    rw [List.getD_eq_getElem?_getD, List.getElem?_eq_none (by show 222 ≤ k; omega)] at h
    have : (99 : Nat) = t := congrArg Prod.fst h
    omega
theorem pv_okb_n {k n i t : Nat} (hk : pv_SH k = (t, n)) (ht : t < 99) (hi : i < n) : pv_okb pv_T t k (nI i) = true := by
  obtain ⟨h1, h2⟩ := pv_SH_bd hk ht
  have hlt : i < 2 ^ 31 := by omega
  simp only [pv_okb, hk, Bool.and_eq_true, decide_eq_true_eq]
  exact ⟨h1, trivial, nI_pos hlt, by rw [nI_clamp hlt]; exact hi⟩
theorem ldI_n {ρ : Type} {k n i : Nat} (hk : pv_SH k = (0, n)) (hi : i < n) (M : pv_M) (f : Int32 → Option ρ) : pv_ldI pv_T k (nI i) M f = f (M.1 k i) := by
  have h2 := (pv_SH_bd hk (by decide)).2
  unfold pv_ldI
  rw [if_pos (pv_okb_n hk (by decide) hi), nI_clamp (by omega)]
theorem ldL_n {ρ : Type} {k n i : Nat} (hk : pv_SH k = (1, n)) (hi : i < n) (M : pv_M) (f : Int64 → Option ρ) : pv_ldL pv_T k (nI i) M f = f (M.2 k i) := by
  have h2 := (pv_SH_bd hk (by decide)).2
  unfold pv_ldL
  rw [if_pos (pv_okb_n hk (by decide) hi), nI_clamp (by omega)]
theorem ldR_n {ρ : Type} {k n i : Nat} (hk : pv_SH k = (2, n)) (hi : i < n) (f : Nat → Option ρ) : pv_ldR pv_T k (nI i) f = f (k + 1 + i) := by
  have h2 := (pv_SH_bd hk (by decide)).2
  unfold pv_ldR
  rw [if_pos (pv_okb_n hk (by decide) hi), nI_clamp (by omega)]
theorem stI_n {ρ : Type} {k n i : Nat} (hk : pv_SH k = (0, n)) (hi : i < n) (v : Int32) (M : pv_M) (f : pv_M → Option ρ) : pv_stI pv_T k (nI i) v M f = f (pv_u M.1 k i v, M.2) := by
  have h2 := (pv_SH_bd hk (by decide)).2
  unfold pv_stI
  rw [if_pos (pv_okb_n hk (by decide) hi), nI_clamp (by omega)]
theorem stL_n {ρ : Type} {k n i : Nat} (hk : pv_SH k = (1, n)) (hi : i < n) (v : Int64) (M : pv_M) (f : pv_M → Option ρ) : pv_stL pv_T k (nI i) v M f = f (M.1, pv_u M.2 k i v) := by
  have h2 := (pv_SH_bd hk (by decide)).2
  unfold pv_stL
  rw [if_pos (pv_okb_n hk (by decide) hi), nI_clamp (by omega)]
theorem len_n {ρ : Type} {k n : Nat} (hk : pv_SH k = (0, n)) (f : Int32 → Option ρ) : pv_len pv_T k f = f (nI n) := by
  have h1 := (pv_SH_bd hk (by decide)).1
  unfold pv_len
  rw [if_pos ⟨h1, by rw [hk]; exact (by decide : (0 : Nat) < 3)⟩, hk]
  rfl
theorem uu_same {α : Type} (f : Nat → Nat → α) (k j : Nat) (v : α) : pv_u f k j v k j = v := by simp [pv_u]
theorem uu_other {α : Type} (f : Nat → Nat → α) {k j a b : Nat} (v : α) (h : a ≠ k ∨ b ≠ j) : pv_u f k j v a b = f a b := by
  unfold pv_u
  rw [if_neg (fun q => h.elim (fun z => z q.1) (fun z => z q.2))]
theorem uu_k {α : Type} (f : Nat → Nat → α) {k j a b : Nat} (v : α) (h : a ≠ k) : pv_u f k j v a b = f a b := uu_other f v (Or.inl h)
theorem uu_j {α : Type} (f : Nat → Nat → α) {k j b : Nat} (v : α) (h : b ≠ j) : pv_u f k j v k b = f k b := uu_other f v (Or.inr h)
/-- a number between 0 and n -/
theorem rng_iff (a : Int32) (n : Nat) (hn : n < 2 ^ 31) : (0 ≤ a ∧ a ≤ nI n) ↔ ∃ i : Nat, i ≤ n ∧ a = nI i := by
  constructor
  · rintro ⟨h1, h2⟩
    obtain ⟨j, hj, e⟩ := nI_of (x := a) (fun q => by
      rw [fa_lt] at q
      rw [fa_le] at h1
      omega)
    refine ⟨j, ?_, e⟩
    rw [e] at h2
    exact (nI_leI hj hn).mp h2
  · rintro ⟨i, hi, rfl⟩
    exact ⟨nI_pos' (by omega), nI_le hi hn⟩
theorem within_n (a lo hi : Int32) (M : pv_M) : f_X8_isWithin a lo hi M = some (if lo ≤ a ∧ a ≤ hi then 1 else 0) := by
  unfold f_X8_isWithin
  by_cases h1 : a < lo
  · rw [if_pos h1, if_neg (fun q => by rw [fa_lt] at h1; rw [fa_le] at q; omega)]
  · rw [if_neg h1]
    by_cases h2 : hi < a
    · rw [if_pos h2, if_neg (fun q => by rw [fa_lt] at h2; have := q.2; rw [fa_le] at this; omega)]
    · rw [if_neg h2, if_pos ⟨fa_of_nlt h1, fa_of_nlt h2⟩]
theorem in_n (a lo hi : Int32) (M : pv_M) : f_X9_in a.toInt64 lo.toInt64 hi.toInt64 M = some (if lo ≤ a ∧ a ≤ hi then 1 else 0) := by
  unfold f_X9_in
  simp only [lg_cmp_lt, lg_cmp_gt, fa_wide_lt]
  exact within_n a lo hi M
theorem in_l (a : Int32) (lo hi : Int32) {l h : Int64} (hl : l = lo.toInt64) (hh : h = hi.toInt64) (M : pv_M) : f_X9_in a.toInt64 l h M = some (if lo ≤ a ∧ a ≤ hi then 1 else 0) := by
  rw [hl, hh]
  exact in_n a lo hi M
theorem bool_ck {c : Prop} {x : Int32} {inst : Decidable c} (h : x = @ite Int32 c inst 1 0) {ρ : Type} (y : Option ρ) : (if x = 0 ∨ x = 1 then y else none) = y := by
  rw [if_pos]
  rw [h]
  by_cases hc : c
  · rw [if_pos hc]; exact Or.inr rfl
  · rw [if_neg hc]; exact Or.inl rfl
theorem m_isText (a : Int32) (M : pv_M) : f_X9_isText a M = some (if 0 ≤ a ∧ a ≤ nI 2 then 1 else 0) := by
  unfold f_X9_isText
  rw [in_l a 0 (nI 2) (by decide) (by decide), pv_cap_some]
  exact bool_ck rfl _
theorem m_isSheet (a : Int32) (M : pv_M) : f_X9_isSheet a M = some (if 0 ≤ a ∧ a ≤ nI 3 then 1 else 0) := by
  unfold f_X9_isSheet
  rw [in_l a 0 (nI 3) (by decide) (by decide), pv_cap_some]
  exact bool_ck rfl _
theorem m_isTwo (a : Int32) (M : pv_M) : f_X9_isTwo a M = some (if 0 ≤ a ∧ a ≤ nI 1 then 1 else 0) := by
  unfold f_X9_isTwo
  rw [in_l a 0 (nI 1) (by decide) (by decide), pv_cap_some]
  exact bool_ck rfl _
theorem m_isYear (a : Int32) (M : pv_M) : f_X9_isYear a M = some (if 0 ≤ a ∧ a ≤ nI 9 then 1 else 0) := by
  unfold f_X9_isYear
  rw [in_l a 0 (nI 9) (by decide) (by decide), pv_cap_some]
  exact bool_ck rfl _
theorem m_isUnit (a : Int32) (M : pv_M) : f_X9_isUnit a M = some (if 0 ≤ a ∧ a ≤ nI 2 then 1 else 0) := by
  unfold f_X9_isUnit
  rw [in_l a 0 (nI 2) (by decide) (by decide), pv_cap_some]
  exact bool_ck rfl _
theorem m_isAnyVoter (a : Int32) (M : pv_M) : f_X9_isAnyVoter a M = some (if 0 ≤ a ∧ a ≤ nI 7 then 1 else 0) := by
  unfold f_X9_isAnyVoter
  rw [in_l a 0 (nI 7) (by decide) (by decide), pv_cap_some]
  exact bool_ck rfl _
theorem x_isText (a : Int32) (M : pv_M) : f_X8_isText a M = some (if 0 ≤ a ∧ a ≤ nI 2 then 1 else 0) := by
  unfold f_X8_isText
  rw [show f_X8_isWithin a 0 2 M = _ from within_n a 0 (nI 2) M, pv_cap_some]
  exact bool_ck rfl _
theorem x_isYear (a : Int32) (M : pv_M) : f_X8_isYear a M = some (if 0 ≤ a ∧ a ≤ nI 9 then 1 else 0) := by
  unfold f_X8_isYear
  rw [show f_X8_isWithin a 0 9 M = _ from within_n a 0 (nI 9) M, pv_cap_some]
  exact bool_ck rfl _
theorem x_isUnit (a : Int32) (M : pv_M) : f_X8_isUnit a M = some (if 0 ≤ a ∧ a ≤ nI 2 then 1 else 0) := by
  unfold f_X8_isUnit
  rw [show f_X8_isWithin a 0 2 M = _ from within_n a 0 (nI 2) M, pv_cap_some]
  exact bool_ck rfl _
theorem x_isPerson (a : Int32) (M : pv_M) : f_X8_isPerson a M = some (if 0 ≤ a ∧ a ≤ nI 7 then 1 else 0) := by
  unfold f_X8_isPerson
  rw [show f_X8_isWithin a 0 7 M = _ from within_n a 0 (nI 7) M, pv_cap_some]
  exact bool_ck rfl _
theorem x_isSheet (a : Int32) (M : pv_M) : f_X4_isSheet a M = some (if 0 ≤ a ∧ a ≤ nI 3 then 1 else 0) := by
  unfold f_X4_isSheet
  rw [show f_X8_isWithin a 0 3 M = _ from within_n a 0 (nI 3) M, pv_cap_some]
  exact bool_ck rfl _
theorem x_isForm (a : Int32) (M : pv_M) : f_X4_isForm a M = some (if 0 ≤ a ∧ a ≤ nI 2 then 1 else 0) := by
  unfold f_X4_isForm
  rw [show f_X8_isWithin a 0 2 M = _ from within_n a 0 (nI 2) M, pv_cap_some]
  exact bool_ck rfl _
theorem x_isTown (a : Int32) (M : pv_M) : f_X6_isTown a M = some (if 0 ≤ a ∧ a ≤ nI 3 then 1 else 0) := by
  unfold f_X6_isTown
  rw [show f_X8_isWithin a 0 3 M = _ from within_n a 0 (nI 3) M, pv_cap_some]
  exact bool_ck rfl _
theorem x_isKind (a : Int32) (M : pv_M) : f_X7_isKind a M = some (if 0 ≤ a ∧ a ≤ nI 5 then 1 else 0) := by
  unfold f_X7_isKind
  rw [show f_X8_isWithin a 0 5 M = _ from within_n a 0 (nI 5) M, pv_cap_some]
  exact bool_ck rfl _
/-- loops with a counter: what holds at each turn, and the end -/
theorem for2 {ρ S : Type} {body : (Int32 → S → Option ρ) → Int32 → S → Option ρ} (n : Nat) (I : Nat → S → Prop) (P : Option ρ → Prop) (hx : ∀ rec s, I n s → P (body rec (nI n) s)) (hs : ∀ rec i s, i < n → I i s → (∀ s', I (i + 1) s' → P (rec (nI (i + 1)) s')) → P (body rec (nI i) s)) : ∀ (F i : Nat) (s : S), i ≤ n → n - i < F → I i s → P (pv_lp2 body F (nI i) s)
  | 0, _, _, _, h, _ => absurd h (Nat.not_lt_zero _)
  | F + 1, i, s, hi, hF, hI => by
    show P (body (pv_lp2 body F) (nI i) s)
    rcases Nat.lt_or_ge i n with h | h
    · exact hs _ i s h hI (fun s' hI' => for2 n I P hx hs F (i + 1) s' h (by omega) hI')
    · have e : i = n := by omega
      subst e
      exact hx _ s hI
theorem for1 {ρ : Type} {body : (Int32 → Option ρ) → Int32 → Option ρ} (n : Nat) (I : Nat → Prop) (P : Option ρ → Prop) (hx : ∀ rec, I n → P (body rec (nI n))) (hs : ∀ rec i, i < n → I i → (I (i + 1) → P (rec (nI (i + 1)))) → P (body rec (nI i))) : ∀ (F i : Nat), i ≤ n → n - i < F → I i → P (pv_lp1 body F (nI i))
  | 0, _, _, h, _ => absurd h (Nat.not_lt_zero _)
  | F + 1, i, hi, hF, hI => by
    show P (body (pv_lp1 body F) (nI i))
    rcases Nat.lt_or_ge i n with h | h
    · exact hs _ i h hI (fun hI' => for1 n I P hx hs F (i + 1) h (by omega) hI')
    · have e : i = n := by omega
      subst e
      exact hx _ hI
