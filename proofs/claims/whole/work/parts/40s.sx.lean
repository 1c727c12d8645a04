theorem ld_2 {ρ : Type} {i : Nat} (hi : i < 15) (M : pv_M) (f : Int32 → Option ρ) : pv_ldI pv_T 2 (nI i) M f = f (M.1 2 i) := ldI_n sa_2 hi M f
theorem st_2 {ρ : Type} {i : Nat} (hi : i < 15) (v : Int32) (M : pv_M) (f : pv_M → Option ρ) : pv_stI pv_T 2 (nI i) v M f = f (pv_u M.1 2 i v, M.2) := stI_n sa_2 hi v M f
theorem ld_4 {ρ : Type} {i : Nat} (hi : i < 31) (M : pv_M) (f : Int32 → Option ρ) : pv_ldI pv_T 4 (nI i) M f = f (M.1 4 i) := ldI_n sa_4 hi M f
theorem st_4 {ρ : Type} {i : Nat} (hi : i < 31) (v : Int32) (M : pv_M) (f : pv_M → Option ρ) : pv_stI pv_T 4 (nI i) v M f = f (pv_u M.1 4 i v, M.2) := stI_n sa_4 hi v M f
theorem ld_6 {ρ : Type} {i : Nat} (hi : i < 31) (M : pv_M) (f : Int32 → Option ρ) : pv_ldI pv_T 6 (nI i) M f = f (M.1 6 i) := ldI_n sa_6 hi M f
theorem st_6 {ρ : Type} {i : Nat} (hi : i < 31) (v : Int32) (M : pv_M) (f : pv_M → Option ρ) : pv_stI pv_T 6 (nI i) v M f = f (pv_u M.1 6 i v, M.2) := stI_n sa_6 hi v M f
theorem lr_8 {ρ : Type} {i : Nat} (hi : i < 10) (f : Nat → Option ρ) : pv_ldR pv_T 8 (nI i) f = f (9 + i) := ldR_n sa_8 hi f
theorem ld_9 {ρ : Type} {i : Nat} (hi : i < 4) (M : pv_M) (f : Int32 → Option ρ) : pv_ldI pv_T 9 (nI i) M f = f (M.1 9 i) := ldI_n sa_9 hi M f
theorem st_9 {ρ : Type} {i : Nat} (hi : i < 4) (v : Int32) (M : pv_M) (f : pv_M → Option ρ) : pv_stI pv_T 9 (nI i) v M f = f (pv_u M.1 9 i v, M.2) := stI_n sa_9 hi v M f
theorem ld_10 {ρ : Type} {i : Nat} (hi : i < 4) (M : pv_M) (f : Int32 → Option ρ) : pv_ldI pv_T 10 (nI i) M f = f (M.1 10 i) := ldI_n sa_10 hi M f
theorem st_10 {ρ : Type} {i : Nat} (hi : i < 4) (v : Int32) (M : pv_M) (f : pv_M → Option ρ) : pv_stI pv_T 10 (nI i) v M f = f (pv_u M.1 10 i v, M.2) := stI_n sa_10 hi v M f
theorem ld_11 {ρ : Type} {i : Nat} (hi : i < 4) (M : pv_M) (f : Int32 → Option ρ) : pv_ldI pv_T 11 (nI i) M f = f (M.1 11 i) := ldI_n sa_11 hi M f
theorem st_11 {ρ : Type} {i : Nat} (hi : i < 4) (v : Int32) (M : pv_M) (f : pv_M → Option ρ) : pv_stI pv_T 11 (nI i) v M f = f (pv_u M.1 11 i v, M.2) := stI_n sa_11 hi v M f
theorem ld_12 {ρ : Type} {i : Nat} (hi : i < 4) (M : pv_M) (f : Int32 → Option ρ) : pv_ldI pv_T 12 (nI i) M f = f (M.1 12 i) := ldI_n sa_12 hi M f
theorem st_12 {ρ : Type} {i : Nat} (hi : i < 4) (v : Int32) (M : pv_M) (f : pv_M → Option ρ) : pv_stI pv_T 12 (nI i) v M f = f (pv_u M.1 12 i v, M.2) := stI_n sa_12 hi v M f
theorem ld_13 {ρ : Type} {i : Nat} (hi : i < 4) (M : pv_M) (f : Int32 → Option ρ) : pv_ldI pv_T 13 (nI i) M f = f (M.1 13 i) := ldI_n sa_13 hi M f
theorem st_13 {ρ : Type} {i : Nat} (hi : i < 4) (v : Int32) (M : pv_M) (f : pv_M → Option ρ) : pv_stI pv_T 13 (nI i) v M f = f (pv_u M.1 13 i v, M.2) := stI_n sa_13 hi v M f
theorem ld_14 {ρ : Type} {i : Nat} (hi : i < 4) (M : pv_M) (f : Int32 → Option ρ) : pv_ldI pv_T 14 (nI i) M f = f (M.1 14 i) := ldI_n sa_14 hi M f
theorem st_14 {ρ : Type} {i : Nat} (hi : i < 4) (v : Int32) (M : pv_M) (f : pv_M → Option ρ) : pv_stI pv_T 14 (nI i) v M f = f (pv_u M.1 14 i v, M.2) := stI_n sa_14 hi v M f
theorem ld_15 {ρ : Type} {i : Nat} (hi : i < 4) (M : pv_M) (f : Int32 → Option ρ) : pv_ldI pv_T 15 (nI i) M f = f (M.1 15 i) := ldI_n sa_15 hi M f
theorem st_15 {ρ : Type} {i : Nat} (hi : i < 4) (v : Int32) (M : pv_M) (f : pv_M → Option ρ) : pv_stI pv_T 15 (nI i) v M f = f (pv_u M.1 15 i v, M.2) := stI_n sa_15 hi v M f
theorem ld_16 {ρ : Type} {i : Nat} (hi : i < 4) (M : pv_M) (f : Int32 → Option ρ) : pv_ldI pv_T 16 (nI i) M f = f (M.1 16 i) := ldI_n sa_16 hi M f
theorem st_16 {ρ : Type} {i : Nat} (hi : i < 4) (v : Int32) (M : pv_M) (f : pv_M → Option ρ) : pv_stI pv_T 16 (nI i) v M f = f (pv_u M.1 16 i v, M.2) := stI_n sa_16 hi v M f
theorem ld_17 {ρ : Type} {i : Nat} (hi : i < 4) (M : pv_M) (f : Int32 → Option ρ) : pv_ldI pv_T 17 (nI i) M f = f (M.1 17 i) := ldI_n sa_17 hi M f
theorem st_17 {ρ : Type} {i : Nat} (hi : i < 4) (v : Int32) (M : pv_M) (f : pv_M → Option ρ) : pv_stI pv_T 17 (nI i) v M f = f (pv_u M.1 17 i v, M.2) := stI_n sa_17 hi v M f
theorem ld_18 {ρ : Type} {i : Nat} (hi : i < 4) (M : pv_M) (f : Int32 → Option ρ) : pv_ldI pv_T 18 (nI i) M f = f (M.1 18 i) := ldI_n sa_18 hi M f
theorem st_18 {ρ : Type} {i : Nat} (hi : i < 4) (v : Int32) (M : pv_M) (f : pv_M → Option ρ) : pv_stI pv_T 18 (nI i) v M f = f (pv_u M.1 18 i v, M.2) := stI_n sa_18 hi v M f
theorem lr_20 {ρ : Type} {i : Nat} (hi : i < 8) (f : Nat → Option ρ) : pv_ldR pv_T 20 (nI i) f = f (21 + i) := ldR_n sa_20 hi f
theorem ld_21 {ρ : Type} {i : Nat} (hi : i < 6) (M : pv_M) (f : Int32 → Option ρ) : pv_ldI pv_T 21 (nI i) M f = f (M.1 21 i) := ldI_n sa_21 hi M f
theorem st_21 {ρ : Type} {i : Nat} (hi : i < 6) (v : Int32) (M : pv_M) (f : pv_M → Option ρ) : pv_stI pv_T 21 (nI i) v M f = f (pv_u M.1 21 i v, M.2) := stI_n sa_21 hi v M f
theorem ld_22 {ρ : Type} {i : Nat} (hi : i < 6) (M : pv_M) (f : Int32 → Option ρ) : pv_ldI pv_T 22 (nI i) M f = f (M.1 22 i) := ldI_n sa_22 hi M f
theorem st_22 {ρ : Type} {i : Nat} (hi : i < 6) (v : Int32) (M : pv_M) (f : pv_M → Option ρ) : pv_stI pv_T 22 (nI i) v M f = f (pv_u M.1 22 i v, M.2) := stI_n sa_22 hi v M f
theorem ld_23 {ρ : Type} {i : Nat} (hi : i < 6) (M : pv_M) (f : Int32 → Option ρ) : pv_ldI pv_T 23 (nI i) M f = f (M.1 23 i) := ldI_n sa_23 hi M f
theorem st_23 {ρ : Type} {i : Nat} (hi : i < 6) (v : Int32) (M : pv_M) (f : pv_M → Option ρ) : pv_stI pv_T 23 (nI i) v M f = f (pv_u M.1 23 i v, M.2) := stI_n sa_23 hi v M f
theorem ld_24 {ρ : Type} {i : Nat} (hi : i < 6) (M : pv_M) (f : Int32 → Option ρ) : pv_ldI pv_T 24 (nI i) M f = f (M.1 24 i) := ldI_n sa_24 hi M f
theorem st_24 {ρ : Type} {i : Nat} (hi : i < 6) (v : Int32) (M : pv_M) (f : pv_M → Option ρ) : pv_stI pv_T 24 (nI i) v M f = f (pv_u M.1 24 i v, M.2) := stI_n sa_24 hi v M f
theorem ld_25 {ρ : Type} {i : Nat} (hi : i < 6) (M : pv_M) (f : Int32 → Option ρ) : pv_ldI pv_T 25 (nI i) M f = f (M.1 25 i) := ldI_n sa_25 hi M f
theorem st_25 {ρ : Type} {i : Nat} (hi : i < 6) (v : Int32) (M : pv_M) (f : pv_M → Option ρ) : pv_stI pv_T 25 (nI i) v M f = f (pv_u M.1 25 i v, M.2) := stI_n sa_25 hi v M f
theorem ld_26 {ρ : Type} {i : Nat} (hi : i < 6) (M : pv_M) (f : Int32 → Option ρ) : pv_ldI pv_T 26 (nI i) M f = f (M.1 26 i) := ldI_n sa_26 hi M f
theorem st_26 {ρ : Type} {i : Nat} (hi : i < 6) (v : Int32) (M : pv_M) (f : pv_M → Option ρ) : pv_stI pv_T 26 (nI i) v M f = f (pv_u M.1 26 i v, M.2) := stI_n sa_26 hi v M f
theorem ld_27 {ρ : Type} {i : Nat} (hi : i < 6) (M : pv_M) (f : Int32 → Option ρ) : pv_ldI pv_T 27 (nI i) M f = f (M.1 27 i) := ldI_n sa_27 hi M f
theorem st_27 {ρ : Type} {i : Nat} (hi : i < 6) (v : Int32) (M : pv_M) (f : pv_M → Option ρ) : pv_stI pv_T 27 (nI i) v M f = f (pv_u M.1 27 i v, M.2) := stI_n sa_27 hi v M f
theorem ld_28 {ρ : Type} {i : Nat} (hi : i < 6) (M : pv_M) (f : Int32 → Option ρ) : pv_ldI pv_T 28 (nI i) M f = f (M.1 28 i) := ldI_n sa_28 hi M f
theorem st_28 {ρ : Type} {i : Nat} (hi : i < 6) (v : Int32) (M : pv_M) (f : pv_M → Option ρ) : pv_stI pv_T 28 (nI i) v M f = f (pv_u M.1 28 i v, M.2) := stI_n sa_28 hi v M f
theorem lr_30 {ρ : Type} {i : Nat} (hi : i < 6) (f : Nat → Option ρ) : pv_ldR pv_T 30 (nI i) f = f (31 + i) := ldR_n sa_30 hi f
theorem ld_31 {ρ : Type} {i : Nat} (hi : i < 3) (M : pv_M) (f : Int32 → Option ρ) : pv_ldI pv_T 31 (nI i) M f = f (M.1 31 i) := ldI_n sa_31 hi M f
theorem st_31 {ρ : Type} {i : Nat} (hi : i < 3) (v : Int32) (M : pv_M) (f : pv_M → Option ρ) : pv_stI pv_T 31 (nI i) v M f = f (pv_u M.1 31 i v, M.2) := stI_n sa_31 hi v M f
theorem ld_32 {ρ : Type} {i : Nat} (hi : i < 3) (M : pv_M) (f : Int32 → Option ρ) : pv_ldI pv_T 32 (nI i) M f = f (M.1 32 i) := ldI_n sa_32 hi M f
theorem st_32 {ρ : Type} {i : Nat} (hi : i < 3) (v : Int32) (M : pv_M) (f : pv_M → Option ρ) : pv_stI pv_T 32 (nI i) v M f = f (pv_u M.1 32 i v, M.2) := stI_n sa_32 hi v M f
theorem ld_33 {ρ : Type} {i : Nat} (hi : i < 3) (M : pv_M) (f : Int32 → Option ρ) : pv_ldI pv_T 33 (nI i) M f = f (M.1 33 i) := ldI_n sa_33 hi M f
theorem st_33 {ρ : Type} {i : Nat} (hi : i < 3) (v : Int32) (M : pv_M) (f : pv_M → Option ρ) : pv_stI pv_T 33 (nI i) v M f = f (pv_u M.1 33 i v, M.2) := stI_n sa_33 hi v M f
theorem ld_34 {ρ : Type} {i : Nat} (hi : i < 3) (M : pv_M) (f : Int32 → Option ρ) : pv_ldI pv_T 34 (nI i) M f = f (M.1 34 i) := ldI_n sa_34 hi M f
theorem st_34 {ρ : Type} {i : Nat} (hi : i < 3) (v : Int32) (M : pv_M) (f : pv_M → Option ρ) : pv_stI pv_T 34 (nI i) v M f = f (pv_u M.1 34 i v, M.2) := stI_n sa_34 hi v M f
theorem ld_35 {ρ : Type} {i : Nat} (hi : i < 3) (M : pv_M) (f : Int32 → Option ρ) : pv_ldI pv_T 35 (nI i) M f = f (M.1 35 i) := ldI_n sa_35 hi M f
theorem st_35 {ρ : Type} {i : Nat} (hi : i < 3) (v : Int32) (M : pv_M) (f : pv_M → Option ρ) : pv_stI pv_T 35 (nI i) v M f = f (pv_u M.1 35 i v, M.2) := stI_n sa_35 hi v M f
theorem ld_36 {ρ : Type} {i : Nat} (hi : i < 3) (M : pv_M) (f : Int32 → Option ρ) : pv_ldI pv_T 36 (nI i) M f = f (M.1 36 i) := ldI_n sa_36 hi M f
theorem st_36 {ρ : Type} {i : Nat} (hi : i < 3) (v : Int32) (M : pv_M) (f : pv_M → Option ρ) : pv_stI pv_T 36 (nI i) v M f = f (pv_u M.1 36 i v, M.2) := stI_n sa_36 hi v M f
theorem ld_37 {ρ : Type} {i : Nat} (hi : i < 8) (M : pv_M) (f : Int32 → Option ρ) : pv_ldI pv_T 37 (nI i) M f = f (M.1 37 i) := ldI_n sa_37 hi M f
theorem st_37 {ρ : Type} {i : Nat} (hi : i < 8) (v : Int32) (M : pv_M) (f : pv_M → Option ρ) : pv_stI pv_T 37 (nI i) v M f = f (pv_u M.1 37 i v, M.2) := stI_n sa_37 hi v M f
theorem ld_38 {ρ : Type} {i : Nat} (hi : i < 8) (M : pv_M) (f : Int32 → Option ρ) : pv_ldI pv_T 38 (nI i) M f = f (M.1 38 i) := ldI_n sa_38 hi M f
theorem st_38 {ρ : Type} {i : Nat} (hi : i < 8) (v : Int32) (M : pv_M) (f : pv_M → Option ρ) : pv_stI pv_T 38 (nI i) v M f = f (pv_u M.1 38 i v, M.2) := stI_n sa_38 hi v M f
theorem lr_40 {ρ : Type} {i : Nat} (hi : i < 10) (f : Nat → Option ρ) : pv_ldR pv_T 40 (nI i) f = f (41 + i) := ldR_n sa_40 hi f
theorem ld_41 {ρ : Type} {i : Nat} (hi : i < 12) (M : pv_M) (f : Int32 → Option ρ) : pv_ldI pv_T 41 (nI i) M f = f (M.1 41 i) := ldI_n sa_41 hi M f
theorem st_41 {ρ : Type} {i : Nat} (hi : i < 12) (v : Int32) (M : pv_M) (f : pv_M → Option ρ) : pv_stI pv_T 41 (nI i) v M f = f (pv_u M.1 41 i v, M.2) := stI_n sa_41 hi v M f
theorem ld_42 {ρ : Type} {i : Nat} (hi : i < 12) (M : pv_M) (f : Int32 → Option ρ) : pv_ldI pv_T 42 (nI i) M f = f (M.1 42 i) := ldI_n sa_42 hi M f
theorem st_42 {ρ : Type} {i : Nat} (hi : i < 12) (v : Int32) (M : pv_M) (f : pv_M → Option ρ) : pv_stI pv_T 42 (nI i) v M f = f (pv_u M.1 42 i v, M.2) := stI_n sa_42 hi v M f
theorem ld_43 {ρ : Type} {i : Nat} (hi : i < 12) (M : pv_M) (f : Int32 → Option ρ) : pv_ldI pv_T 43 (nI i) M f = f (M.1 43 i) := ldI_n sa_43 hi M f
theorem st_43 {ρ : Type} {i : Nat} (hi : i < 12) (v : Int32) (M : pv_M) (f : pv_M → Option ρ) : pv_stI pv_T 43 (nI i) v M f = f (pv_u M.1 43 i v, M.2) := stI_n sa_43 hi v M f
theorem ld_44 {ρ : Type} {i : Nat} (hi : i < 12) (M : pv_M) (f : Int32 → Option ρ) : pv_ldI pv_T 44 (nI i) M f = f (M.1 44 i) := ldI_n sa_44 hi M f
theorem st_44 {ρ : Type} {i : Nat} (hi : i < 12) (v : Int32) (M : pv_M) (f : pv_M → Option ρ) : pv_stI pv_T 44 (nI i) v M f = f (pv_u M.1 44 i v, M.2) := stI_n sa_44 hi v M f
theorem ld_45 {ρ : Type} {i : Nat} (hi : i < 12) (M : pv_M) (f : Int32 → Option ρ) : pv_ldI pv_T 45 (nI i) M f = f (M.1 45 i) := ldI_n sa_45 hi M f
theorem st_45 {ρ : Type} {i : Nat} (hi : i < 12) (v : Int32) (M : pv_M) (f : pv_M → Option ρ) : pv_stI pv_T 45 (nI i) v M f = f (pv_u M.1 45 i v, M.2) := stI_n sa_45 hi v M f
theorem ld_46 {ρ : Type} {i : Nat} (hi : i < 12) (M : pv_M) (f : Int32 → Option ρ) : pv_ldI pv_T 46 (nI i) M f = f (M.1 46 i) := ldI_n sa_46 hi M f
theorem st_46 {ρ : Type} {i : Nat} (hi : i < 12) (v : Int32) (M : pv_M) (f : pv_M → Option ρ) : pv_stI pv_T 46 (nI i) v M f = f (pv_u M.1 46 i v, M.2) := stI_n sa_46 hi v M f
theorem ld_47 {ρ : Type} {i : Nat} (hi : i < 12) (M : pv_M) (f : Int32 → Option ρ) : pv_ldI pv_T 47 (nI i) M f = f (M.1 47 i) := ldI_n sa_47 hi M f
theorem st_47 {ρ : Type} {i : Nat} (hi : i < 12) (v : Int32) (M : pv_M) (f : pv_M → Option ρ) : pv_stI pv_T 47 (nI i) v M f = f (pv_u M.1 47 i v, M.2) := stI_n sa_47 hi v M f
theorem ld_48 {ρ : Type} {i : Nat} (hi : i < 12) (M : pv_M) (f : Int32 → Option ρ) : pv_ldI pv_T 48 (nI i) M f = f (M.1 48 i) := ldI_n sa_48 hi M f
theorem st_48 {ρ : Type} {i : Nat} (hi : i < 12) (v : Int32) (M : pv_M) (f : pv_M → Option ρ) : pv_stI pv_T 48 (nI i) v M f = f (pv_u M.1 48 i v, M.2) := stI_n sa_48 hi v M f
theorem ld_49 {ρ : Type} {i : Nat} (hi : i < 12) (M : pv_M) (f : Int32 → Option ρ) : pv_ldI pv_T 49 (nI i) M f = f (M.1 49 i) := ldI_n sa_49 hi M f
theorem st_49 {ρ : Type} {i : Nat} (hi : i < 12) (v : Int32) (M : pv_M) (f : pv_M → Option ρ) : pv_stI pv_T 49 (nI i) v M f = f (pv_u M.1 49 i v, M.2) := stI_n sa_49 hi v M f
theorem ld_50 {ρ : Type} {i : Nat} (hi : i < 12) (M : pv_M) (f : Int32 → Option ρ) : pv_ldI pv_T 50 (nI i) M f = f (M.1 50 i) := ldI_n sa_50 hi M f
theorem st_50 {ρ : Type} {i : Nat} (hi : i < 12) (v : Int32) (M : pv_M) (f : pv_M → Option ρ) : pv_stI pv_T 50 (nI i) v M f = f (pv_u M.1 50 i v, M.2) := stI_n sa_50 hi v M f
theorem ld_51 {ρ : Type} {i : Nat} (hi : i < 8) (M : pv_M) (f : Int32 → Option ρ) : pv_ldI pv_T 51 (nI i) M f = f (M.1 51 i) := ldI_n sa_51 hi M f
theorem st_51 {ρ : Type} {i : Nat} (hi : i < 8) (v : Int32) (M : pv_M) (f : pv_M → Option ρ) : pv_stI pv_T 51 (nI i) v M f = f (pv_u M.1 51 i v, M.2) := stI_n sa_51 hi v M f
theorem ld_52 {ρ : Type} {i : Nat} (hi : i < 8) (M : pv_M) (f : Int32 → Option ρ) : pv_ldI pv_T 52 (nI i) M f = f (M.1 52 i) := ldI_n sa_52 hi M f
theorem st_52 {ρ : Type} {i : Nat} (hi : i < 8) (v : Int32) (M : pv_M) (f : pv_M → Option ρ) : pv_stI pv_T 52 (nI i) v M f = f (pv_u M.1 52 i v, M.2) := stI_n sa_52 hi v M f
theorem lr_54 {ρ : Type} {i : Nat} (hi : i < 10) (f : Nat → Option ρ) : pv_ldR pv_T 54 (nI i) f = f (55 + i) := ldR_n sa_54 hi f
theorem ld_55 {ρ : Type} {i : Nat} (hi : i < 3) (M : pv_M) (f : Int32 → Option ρ) : pv_ldI pv_T 55 (nI i) M f = f (M.1 55 i) := ldI_n sa_55 hi M f
theorem st_55 {ρ : Type} {i : Nat} (hi : i < 3) (v : Int32) (M : pv_M) (f : pv_M → Option ρ) : pv_stI pv_T 55 (nI i) v M f = f (pv_u M.1 55 i v, M.2) := stI_n sa_55 hi v M f
theorem ld_56 {ρ : Type} {i : Nat} (hi : i < 3) (M : pv_M) (f : Int32 → Option ρ) : pv_ldI pv_T 56 (nI i) M f = f (M.1 56 i) := ldI_n sa_56 hi M f
theorem st_56 {ρ : Type} {i : Nat} (hi : i < 3) (v : Int32) (M : pv_M) (f : pv_M → Option ρ) : pv_stI pv_T 56 (nI i) v M f = f (pv_u M.1 56 i v, M.2) := stI_n sa_56 hi v M f
theorem ld_57 {ρ : Type} {i : Nat} (hi : i < 3) (M : pv_M) (f : Int32 → Option ρ) : pv_ldI pv_T 57 (nI i) M f = f (M.1 57 i) := ldI_n sa_57 hi M f
theorem st_57 {ρ : Type} {i : Nat} (hi : i < 3) (v : Int32) (M : pv_M) (f : pv_M → Option ρ) : pv_stI pv_T 57 (nI i) v M f = f (pv_u M.1 57 i v, M.2) := stI_n sa_57 hi v M f
theorem ld_58 {ρ : Type} {i : Nat} (hi : i < 3) (M : pv_M) (f : Int32 → Option ρ) : pv_ldI pv_T 58 (nI i) M f = f (M.1 58 i) := ldI_n sa_58 hi M f
theorem st_58 {ρ : Type} {i : Nat} (hi : i < 3) (v : Int32) (M : pv_M) (f : pv_M → Option ρ) : pv_stI pv_T 58 (nI i) v M f = f (pv_u M.1 58 i v, M.2) := stI_n sa_58 hi v M f
theorem ld_59 {ρ : Type} {i : Nat} (hi : i < 3) (M : pv_M) (f : Int32 → Option ρ) : pv_ldI pv_T 59 (nI i) M f = f (M.1 59 i) := ldI_n sa_59 hi M f
theorem st_59 {ρ : Type} {i : Nat} (hi : i < 3) (v : Int32) (M : pv_M) (f : pv_M → Option ρ) : pv_stI pv_T 59 (nI i) v M f = f (pv_u M.1 59 i v, M.2) := stI_n sa_59 hi v M f
theorem ld_60 {ρ : Type} {i : Nat} (hi : i < 3) (M : pv_M) (f : Int32 → Option ρ) : pv_ldI pv_T 60 (nI i) M f = f (M.1 60 i) := ldI_n sa_60 hi M f
theorem st_60 {ρ : Type} {i : Nat} (hi : i < 3) (v : Int32) (M : pv_M) (f : pv_M → Option ρ) : pv_stI pv_T 60 (nI i) v M f = f (pv_u M.1 60 i v, M.2) := stI_n sa_60 hi v M f
theorem ld_61 {ρ : Type} {i : Nat} (hi : i < 3) (M : pv_M) (f : Int32 → Option ρ) : pv_ldI pv_T 61 (nI i) M f = f (M.1 61 i) := ldI_n sa_61 hi M f
theorem st_61 {ρ : Type} {i : Nat} (hi : i < 3) (v : Int32) (M : pv_M) (f : pv_M → Option ρ) : pv_stI pv_T 61 (nI i) v M f = f (pv_u M.1 61 i v, M.2) := stI_n sa_61 hi v M f
theorem ld_62 {ρ : Type} {i : Nat} (hi : i < 3) (M : pv_M) (f : Int32 → Option ρ) : pv_ldI pv_T 62 (nI i) M f = f (M.1 62 i) := ldI_n sa_62 hi M f
theorem st_62 {ρ : Type} {i : Nat} (hi : i < 3) (v : Int32) (M : pv_M) (f : pv_M → Option ρ) : pv_stI pv_T 62 (nI i) v M f = f (pv_u M.1 62 i v, M.2) := stI_n sa_62 hi v M f
theorem ld_63 {ρ : Type} {i : Nat} (hi : i < 3) (M : pv_M) (f : Int32 → Option ρ) : pv_ldI pv_T 63 (nI i) M f = f (M.1 63 i) := ldI_n sa_63 hi M f
theorem st_63 {ρ : Type} {i : Nat} (hi : i < 3) (v : Int32) (M : pv_M) (f : pv_M → Option ρ) : pv_stI pv_T 63 (nI i) v M f = f (pv_u M.1 63 i v, M.2) := stI_n sa_63 hi v M f
theorem ld_64 {ρ : Type} {i : Nat} (hi : i < 3) (M : pv_M) (f : Int32 → Option ρ) : pv_ldI pv_T 64 (nI i) M f = f (M.1 64 i) := ldI_n sa_64 hi M f
theorem st_64 {ρ : Type} {i : Nat} (hi : i < 3) (v : Int32) (M : pv_M) (f : pv_M → Option ρ) : pv_stI pv_T 64 (nI i) v M f = f (pv_u M.1 64 i v, M.2) := stI_n sa_64 hi v M f
theorem lr_65 {ρ : Type} {i : Nat} (hi : i < 10) (f : Nat → Option ρ) : pv_ldR pv_T 65 (nI i) f = f (66 + i) := ldR_n sa_65 hi f
theorem ld_66 {ρ : Type} {i : Nat} (hi : i < 3) (M : pv_M) (f : Int32 → Option ρ) : pv_ldI pv_T 66 (nI i) M f = f (M.1 66 i) := ldI_n sa_66 hi M f
theorem st_66 {ρ : Type} {i : Nat} (hi : i < 3) (v : Int32) (M : pv_M) (f : pv_M → Option ρ) : pv_stI pv_T 66 (nI i) v M f = f (pv_u M.1 66 i v, M.2) := stI_n sa_66 hi v M f
theorem ld_67 {ρ : Type} {i : Nat} (hi : i < 3) (M : pv_M) (f : Int32 → Option ρ) : pv_ldI pv_T 67 (nI i) M f = f (M.1 67 i) := ldI_n sa_67 hi M f
theorem st_67 {ρ : Type} {i : Nat} (hi : i < 3) (v : Int32) (M : pv_M) (f : pv_M → Option ρ) : pv_stI pv_T 67 (nI i) v M f = f (pv_u M.1 67 i v, M.2) := stI_n sa_67 hi v M f
theorem ld_68 {ρ : Type} {i : Nat} (hi : i < 3) (M : pv_M) (f : Int32 → Option ρ) : pv_ldI pv_T 68 (nI i) M f = f (M.1 68 i) := ldI_n sa_68 hi M f
theorem st_68 {ρ : Type} {i : Nat} (hi : i < 3) (v : Int32) (M : pv_M) (f : pv_M → Option ρ) : pv_stI pv_T 68 (nI i) v M f = f (pv_u M.1 68 i v, M.2) := stI_n sa_68 hi v M f
theorem ld_69 {ρ : Type} {i : Nat} (hi : i < 3) (M : pv_M) (f : Int32 → Option ρ) : pv_ldI pv_T 69 (nI i) M f = f (M.1 69 i) := ldI_n sa_69 hi M f
theorem st_69 {ρ : Type} {i : Nat} (hi : i < 3) (v : Int32) (M : pv_M) (f : pv_M → Option ρ) : pv_stI pv_T 69 (nI i) v M f = f (pv_u M.1 69 i v, M.2) := stI_n sa_69 hi v M f
theorem ld_70 {ρ : Type} {i : Nat} (hi : i < 3) (M : pv_M) (f : Int32 → Option ρ) : pv_ldI pv_T 70 (nI i) M f = f (M.1 70 i) := ldI_n sa_70 hi M f
theorem st_70 {ρ : Type} {i : Nat} (hi : i < 3) (v : Int32) (M : pv_M) (f : pv_M → Option ρ) : pv_stI pv_T 70 (nI i) v M f = f (pv_u M.1 70 i v, M.2) := stI_n sa_70 hi v M f
theorem ld_71 {ρ : Type} {i : Nat} (hi : i < 3) (M : pv_M) (f : Int32 → Option ρ) : pv_ldI pv_T 71 (nI i) M f = f (M.1 71 i) := ldI_n sa_71 hi M f
theorem st_71 {ρ : Type} {i : Nat} (hi : i < 3) (v : Int32) (M : pv_M) (f : pv_M → Option ρ) : pv_stI pv_T 71 (nI i) v M f = f (pv_u M.1 71 i v, M.2) := stI_n sa_71 hi v M f
theorem ld_72 {ρ : Type} {i : Nat} (hi : i < 3) (M : pv_M) (f : Int32 → Option ρ) : pv_ldI pv_T 72 (nI i) M f = f (M.1 72 i) := ldI_n sa_72 hi M f
theorem st_72 {ρ : Type} {i : Nat} (hi : i < 3) (v : Int32) (M : pv_M) (f : pv_M → Option ρ) : pv_stI pv_T 72 (nI i) v M f = f (pv_u M.1 72 i v, M.2) := stI_n sa_72 hi v M f
theorem ld_73 {ρ : Type} {i : Nat} (hi : i < 3) (M : pv_M) (f : Int32 → Option ρ) : pv_ldI pv_T 73 (nI i) M f = f (M.1 73 i) := ldI_n sa_73 hi M f
theorem st_73 {ρ : Type} {i : Nat} (hi : i < 3) (v : Int32) (M : pv_M) (f : pv_M → Option ρ) : pv_stI pv_T 73 (nI i) v M f = f (pv_u M.1 73 i v, M.2) := stI_n sa_73 hi v M f
theorem ld_74 {ρ : Type} {i : Nat} (hi : i < 3) (M : pv_M) (f : Int32 → Option ρ) : pv_ldI pv_T 74 (nI i) M f = f (M.1 74 i) := ldI_n sa_74 hi M f
theorem st_74 {ρ : Type} {i : Nat} (hi : i < 3) (v : Int32) (M : pv_M) (f : pv_M → Option ρ) : pv_stI pv_T 74 (nI i) v M f = f (pv_u M.1 74 i v, M.2) := stI_n sa_74 hi v M f
theorem ld_75 {ρ : Type} {i : Nat} (hi : i < 3) (M : pv_M) (f : Int32 → Option ρ) : pv_ldI pv_T 75 (nI i) M f = f (M.1 75 i) := ldI_n sa_75 hi M f
theorem st_75 {ρ : Type} {i : Nat} (hi : i < 3) (v : Int32) (M : pv_M) (f : pv_M → Option ρ) : pv_stI pv_T 75 (nI i) v M f = f (pv_u M.1 75 i v, M.2) := stI_n sa_75 hi v M f
theorem lr_76 {ρ : Type} {i : Nat} (hi : i < 10) (f : Nat → Option ρ) : pv_ldR pv_T 76 (nI i) f = f (77 + i) := ldR_n sa_76 hi f
theorem ld_77 {ρ : Type} {i : Nat} (hi : i < 12) (M : pv_M) (f : Int32 → Option ρ) : pv_ldI pv_T 77 (nI i) M f = f (M.1 77 i) := ldI_n sa_77 hi M f
theorem st_77 {ρ : Type} {i : Nat} (hi : i < 12) (v : Int32) (M : pv_M) (f : pv_M → Option ρ) : pv_stI pv_T 77 (nI i) v M f = f (pv_u M.1 77 i v, M.2) := stI_n sa_77 hi v M f
theorem ld_78 {ρ : Type} {i : Nat} (hi : i < 12) (M : pv_M) (f : Int32 → Option ρ) : pv_ldI pv_T 78 (nI i) M f = f (M.1 78 i) := ldI_n sa_78 hi M f
theorem st_78 {ρ : Type} {i : Nat} (hi : i < 12) (v : Int32) (M : pv_M) (f : pv_M → Option ρ) : pv_stI pv_T 78 (nI i) v M f = f (pv_u M.1 78 i v, M.2) := stI_n sa_78 hi v M f
theorem ld_79 {ρ : Type} {i : Nat} (hi : i < 12) (M : pv_M) (f : Int32 → Option ρ) : pv_ldI pv_T 79 (nI i) M f = f (M.1 79 i) := ldI_n sa_79 hi M f
theorem st_79 {ρ : Type} {i : Nat} (hi : i < 12) (v : Int32) (M : pv_M) (f : pv_M → Option ρ) : pv_stI pv_T 79 (nI i) v M f = f (pv_u M.1 79 i v, M.2) := stI_n sa_79 hi v M f
theorem ld_80 {ρ : Type} {i : Nat} (hi : i < 12) (M : pv_M) (f : Int32 → Option ρ) : pv_ldI pv_T 80 (nI i) M f = f (M.1 80 i) := ldI_n sa_80 hi M f
theorem st_80 {ρ : Type} {i : Nat} (hi : i < 12) (v : Int32) (M : pv_M) (f : pv_M → Option ρ) : pv_stI pv_T 80 (nI i) v M f = f (pv_u M.1 80 i v, M.2) := stI_n sa_80 hi v M f
theorem ld_81 {ρ : Type} {i : Nat} (hi : i < 12) (M : pv_M) (f : Int32 → Option ρ) : pv_ldI pv_T 81 (nI i) M f = f (M.1 81 i) := ldI_n sa_81 hi M f
theorem st_81 {ρ : Type} {i : Nat} (hi : i < 12) (v : Int32) (M : pv_M) (f : pv_M → Option ρ) : pv_stI pv_T 81 (nI i) v M f = f (pv_u M.1 81 i v, M.2) := stI_n sa_81 hi v M f
theorem ld_82 {ρ : Type} {i : Nat} (hi : i < 12) (M : pv_M) (f : Int32 → Option ρ) : pv_ldI pv_T 82 (nI i) M f = f (M.1 82 i) := ldI_n sa_82 hi M f
theorem st_82 {ρ : Type} {i : Nat} (hi : i < 12) (v : Int32) (M : pv_M) (f : pv_M → Option ρ) : pv_stI pv_T 82 (nI i) v M f = f (pv_u M.1 82 i v, M.2) := stI_n sa_82 hi v M f
theorem ld_83 {ρ : Type} {i : Nat} (hi : i < 12) (M : pv_M) (f : Int32 → Option ρ) : pv_ldI pv_T 83 (nI i) M f = f (M.1 83 i) := ldI_n sa_83 hi M f
theorem st_83 {ρ : Type} {i : Nat} (hi : i < 12) (v : Int32) (M : pv_M) (f : pv_M → Option ρ) : pv_stI pv_T 83 (nI i) v M f = f (pv_u M.1 83 i v, M.2) := stI_n sa_83 hi v M f
theorem ld_84 {ρ : Type} {i : Nat} (hi : i < 12) (M : pv_M) (f : Int32 → Option ρ) : pv_ldI pv_T 84 (nI i) M f = f (M.1 84 i) := ldI_n sa_84 hi M f
theorem st_84 {ρ : Type} {i : Nat} (hi : i < 12) (v : Int32) (M : pv_M) (f : pv_M → Option ρ) : pv_stI pv_T 84 (nI i) v M f = f (pv_u M.1 84 i v, M.2) := stI_n sa_84 hi v M f
theorem ld_85 {ρ : Type} {i : Nat} (hi : i < 12) (M : pv_M) (f : Int32 → Option ρ) : pv_ldI pv_T 85 (nI i) M f = f (M.1 85 i) := ldI_n sa_85 hi M f
theorem st_85 {ρ : Type} {i : Nat} (hi : i < 12) (v : Int32) (M : pv_M) (f : pv_M → Option ρ) : pv_stI pv_T 85 (nI i) v M f = f (pv_u M.1 85 i v, M.2) := stI_n sa_85 hi v M f
theorem ld_86 {ρ : Type} {i : Nat} (hi : i < 12) (M : pv_M) (f : Int32 → Option ρ) : pv_ldI pv_T 86 (nI i) M f = f (M.1 86 i) := ldI_n sa_86 hi M f
theorem st_86 {ρ : Type} {i : Nat} (hi : i < 12) (v : Int32) (M : pv_M) (f : pv_M → Option ρ) : pv_stI pv_T 86 (nI i) v M f = f (pv_u M.1 86 i v, M.2) := stI_n sa_86 hi v M f
theorem ld_87 {ρ : Type} {i : Nat} (hi : i < 4) (M : pv_M) (f : Int32 → Option ρ) : pv_ldI pv_T 87 (nI i) M f = f (M.1 87 i) := ldI_n sa_87 hi M f
theorem st_87 {ρ : Type} {i : Nat} (hi : i < 4) (v : Int32) (M : pv_M) (f : pv_M → Option ρ) : pv_stI pv_T 87 (nI i) v M f = f (pv_u M.1 87 i v, M.2) := stI_n sa_87 hi v M f
theorem lr_89 {ρ : Type} {i : Nat} (hi : i < 10) (f : Nat → Option ρ) : pv_ldR pv_T 89 (nI i) f = f (90 + i) := ldR_n sa_89 hi f
theorem ld_90 {ρ : Type} {i : Nat} (hi : i < 3) (M : pv_M) (f : Int32 → Option ρ) : pv_ldI pv_T 90 (nI i) M f = f (M.1 90 i) := ldI_n sa_90 hi M f
theorem st_90 {ρ : Type} {i : Nat} (hi : i < 3) (v : Int32) (M : pv_M) (f : pv_M → Option ρ) : pv_stI pv_T 90 (nI i) v M f = f (pv_u M.1 90 i v, M.2) := stI_n sa_90 hi v M f
theorem ld_91 {ρ : Type} {i : Nat} (hi : i < 3) (M : pv_M) (f : Int32 → Option ρ) : pv_ldI pv_T 91 (nI i) M f = f (M.1 91 i) := ldI_n sa_91 hi M f
theorem st_91 {ρ : Type} {i : Nat} (hi : i < 3) (v : Int32) (M : pv_M) (f : pv_M → Option ρ) : pv_stI pv_T 91 (nI i) v M f = f (pv_u M.1 91 i v, M.2) := stI_n sa_91 hi v M f
theorem ld_92 {ρ : Type} {i : Nat} (hi : i < 3) (M : pv_M) (f : Int32 → Option ρ) : pv_ldI pv_T 92 (nI i) M f = f (M.1 92 i) := ldI_n sa_92 hi M f
theorem st_92 {ρ : Type} {i : Nat} (hi : i < 3) (v : Int32) (M : pv_M) (f : pv_M → Option ρ) : pv_stI pv_T 92 (nI i) v M f = f (pv_u M.1 92 i v, M.2) := stI_n sa_92 hi v M f
theorem ld_93 {ρ : Type} {i : Nat} (hi : i < 3) (M : pv_M) (f : Int32 → Option ρ) : pv_ldI pv_T 93 (nI i) M f = f (M.1 93 i) := ldI_n sa_93 hi M f
theorem st_93 {ρ : Type} {i : Nat} (hi : i < 3) (v : Int32) (M : pv_M) (f : pv_M → Option ρ) : pv_stI pv_T 93 (nI i) v M f = f (pv_u M.1 93 i v, M.2) := stI_n sa_93 hi v M f
theorem ld_94 {ρ : Type} {i : Nat} (hi : i < 3) (M : pv_M) (f : Int32 → Option ρ) : pv_ldI pv_T 94 (nI i) M f = f (M.1 94 i) := ldI_n sa_94 hi M f
theorem st_94 {ρ : Type} {i : Nat} (hi : i < 3) (v : Int32) (M : pv_M) (f : pv_M → Option ρ) : pv_stI pv_T 94 (nI i) v M f = f (pv_u M.1 94 i v, M.2) := stI_n sa_94 hi v M f
theorem ld_95 {ρ : Type} {i : Nat} (hi : i < 3) (M : pv_M) (f : Int32 → Option ρ) : pv_ldI pv_T 95 (nI i) M f = f (M.1 95 i) := ldI_n sa_95 hi M f
theorem st_95 {ρ : Type} {i : Nat} (hi : i < 3) (v : Int32) (M : pv_M) (f : pv_M → Option ρ) : pv_stI pv_T 95 (nI i) v M f = f (pv_u M.1 95 i v, M.2) := stI_n sa_95 hi v M f
theorem ld_96 {ρ : Type} {i : Nat} (hi : i < 3) (M : pv_M) (f : Int32 → Option ρ) : pv_ldI pv_T 96 (nI i) M f = f (M.1 96 i) := ldI_n sa_96 hi M f
theorem st_96 {ρ : Type} {i : Nat} (hi : i < 3) (v : Int32) (M : pv_M) (f : pv_M → Option ρ) : pv_stI pv_T 96 (nI i) v M f = f (pv_u M.1 96 i v, M.2) := stI_n sa_96 hi v M f
theorem ld_97 {ρ : Type} {i : Nat} (hi : i < 3) (M : pv_M) (f : Int32 → Option ρ) : pv_ldI pv_T 97 (nI i) M f = f (M.1 97 i) := ldI_n sa_97 hi M f
theorem st_97 {ρ : Type} {i : Nat} (hi : i < 3) (v : Int32) (M : pv_M) (f : pv_M → Option ρ) : pv_stI pv_T 97 (nI i) v M f = f (pv_u M.1 97 i v, M.2) := stI_n sa_97 hi v M f
theorem ld_98 {ρ : Type} {i : Nat} (hi : i < 3) (M : pv_M) (f : Int32 → Option ρ) : pv_ldI pv_T 98 (nI i) M f = f (M.1 98 i) := ldI_n sa_98 hi M f
theorem st_98 {ρ : Type} {i : Nat} (hi : i < 3) (v : Int32) (M : pv_M) (f : pv_M → Option ρ) : pv_stI pv_T 98 (nI i) v M f = f (pv_u M.1 98 i v, M.2) := stI_n sa_98 hi v M f
theorem ld_99 {ρ : Type} {i : Nat} (hi : i < 3) (M : pv_M) (f : Int32 → Option ρ) : pv_ldI pv_T 99 (nI i) M f = f (M.1 99 i) := ldI_n sa_99 hi M f
theorem st_99 {ρ : Type} {i : Nat} (hi : i < 3) (v : Int32) (M : pv_M) (f : pv_M → Option ρ) : pv_stI pv_T 99 (nI i) v M f = f (pv_u M.1 99 i v, M.2) := stI_n sa_99 hi v M f
theorem lr_100 {ρ : Type} {i : Nat} (hi : i < 10) (f : Nat → Option ρ) : pv_ldR pv_T 100 (nI i) f = f (101 + i) := ldR_n sa_100 hi f
theorem ld_101 {ρ : Type} {i : Nat} (hi : i < 3) (M : pv_M) (f : Int32 → Option ρ) : pv_ldI pv_T 101 (nI i) M f = f (M.1 101 i) := ldI_n sa_101 hi M f
theorem st_101 {ρ : Type} {i : Nat} (hi : i < 3) (v : Int32) (M : pv_M) (f : pv_M → Option ρ) : pv_stI pv_T 101 (nI i) v M f = f (pv_u M.1 101 i v, M.2) := stI_n sa_101 hi v M f
theorem ld_102 {ρ : Type} {i : Nat} (hi : i < 3) (M : pv_M) (f : Int32 → Option ρ) : pv_ldI pv_T 102 (nI i) M f = f (M.1 102 i) := ldI_n sa_102 hi M f
theorem st_102 {ρ : Type} {i : Nat} (hi : i < 3) (v : Int32) (M : pv_M) (f : pv_M → Option ρ) : pv_stI pv_T 102 (nI i) v M f = f (pv_u M.1 102 i v, M.2) := stI_n sa_102 hi v M f
theorem ld_103 {ρ : Type} {i : Nat} (hi : i < 3) (M : pv_M) (f : Int32 → Option ρ) : pv_ldI pv_T 103 (nI i) M f = f (M.1 103 i) := ldI_n sa_103 hi M f
theorem st_103 {ρ : Type} {i : Nat} (hi : i < 3) (v : Int32) (M : pv_M) (f : pv_M → Option ρ) : pv_stI pv_T 103 (nI i) v M f = f (pv_u M.1 103 i v, M.2) := stI_n sa_103 hi v M f
theorem ld_104 {ρ : Type} {i : Nat} (hi : i < 3) (M : pv_M) (f : Int32 → Option ρ) : pv_ldI pv_T 104 (nI i) M f = f (M.1 104 i) := ldI_n sa_104 hi M f
theorem st_104 {ρ : Type} {i : Nat} (hi : i < 3) (v : Int32) (M : pv_M) (f : pv_M → Option ρ) : pv_stI pv_T 104 (nI i) v M f = f (pv_u M.1 104 i v, M.2) := stI_n sa_104 hi v M f
theorem ld_105 {ρ : Type} {i : Nat} (hi : i < 3) (M : pv_M) (f : Int32 → Option ρ) : pv_ldI pv_T 105 (nI i) M f = f (M.1 105 i) := ldI_n sa_105 hi M f
theorem st_105 {ρ : Type} {i : Nat} (hi : i < 3) (v : Int32) (M : pv_M) (f : pv_M → Option ρ) : pv_stI pv_T 105 (nI i) v M f = f (pv_u M.1 105 i v, M.2) := stI_n sa_105 hi v M f
theorem ld_106 {ρ : Type} {i : Nat} (hi : i < 3) (M : pv_M) (f : Int32 → Option ρ) : pv_ldI pv_T 106 (nI i) M f = f (M.1 106 i) := ldI_n sa_106 hi M f
theorem st_106 {ρ : Type} {i : Nat} (hi : i < 3) (v : Int32) (M : pv_M) (f : pv_M → Option ρ) : pv_stI pv_T 106 (nI i) v M f = f (pv_u M.1 106 i v, M.2) := stI_n sa_106 hi v M f
theorem ld_107 {ρ : Type} {i : Nat} (hi : i < 3) (M : pv_M) (f : Int32 → Option ρ) : pv_ldI pv_T 107 (nI i) M f = f (M.1 107 i) := ldI_n sa_107 hi M f
theorem st_107 {ρ : Type} {i : Nat} (hi : i < 3) (v : Int32) (M : pv_M) (f : pv_M → Option ρ) : pv_stI pv_T 107 (nI i) v M f = f (pv_u M.1 107 i v, M.2) := stI_n sa_107 hi v M f
theorem ld_108 {ρ : Type} {i : Nat} (hi : i < 3) (M : pv_M) (f : Int32 → Option ρ) : pv_ldI pv_T 108 (nI i) M f = f (M.1 108 i) := ldI_n sa_108 hi M f
theorem st_108 {ρ : Type} {i : Nat} (hi : i < 3) (v : Int32) (M : pv_M) (f : pv_M → Option ρ) : pv_stI pv_T 108 (nI i) v M f = f (pv_u M.1 108 i v, M.2) := stI_n sa_108 hi v M f
theorem ld_109 {ρ : Type} {i : Nat} (hi : i < 3) (M : pv_M) (f : Int32 → Option ρ) : pv_ldI pv_T 109 (nI i) M f = f (M.1 109 i) := ldI_n sa_109 hi M f
theorem st_109 {ρ : Type} {i : Nat} (hi : i < 3) (v : Int32) (M : pv_M) (f : pv_M → Option ρ) : pv_stI pv_T 109 (nI i) v M f = f (pv_u M.1 109 i v, M.2) := stI_n sa_109 hi v M f
theorem ld_110 {ρ : Type} {i : Nat} (hi : i < 3) (M : pv_M) (f : Int32 → Option ρ) : pv_ldI pv_T 110 (nI i) M f = f (M.1 110 i) := ldI_n sa_110 hi M f
theorem st_110 {ρ : Type} {i : Nat} (hi : i < 3) (v : Int32) (M : pv_M) (f : pv_M → Option ρ) : pv_stI pv_T 110 (nI i) v M f = f (pv_u M.1 110 i v, M.2) := stI_n sa_110 hi v M f
theorem lr_111 {ρ : Type} {i : Nat} (hi : i < 10) (f : Nat → Option ρ) : pv_ldR pv_T 111 (nI i) f = f (112 + i) := ldR_n sa_111 hi f
theorem ld_112 {ρ : Type} {i : Nat} (hi : i < 12) (M : pv_M) (f : Int32 → Option ρ) : pv_ldI pv_T 112 (nI i) M f = f (M.1 112 i) := ldI_n sa_112 hi M f
theorem st_112 {ρ : Type} {i : Nat} (hi : i < 12) (v : Int32) (M : pv_M) (f : pv_M → Option ρ) : pv_stI pv_T 112 (nI i) v M f = f (pv_u M.1 112 i v, M.2) := stI_n sa_112 hi v M f
theorem ld_113 {ρ : Type} {i : Nat} (hi : i < 12) (M : pv_M) (f : Int32 → Option ρ) : pv_ldI pv_T 113 (nI i) M f = f (M.1 113 i) := ldI_n sa_113 hi M f
theorem st_113 {ρ : Type} {i : Nat} (hi : i < 12) (v : Int32) (M : pv_M) (f : pv_M → Option ρ) : pv_stI pv_T 113 (nI i) v M f = f (pv_u M.1 113 i v, M.2) := stI_n sa_113 hi v M f
theorem ld_114 {ρ : Type} {i : Nat} (hi : i < 12) (M : pv_M) (f : Int32 → Option ρ) : pv_ldI pv_T 114 (nI i) M f = f (M.1 114 i) := ldI_n sa_114 hi M f
theorem st_114 {ρ : Type} {i : Nat} (hi : i < 12) (v : Int32) (M : pv_M) (f : pv_M → Option ρ) : pv_stI pv_T 114 (nI i) v M f = f (pv_u M.1 114 i v, M.2) := stI_n sa_114 hi v M f
theorem ld_115 {ρ : Type} {i : Nat} (hi : i < 12) (M : pv_M) (f : Int32 → Option ρ) : pv_ldI pv_T 115 (nI i) M f = f (M.1 115 i) := ldI_n sa_115 hi M f
theorem st_115 {ρ : Type} {i : Nat} (hi : i < 12) (v : Int32) (M : pv_M) (f : pv_M → Option ρ) : pv_stI pv_T 115 (nI i) v M f = f (pv_u M.1 115 i v, M.2) := stI_n sa_115 hi v M f
theorem ld_116 {ρ : Type} {i : Nat} (hi : i < 12) (M : pv_M) (f : Int32 → Option ρ) : pv_ldI pv_T 116 (nI i) M f = f (M.1 116 i) := ldI_n sa_116 hi M f
theorem st_116 {ρ : Type} {i : Nat} (hi : i < 12) (v : Int32) (M : pv_M) (f : pv_M → Option ρ) : pv_stI pv_T 116 (nI i) v M f = f (pv_u M.1 116 i v, M.2) := stI_n sa_116 hi v M f
theorem ld_117 {ρ : Type} {i : Nat} (hi : i < 12) (M : pv_M) (f : Int32 → Option ρ) : pv_ldI pv_T 117 (nI i) M f = f (M.1 117 i) := ldI_n sa_117 hi M f
theorem st_117 {ρ : Type} {i : Nat} (hi : i < 12) (v : Int32) (M : pv_M) (f : pv_M → Option ρ) : pv_stI pv_T 117 (nI i) v M f = f (pv_u M.1 117 i v, M.2) := stI_n sa_117 hi v M f
theorem ld_118 {ρ : Type} {i : Nat} (hi : i < 12) (M : pv_M) (f : Int32 → Option ρ) : pv_ldI pv_T 118 (nI i) M f = f (M.1 118 i) := ldI_n sa_118 hi M f
theorem st_118 {ρ : Type} {i : Nat} (hi : i < 12) (v : Int32) (M : pv_M) (f : pv_M → Option ρ) : pv_stI pv_T 118 (nI i) v M f = f (pv_u M.1 118 i v, M.2) := stI_n sa_118 hi v M f
theorem ld_119 {ρ : Type} {i : Nat} (hi : i < 12) (M : pv_M) (f : Int32 → Option ρ) : pv_ldI pv_T 119 (nI i) M f = f (M.1 119 i) := ldI_n sa_119 hi M f
theorem st_119 {ρ : Type} {i : Nat} (hi : i < 12) (v : Int32) (M : pv_M) (f : pv_M → Option ρ) : pv_stI pv_T 119 (nI i) v M f = f (pv_u M.1 119 i v, M.2) := stI_n sa_119 hi v M f
theorem ld_120 {ρ : Type} {i : Nat} (hi : i < 12) (M : pv_M) (f : Int32 → Option ρ) : pv_ldI pv_T 120 (nI i) M f = f (M.1 120 i) := ldI_n sa_120 hi M f
theorem st_120 {ρ : Type} {i : Nat} (hi : i < 12) (v : Int32) (M : pv_M) (f : pv_M → Option ρ) : pv_stI pv_T 120 (nI i) v M f = f (pv_u M.1 120 i v, M.2) := stI_n sa_120 hi v M f
theorem ld_121 {ρ : Type} {i : Nat} (hi : i < 12) (M : pv_M) (f : Int32 → Option ρ) : pv_ldI pv_T 121 (nI i) M f = f (M.1 121 i) := ldI_n sa_121 hi M f
theorem st_121 {ρ : Type} {i : Nat} (hi : i < 12) (v : Int32) (M : pv_M) (f : pv_M → Option ρ) : pv_stI pv_T 121 (nI i) v M f = f (pv_u M.1 121 i v, M.2) := stI_n sa_121 hi v M f
theorem ld_122 {ρ : Type} {i : Nat} (hi : i < 4) (M : pv_M) (f : Int32 → Option ρ) : pv_ldI pv_T 122 (nI i) M f = f (M.1 122 i) := ldI_n sa_122 hi M f
theorem st_122 {ρ : Type} {i : Nat} (hi : i < 4) (v : Int32) (M : pv_M) (f : pv_M → Option ρ) : pv_stI pv_T 122 (nI i) v M f = f (pv_u M.1 122 i v, M.2) := stI_n sa_122 hi v M f
theorem lr_124 {ρ : Type} {i : Nat} (hi : i < 10) (f : Nat → Option ρ) : pv_ldR pv_T 124 (nI i) f = f (125 + i) := ldR_n sa_124 hi f
theorem ld_125 {ρ : Type} {i : Nat} (hi : i < 3) (M : pv_M) (f : Int32 → Option ρ) : pv_ldI pv_T 125 (nI i) M f = f (M.1 125 i) := ldI_n sa_125 hi M f
theorem st_125 {ρ : Type} {i : Nat} (hi : i < 3) (v : Int32) (M : pv_M) (f : pv_M → Option ρ) : pv_stI pv_T 125 (nI i) v M f = f (pv_u M.1 125 i v, M.2) := stI_n sa_125 hi v M f
theorem ld_126 {ρ : Type} {i : Nat} (hi : i < 3) (M : pv_M) (f : Int32 → Option ρ) : pv_ldI pv_T 126 (nI i) M f = f (M.1 126 i) := ldI_n sa_126 hi M f
theorem st_126 {ρ : Type} {i : Nat} (hi : i < 3) (v : Int32) (M : pv_M) (f : pv_M → Option ρ) : pv_stI pv_T 126 (nI i) v M f = f (pv_u M.1 126 i v, M.2) := stI_n sa_126 hi v M f
theorem ld_127 {ρ : Type} {i : Nat} (hi : i < 3) (M : pv_M) (f : Int32 → Option ρ) : pv_ldI pv_T 127 (nI i) M f = f (M.1 127 i) := ldI_n sa_127 hi M f
theorem st_127 {ρ : Type} {i : Nat} (hi : i < 3) (v : Int32) (M : pv_M) (f : pv_M → Option ρ) : pv_stI pv_T 127 (nI i) v M f = f (pv_u M.1 127 i v, M.2) := stI_n sa_127 hi v M f
theorem ld_128 {ρ : Type} {i : Nat} (hi : i < 3) (M : pv_M) (f : Int32 → Option ρ) : pv_ldI pv_T 128 (nI i) M f = f (M.1 128 i) := ldI_n sa_128 hi M f
theorem st_128 {ρ : Type} {i : Nat} (hi : i < 3) (v : Int32) (M : pv_M) (f : pv_M → Option ρ) : pv_stI pv_T 128 (nI i) v M f = f (pv_u M.1 128 i v, M.2) := stI_n sa_128 hi v M f
theorem ld_129 {ρ : Type} {i : Nat} (hi : i < 3) (M : pv_M) (f : Int32 → Option ρ) : pv_ldI pv_T 129 (nI i) M f = f (M.1 129 i) := ldI_n sa_129 hi M f
theorem st_129 {ρ : Type} {i : Nat} (hi : i < 3) (v : Int32) (M : pv_M) (f : pv_M → Option ρ) : pv_stI pv_T 129 (nI i) v M f = f (pv_u M.1 129 i v, M.2) := stI_n sa_129 hi v M f
theorem ld_130 {ρ : Type} {i : Nat} (hi : i < 3) (M : pv_M) (f : Int32 → Option ρ) : pv_ldI pv_T 130 (nI i) M f = f (M.1 130 i) := ldI_n sa_130 hi M f
theorem st_130 {ρ : Type} {i : Nat} (hi : i < 3) (v : Int32) (M : pv_M) (f : pv_M → Option ρ) : pv_stI pv_T 130 (nI i) v M f = f (pv_u M.1 130 i v, M.2) := stI_n sa_130 hi v M f
theorem ld_131 {ρ : Type} {i : Nat} (hi : i < 3) (M : pv_M) (f : Int32 → Option ρ) : pv_ldI pv_T 131 (nI i) M f = f (M.1 131 i) := ldI_n sa_131 hi M f
theorem st_131 {ρ : Type} {i : Nat} (hi : i < 3) (v : Int32) (M : pv_M) (f : pv_M → Option ρ) : pv_stI pv_T 131 (nI i) v M f = f (pv_u M.1 131 i v, M.2) := stI_n sa_131 hi v M f
theorem ld_132 {ρ : Type} {i : Nat} (hi : i < 3) (M : pv_M) (f : Int32 → Option ρ) : pv_ldI pv_T 132 (nI i) M f = f (M.1 132 i) := ldI_n sa_132 hi M f
theorem st_132 {ρ : Type} {i : Nat} (hi : i < 3) (v : Int32) (M : pv_M) (f : pv_M → Option ρ) : pv_stI pv_T 132 (nI i) v M f = f (pv_u M.1 132 i v, M.2) := stI_n sa_132 hi v M f
theorem ld_133 {ρ : Type} {i : Nat} (hi : i < 3) (M : pv_M) (f : Int32 → Option ρ) : pv_ldI pv_T 133 (nI i) M f = f (M.1 133 i) := ldI_n sa_133 hi M f
theorem st_133 {ρ : Type} {i : Nat} (hi : i < 3) (v : Int32) (M : pv_M) (f : pv_M → Option ρ) : pv_stI pv_T 133 (nI i) v M f = f (pv_u M.1 133 i v, M.2) := stI_n sa_133 hi v M f
theorem ld_134 {ρ : Type} {i : Nat} (hi : i < 3) (M : pv_M) (f : Int32 → Option ρ) : pv_ldI pv_T 134 (nI i) M f = f (M.1 134 i) := ldI_n sa_134 hi M f
theorem st_134 {ρ : Type} {i : Nat} (hi : i < 3) (v : Int32) (M : pv_M) (f : pv_M → Option ρ) : pv_stI pv_T 134 (nI i) v M f = f (pv_u M.1 134 i v, M.2) := stI_n sa_134 hi v M f
theorem lr_135 {ρ : Type} {i : Nat} (hi : i < 10) (f : Nat → Option ρ) : pv_ldR pv_T 135 (nI i) f = f (136 + i) := ldR_n sa_135 hi f
theorem ld_136 {ρ : Type} {i : Nat} (hi : i < 3) (M : pv_M) (f : Int32 → Option ρ) : pv_ldI pv_T 136 (nI i) M f = f (M.1 136 i) := ldI_n sa_136 hi M f
theorem st_136 {ρ : Type} {i : Nat} (hi : i < 3) (v : Int32) (M : pv_M) (f : pv_M → Option ρ) : pv_stI pv_T 136 (nI i) v M f = f (pv_u M.1 136 i v, M.2) := stI_n sa_136 hi v M f
theorem ld_137 {ρ : Type} {i : Nat} (hi : i < 3) (M : pv_M) (f : Int32 → Option ρ) : pv_ldI pv_T 137 (nI i) M f = f (M.1 137 i) := ldI_n sa_137 hi M f
theorem st_137 {ρ : Type} {i : Nat} (hi : i < 3) (v : Int32) (M : pv_M) (f : pv_M → Option ρ) : pv_stI pv_T 137 (nI i) v M f = f (pv_u M.1 137 i v, M.2) := stI_n sa_137 hi v M f
theorem ld_138 {ρ : Type} {i : Nat} (hi : i < 3) (M : pv_M) (f : Int32 → Option ρ) : pv_ldI pv_T 138 (nI i) M f = f (M.1 138 i) := ldI_n sa_138 hi M f
theorem st_138 {ρ : Type} {i : Nat} (hi : i < 3) (v : Int32) (M : pv_M) (f : pv_M → Option ρ) : pv_stI pv_T 138 (nI i) v M f = f (pv_u M.1 138 i v, M.2) := stI_n sa_138 hi v M f
theorem ld_139 {ρ : Type} {i : Nat} (hi : i < 3) (M : pv_M) (f : Int32 → Option ρ) : pv_ldI pv_T 139 (nI i) M f = f (M.1 139 i) := ldI_n sa_139 hi M f
theorem st_139 {ρ : Type} {i : Nat} (hi : i < 3) (v : Int32) (M : pv_M) (f : pv_M → Option ρ) : pv_stI pv_T 139 (nI i) v M f = f (pv_u M.1 139 i v, M.2) := stI_n sa_139 hi v M f
theorem ld_140 {ρ : Type} {i : Nat} (hi : i < 3) (M : pv_M) (f : Int32 → Option ρ) : pv_ldI pv_T 140 (nI i) M f = f (M.1 140 i) := ldI_n sa_140 hi M f
theorem st_140 {ρ : Type} {i : Nat} (hi : i < 3) (v : Int32) (M : pv_M) (f : pv_M → Option ρ) : pv_stI pv_T 140 (nI i) v M f = f (pv_u M.1 140 i v, M.2) := stI_n sa_140 hi v M f
theorem ld_141 {ρ : Type} {i : Nat} (hi : i < 3) (M : pv_M) (f : Int32 → Option ρ) : pv_ldI pv_T 141 (nI i) M f = f (M.1 141 i) := ldI_n sa_141 hi M f
theorem st_141 {ρ : Type} {i : Nat} (hi : i < 3) (v : Int32) (M : pv_M) (f : pv_M → Option ρ) : pv_stI pv_T 141 (nI i) v M f = f (pv_u M.1 141 i v, M.2) := stI_n sa_141 hi v M f
theorem ld_142 {ρ : Type} {i : Nat} (hi : i < 3) (M : pv_M) (f : Int32 → Option ρ) : pv_ldI pv_T 142 (nI i) M f = f (M.1 142 i) := ldI_n sa_142 hi M f
theorem st_142 {ρ : Type} {i : Nat} (hi : i < 3) (v : Int32) (M : pv_M) (f : pv_M → Option ρ) : pv_stI pv_T 142 (nI i) v M f = f (pv_u M.1 142 i v, M.2) := stI_n sa_142 hi v M f
theorem ld_143 {ρ : Type} {i : Nat} (hi : i < 3) (M : pv_M) (f : Int32 → Option ρ) : pv_ldI pv_T 143 (nI i) M f = f (M.1 143 i) := ldI_n sa_143 hi M f
theorem st_143 {ρ : Type} {i : Nat} (hi : i < 3) (v : Int32) (M : pv_M) (f : pv_M → Option ρ) : pv_stI pv_T 143 (nI i) v M f = f (pv_u M.1 143 i v, M.2) := stI_n sa_143 hi v M f
theorem ld_144 {ρ : Type} {i : Nat} (hi : i < 3) (M : pv_M) (f : Int32 → Option ρ) : pv_ldI pv_T 144 (nI i) M f = f (M.1 144 i) := ldI_n sa_144 hi M f
theorem st_144 {ρ : Type} {i : Nat} (hi : i < 3) (v : Int32) (M : pv_M) (f : pv_M → Option ρ) : pv_stI pv_T 144 (nI i) v M f = f (pv_u M.1 144 i v, M.2) := stI_n sa_144 hi v M f
theorem ld_145 {ρ : Type} {i : Nat} (hi : i < 3) (M : pv_M) (f : Int32 → Option ρ) : pv_ldI pv_T 145 (nI i) M f = f (M.1 145 i) := ldI_n sa_145 hi M f
theorem st_145 {ρ : Type} {i : Nat} (hi : i < 3) (v : Int32) (M : pv_M) (f : pv_M → Option ρ) : pv_stI pv_T 145 (nI i) v M f = f (pv_u M.1 145 i v, M.2) := stI_n sa_145 hi v M f
theorem lr_146 {ρ : Type} {i : Nat} (hi : i < 10) (f : Nat → Option ρ) : pv_ldR pv_T 146 (nI i) f = f (147 + i) := ldR_n sa_146 hi f
theorem ld_147 {ρ : Type} {i : Nat} (hi : i < 12) (M : pv_M) (f : Int32 → Option ρ) : pv_ldI pv_T 147 (nI i) M f = f (M.1 147 i) := ldI_n sa_147 hi M f
theorem st_147 {ρ : Type} {i : Nat} (hi : i < 12) (v : Int32) (M : pv_M) (f : pv_M → Option ρ) : pv_stI pv_T 147 (nI i) v M f = f (pv_u M.1 147 i v, M.2) := stI_n sa_147 hi v M f
theorem ld_148 {ρ : Type} {i : Nat} (hi : i < 12) (M : pv_M) (f : Int32 → Option ρ) : pv_ldI pv_T 148 (nI i) M f = f (M.1 148 i) := ldI_n sa_148 hi M f
theorem st_148 {ρ : Type} {i : Nat} (hi : i < 12) (v : Int32) (M : pv_M) (f : pv_M → Option ρ) : pv_stI pv_T 148 (nI i) v M f = f (pv_u M.1 148 i v, M.2) := stI_n sa_148 hi v M f
theorem ld_149 {ρ : Type} {i : Nat} (hi : i < 12) (M : pv_M) (f : Int32 → Option ρ) : pv_ldI pv_T 149 (nI i) M f = f (M.1 149 i) := ldI_n sa_149 hi M f
theorem st_149 {ρ : Type} {i : Nat} (hi : i < 12) (v : Int32) (M : pv_M) (f : pv_M → Option ρ) : pv_stI pv_T 149 (nI i) v M f = f (pv_u M.1 149 i v, M.2) := stI_n sa_149 hi v M f
theorem ld_150 {ρ : Type} {i : Nat} (hi : i < 12) (M : pv_M) (f : Int32 → Option ρ) : pv_ldI pv_T 150 (nI i) M f = f (M.1 150 i) := ldI_n sa_150 hi M f
theorem st_150 {ρ : Type} {i : Nat} (hi : i < 12) (v : Int32) (M : pv_M) (f : pv_M → Option ρ) : pv_stI pv_T 150 (nI i) v M f = f (pv_u M.1 150 i v, M.2) := stI_n sa_150 hi v M f
theorem ld_151 {ρ : Type} {i : Nat} (hi : i < 12) (M : pv_M) (f : Int32 → Option ρ) : pv_ldI pv_T 151 (nI i) M f = f (M.1 151 i) := ldI_n sa_151 hi M f
theorem st_151 {ρ : Type} {i : Nat} (hi : i < 12) (v : Int32) (M : pv_M) (f : pv_M → Option ρ) : pv_stI pv_T 151 (nI i) v M f = f (pv_u M.1 151 i v, M.2) := stI_n sa_151 hi v M f
theorem ld_152 {ρ : Type} {i : Nat} (hi : i < 12) (M : pv_M) (f : Int32 → Option ρ) : pv_ldI pv_T 152 (nI i) M f = f (M.1 152 i) := ldI_n sa_152 hi M f
theorem st_152 {ρ : Type} {i : Nat} (hi : i < 12) (v : Int32) (M : pv_M) (f : pv_M → Option ρ) : pv_stI pv_T 152 (nI i) v M f = f (pv_u M.1 152 i v, M.2) := stI_n sa_152 hi v M f
theorem ld_153 {ρ : Type} {i : Nat} (hi : i < 12) (M : pv_M) (f : Int32 → Option ρ) : pv_ldI pv_T 153 (nI i) M f = f (M.1 153 i) := ldI_n sa_153 hi M f
theorem st_153 {ρ : Type} {i : Nat} (hi : i < 12) (v : Int32) (M : pv_M) (f : pv_M → Option ρ) : pv_stI pv_T 153 (nI i) v M f = f (pv_u M.1 153 i v, M.2) := stI_n sa_153 hi v M f
theorem ld_154 {ρ : Type} {i : Nat} (hi : i < 12) (M : pv_M) (f : Int32 → Option ρ) : pv_ldI pv_T 154 (nI i) M f = f (M.1 154 i) := ldI_n sa_154 hi M f
theorem st_154 {ρ : Type} {i : Nat} (hi : i < 12) (v : Int32) (M : pv_M) (f : pv_M → Option ρ) : pv_stI pv_T 154 (nI i) v M f = f (pv_u M.1 154 i v, M.2) := stI_n sa_154 hi v M f
theorem ld_155 {ρ : Type} {i : Nat} (hi : i < 12) (M : pv_M) (f : Int32 → Option ρ) : pv_ldI pv_T 155 (nI i) M f = f (M.1 155 i) := ldI_n sa_155 hi M f
theorem st_155 {ρ : Type} {i : Nat} (hi : i < 12) (v : Int32) (M : pv_M) (f : pv_M → Option ρ) : pv_stI pv_T 155 (nI i) v M f = f (pv_u M.1 155 i v, M.2) := stI_n sa_155 hi v M f
theorem ld_156 {ρ : Type} {i : Nat} (hi : i < 12) (M : pv_M) (f : Int32 → Option ρ) : pv_ldI pv_T 156 (nI i) M f = f (M.1 156 i) := ldI_n sa_156 hi M f
theorem st_156 {ρ : Type} {i : Nat} (hi : i < 12) (v : Int32) (M : pv_M) (f : pv_M → Option ρ) : pv_stI pv_T 156 (nI i) v M f = f (pv_u M.1 156 i v, M.2) := stI_n sa_156 hi v M f
theorem ld_157 {ρ : Type} {i : Nat} (hi : i < 4) (M : pv_M) (f : Int32 → Option ρ) : pv_ldI pv_T 157 (nI i) M f = f (M.1 157 i) := ldI_n sa_157 hi M f
theorem st_157 {ρ : Type} {i : Nat} (hi : i < 4) (v : Int32) (M : pv_M) (f : pv_M → Option ρ) : pv_stI pv_T 157 (nI i) v M f = f (pv_u M.1 157 i v, M.2) := stI_n sa_157 hi v M f
theorem ld_159 {ρ : Type} {i : Nat} (hi : i < 4) (M : pv_M) (f : Int32 → Option ρ) : pv_ldI pv_T 159 (nI i) M f = f (M.1 159 i) := ldI_n sa_159 hi M f
theorem st_159 {ρ : Type} {i : Nat} (hi : i < 4) (v : Int32) (M : pv_M) (f : pv_M → Option ρ) : pv_stI pv_T 159 (nI i) v M f = f (pv_u M.1 159 i v, M.2) := stI_n sa_159 hi v M f
theorem ld_160 {ρ : Type} {i : Nat} (hi : i < 4) (M : pv_M) (f : Int32 → Option ρ) : pv_ldI pv_T 160 (nI i) M f = f (M.1 160 i) := ldI_n sa_160 hi M f
theorem st_160 {ρ : Type} {i : Nat} (hi : i < 4) (v : Int32) (M : pv_M) (f : pv_M → Option ρ) : pv_stI pv_T 160 (nI i) v M f = f (pv_u M.1 160 i v, M.2) := stI_n sa_160 hi v M f
theorem ld_161 {ρ : Type} {i : Nat} (hi : i < 4) (M : pv_M) (f : Int32 → Option ρ) : pv_ldI pv_T 161 (nI i) M f = f (M.1 161 i) := ldI_n sa_161 hi M f
theorem st_161 {ρ : Type} {i : Nat} (hi : i < 4) (v : Int32) (M : pv_M) (f : pv_M → Option ρ) : pv_stI pv_T 161 (nI i) v M f = f (pv_u M.1 161 i v, M.2) := stI_n sa_161 hi v M f
theorem lr_162 {ρ : Type} {i : Nat} (hi : i < 6) (f : Nat → Option ρ) : pv_ldR pv_T 162 (nI i) f = f (163 + i) := ldR_n sa_162 hi f
theorem ld_163 {ρ : Type} {i : Nat} (hi : i < 4) (M : pv_M) (f : Int32 → Option ρ) : pv_ldI pv_T 163 (nI i) M f = f (M.1 163 i) := ldI_n sa_163 hi M f
theorem st_163 {ρ : Type} {i : Nat} (hi : i < 4) (v : Int32) (M : pv_M) (f : pv_M → Option ρ) : pv_stI pv_T 163 (nI i) v M f = f (pv_u M.1 163 i v, M.2) := stI_n sa_163 hi v M f
theorem ld_164 {ρ : Type} {i : Nat} (hi : i < 4) (M : pv_M) (f : Int32 → Option ρ) : pv_ldI pv_T 164 (nI i) M f = f (M.1 164 i) := ldI_n sa_164 hi M f
theorem st_164 {ρ : Type} {i : Nat} (hi : i < 4) (v : Int32) (M : pv_M) (f : pv_M → Option ρ) : pv_stI pv_T 164 (nI i) v M f = f (pv_u M.1 164 i v, M.2) := stI_n sa_164 hi v M f
theorem ld_165 {ρ : Type} {i : Nat} (hi : i < 4) (M : pv_M) (f : Int32 → Option ρ) : pv_ldI pv_T 165 (nI i) M f = f (M.1 165 i) := ldI_n sa_165 hi M f
theorem st_165 {ρ : Type} {i : Nat} (hi : i < 4) (v : Int32) (M : pv_M) (f : pv_M → Option ρ) : pv_stI pv_T 165 (nI i) v M f = f (pv_u M.1 165 i v, M.2) := stI_n sa_165 hi v M f
theorem ld_166 {ρ : Type} {i : Nat} (hi : i < 4) (M : pv_M) (f : Int32 → Option ρ) : pv_ldI pv_T 166 (nI i) M f = f (M.1 166 i) := ldI_n sa_166 hi M f
theorem st_166 {ρ : Type} {i : Nat} (hi : i < 4) (v : Int32) (M : pv_M) (f : pv_M → Option ρ) : pv_stI pv_T 166 (nI i) v M f = f (pv_u M.1 166 i v, M.2) := stI_n sa_166 hi v M f
theorem ld_167 {ρ : Type} {i : Nat} (hi : i < 4) (M : pv_M) (f : Int32 → Option ρ) : pv_ldI pv_T 167 (nI i) M f = f (M.1 167 i) := ldI_n sa_167 hi M f
theorem st_167 {ρ : Type} {i : Nat} (hi : i < 4) (v : Int32) (M : pv_M) (f : pv_M → Option ρ) : pv_stI pv_T 167 (nI i) v M f = f (pv_u M.1 167 i v, M.2) := stI_n sa_167 hi v M f
theorem ld_168 {ρ : Type} {i : Nat} (hi : i < 4) (M : pv_M) (f : Int32 → Option ρ) : pv_ldI pv_T 168 (nI i) M f = f (M.1 168 i) := ldI_n sa_168 hi M f
theorem st_168 {ρ : Type} {i : Nat} (hi : i < 4) (v : Int32) (M : pv_M) (f : pv_M → Option ρ) : pv_stI pv_T 168 (nI i) v M f = f (pv_u M.1 168 i v, M.2) := stI_n sa_168 hi v M f
theorem ld_169 {ρ : Type} {i : Nat} (hi : i < 6) (M : pv_M) (f : Int32 → Option ρ) : pv_ldI pv_T 169 (nI i) M f = f (M.1 169 i) := ldI_n sa_169 hi M f
theorem st_169 {ρ : Type} {i : Nat} (hi : i < 6) (v : Int32) (M : pv_M) (f : pv_M → Option ρ) : pv_stI pv_T 169 (nI i) v M f = f (pv_u M.1 169 i v, M.2) := stI_n sa_169 hi v M f
theorem ld_170 {ρ : Type} {i : Nat} (hi : i < 108) (M : pv_M) (f : Int32 → Option ρ) : pv_ldI pv_T 170 (nI i) M f = f (M.1 170 i) := ldI_n sa_170 hi M f
theorem st_170 {ρ : Type} {i : Nat} (hi : i < 108) (v : Int32) (M : pv_M) (f : pv_M → Option ρ) : pv_stI pv_T 170 (nI i) v M f = f (pv_u M.1 170 i v, M.2) := stI_n sa_170 hi v M f
theorem ld_171 {ρ : Type} {i : Nat} (hi : i < 4) (M : pv_M) (f : Int32 → Option ρ) : pv_ldI pv_T 171 (nI i) M f = f (M.1 171 i) := ldI_n sa_171 hi M f
theorem st_171 {ρ : Type} {i : Nat} (hi : i < 4) (v : Int32) (M : pv_M) (f : pv_M → Option ρ) : pv_stI pv_T 171 (nI i) v M f = f (pv_u M.1 171 i v, M.2) := stI_n sa_171 hi v M f
theorem ld_172 {ρ : Type} {i : Nat} (hi : i < 4) (M : pv_M) (f : Int32 → Option ρ) : pv_ldI pv_T 172 (nI i) M f = f (M.1 172 i) := ldI_n sa_172 hi M f
theorem st_172 {ρ : Type} {i : Nat} (hi : i < 4) (v : Int32) (M : pv_M) (f : pv_M → Option ρ) : pv_stI pv_T 172 (nI i) v M f = f (pv_u M.1 172 i v, M.2) := stI_n sa_172 hi v M f
theorem ld_173 {ρ : Type} {i : Nat} (hi : i < 4) (M : pv_M) (f : Int32 → Option ρ) : pv_ldI pv_T 173 (nI i) M f = f (M.1 173 i) := ldI_n sa_173 hi M f
theorem st_173 {ρ : Type} {i : Nat} (hi : i < 4) (v : Int32) (M : pv_M) (f : pv_M → Option ρ) : pv_stI pv_T 173 (nI i) v M f = f (pv_u M.1 173 i v, M.2) := stI_n sa_173 hi v M f
theorem lr_174 {ρ : Type} {i : Nat} (hi : i < 4) (f : Nat → Option ρ) : pv_ldR pv_T 174 (nI i) f = f (175 + i) := ldR_n sa_174 hi f
theorem ld_175 {ρ : Type} {i : Nat} (hi : i < 4) (M : pv_M) (f : Int32 → Option ρ) : pv_ldI pv_T 175 (nI i) M f = f (M.1 175 i) := ldI_n sa_175 hi M f
theorem st_175 {ρ : Type} {i : Nat} (hi : i < 4) (v : Int32) (M : pv_M) (f : pv_M → Option ρ) : pv_stI pv_T 175 (nI i) v M f = f (pv_u M.1 175 i v, M.2) := stI_n sa_175 hi v M f
theorem ld_176 {ρ : Type} {i : Nat} (hi : i < 4) (M : pv_M) (f : Int32 → Option ρ) : pv_ldI pv_T 176 (nI i) M f = f (M.1 176 i) := ldI_n sa_176 hi M f
theorem st_176 {ρ : Type} {i : Nat} (hi : i < 4) (v : Int32) (M : pv_M) (f : pv_M → Option ρ) : pv_stI pv_T 176 (nI i) v M f = f (pv_u M.1 176 i v, M.2) := stI_n sa_176 hi v M f
theorem ld_177 {ρ : Type} {i : Nat} (hi : i < 4) (M : pv_M) (f : Int32 → Option ρ) : pv_ldI pv_T 177 (nI i) M f = f (M.1 177 i) := ldI_n sa_177 hi M f
theorem st_177 {ρ : Type} {i : Nat} (hi : i < 4) (v : Int32) (M : pv_M) (f : pv_M → Option ρ) : pv_stI pv_T 177 (nI i) v M f = f (pv_u M.1 177 i v, M.2) := stI_n sa_177 hi v M f
theorem ld_178 {ρ : Type} {i : Nat} (hi : i < 4) (M : pv_M) (f : Int32 → Option ρ) : pv_ldI pv_T 178 (nI i) M f = f (M.1 178 i) := ldI_n sa_178 hi M f
theorem st_178 {ρ : Type} {i : Nat} (hi : i < 4) (v : Int32) (M : pv_M) (f : pv_M → Option ρ) : pv_stI pv_T 178 (nI i) v M f = f (pv_u M.1 178 i v, M.2) := stI_n sa_178 hi v M f
theorem ld_180 {ρ : Type} {i : Nat} (hi : i < 6) (M : pv_M) (f : Int32 → Option ρ) : pv_ldI pv_T 180 (nI i) M f = f (M.1 180 i) := ldI_n sa_180 hi M f
theorem st_180 {ρ : Type} {i : Nat} (hi : i < 6) (v : Int32) (M : pv_M) (f : pv_M → Option ρ) : pv_stI pv_T 180 (nI i) v M f = f (pv_u M.1 180 i v, M.2) := stI_n sa_180 hi v M f
theorem ld_181 {ρ : Type} {i : Nat} (hi : i < 6) (M : pv_M) (f : Int64 → Option ρ) : pv_ldL pv_T 181 (nI i) M f = f (M.2 181 i) := ldL_n sa_181 hi M f
theorem st_181 {ρ : Type} {i : Nat} (hi : i < 6) (v : Int64) (M : pv_M) (f : pv_M → Option ρ) : pv_stL pv_T 181 (nI i) v M f = f (M.1, pv_u M.2 181 i v) := stL_n sa_181 hi v M f
theorem ld_182 {ρ : Type} {i : Nat} (hi : i < 6) (M : pv_M) (f : Int64 → Option ρ) : pv_ldL pv_T 182 (nI i) M f = f (M.2 182 i) := ldL_n sa_182 hi M f
theorem st_182 {ρ : Type} {i : Nat} (hi : i < 6) (v : Int64) (M : pv_M) (f : pv_M → Option ρ) : pv_stL pv_T 182 (nI i) v M f = f (M.1, pv_u M.2 182 i v) := stL_n sa_182 hi v M f
theorem ld_184 {ρ : Type} {i : Nat} (hi : i < 4) (M : pv_M) (f : Int32 → Option ρ) : pv_ldI pv_T 184 (nI i) M f = f (M.1 184 i) := ldI_n sa_184 hi M f
theorem st_184 {ρ : Type} {i : Nat} (hi : i < 4) (v : Int32) (M : pv_M) (f : pv_M → Option ρ) : pv_stI pv_T 184 (nI i) v M f = f (pv_u M.1 184 i v, M.2) := stI_n sa_184 hi v M f
theorem ld_185 {ρ : Type} {i : Nat} (hi : i < 4) (M : pv_M) (f : Int32 → Option ρ) : pv_ldI pv_T 185 (nI i) M f = f (M.1 185 i) := ldI_n sa_185 hi M f
theorem st_185 {ρ : Type} {i : Nat} (hi : i < 4) (v : Int32) (M : pv_M) (f : pv_M → Option ρ) : pv_stI pv_T 185 (nI i) v M f = f (pv_u M.1 185 i v, M.2) := stI_n sa_185 hi v M f
theorem ld_186 {ρ : Type} {i : Nat} (hi : i < 16) (M : pv_M) (f : Int32 → Option ρ) : pv_ldI pv_T 186 (nI i) M f = f (M.1 186 i) := ldI_n sa_186 hi M f
theorem st_186 {ρ : Type} {i : Nat} (hi : i < 16) (v : Int32) (M : pv_M) (f : pv_M → Option ρ) : pv_stI pv_T 186 (nI i) v M f = f (pv_u M.1 186 i v, M.2) := stI_n sa_186 hi v M f
theorem ld_187 {ρ : Type} {i : Nat} (hi : i < 16) (M : pv_M) (f : Int32 → Option ρ) : pv_ldI pv_T 187 (nI i) M f = f (M.1 187 i) := ldI_n sa_187 hi M f
theorem st_187 {ρ : Type} {i : Nat} (hi : i < 16) (v : Int32) (M : pv_M) (f : pv_M → Option ρ) : pv_stI pv_T 187 (nI i) v M f = f (pv_u M.1 187 i v, M.2) := stI_n sa_187 hi v M f
theorem ld_189 {ρ : Type} {i : Nat} (hi : i < 4) (M : pv_M) (f : Int32 → Option ρ) : pv_ldI pv_T 189 (nI i) M f = f (M.1 189 i) := ldI_n sa_189 hi M f
theorem st_189 {ρ : Type} {i : Nat} (hi : i < 4) (v : Int32) (M : pv_M) (f : pv_M → Option ρ) : pv_stI pv_T 189 (nI i) v M f = f (pv_u M.1 189 i v, M.2) := stI_n sa_189 hi v M f
theorem ld_190 {ρ : Type} {i : Nat} (hi : i < 4) (M : pv_M) (f : Int32 → Option ρ) : pv_ldI pv_T 190 (nI i) M f = f (M.1 190 i) := ldI_n sa_190 hi M f
theorem st_190 {ρ : Type} {i : Nat} (hi : i < 4) (v : Int32) (M : pv_M) (f : pv_M → Option ρ) : pv_stI pv_T 190 (nI i) v M f = f (pv_u M.1 190 i v, M.2) := stI_n sa_190 hi v M f
theorem lr_191 {ρ : Type} {i : Nat} (hi : i < 4) (f : Nat → Option ρ) : pv_ldR pv_T 191 (nI i) f = f (192 + i) := ldR_n sa_191 hi f
theorem ld_192 {ρ : Type} {i : Nat} (hi : i < 60) (M : pv_M) (f : Int32 → Option ρ) : pv_ldI pv_T 192 (nI i) M f = f (M.1 192 i) := ldI_n sa_192 hi M f
theorem st_192 {ρ : Type} {i : Nat} (hi : i < 60) (v : Int32) (M : pv_M) (f : pv_M → Option ρ) : pv_stI pv_T 192 (nI i) v M f = f (pv_u M.1 192 i v, M.2) := stI_n sa_192 hi v M f
theorem ld_193 {ρ : Type} {i : Nat} (hi : i < 60) (M : pv_M) (f : Int32 → Option ρ) : pv_ldI pv_T 193 (nI i) M f = f (M.1 193 i) := ldI_n sa_193 hi M f
theorem st_193 {ρ : Type} {i : Nat} (hi : i < 60) (v : Int32) (M : pv_M) (f : pv_M → Option ρ) : pv_stI pv_T 193 (nI i) v M f = f (pv_u M.1 193 i v, M.2) := stI_n sa_193 hi v M f
theorem ld_194 {ρ : Type} {i : Nat} (hi : i < 60) (M : pv_M) (f : Int32 → Option ρ) : pv_ldI pv_T 194 (nI i) M f = f (M.1 194 i) := ldI_n sa_194 hi M f
theorem st_194 {ρ : Type} {i : Nat} (hi : i < 60) (v : Int32) (M : pv_M) (f : pv_M → Option ρ) : pv_stI pv_T 194 (nI i) v M f = f (pv_u M.1 194 i v, M.2) := stI_n sa_194 hi v M f
theorem ld_195 {ρ : Type} {i : Nat} (hi : i < 60) (M : pv_M) (f : Int32 → Option ρ) : pv_ldI pv_T 195 (nI i) M f = f (M.1 195 i) := ldI_n sa_195 hi M f
theorem st_195 {ρ : Type} {i : Nat} (hi : i < 60) (v : Int32) (M : pv_M) (f : pv_M → Option ρ) : pv_stI pv_T 195 (nI i) v M f = f (pv_u M.1 195 i v, M.2) := stI_n sa_195 hi v M f
theorem ld_197 {ρ : Type} {i : Nat} (hi : i < 4) (M : pv_M) (f : Int32 → Option ρ) : pv_ldI pv_T 197 (nI i) M f = f (M.1 197 i) := ldI_n sa_197 hi M f
theorem st_197 {ρ : Type} {i : Nat} (hi : i < 4) (v : Int32) (M : pv_M) (f : pv_M → Option ρ) : pv_stI pv_T 197 (nI i) v M f = f (pv_u M.1 197 i v, M.2) := stI_n sa_197 hi v M f
theorem ld_198 {ρ : Type} {i : Nat} (hi : i < 4) (M : pv_M) (f : Int32 → Option ρ) : pv_ldI pv_T 198 (nI i) M f = f (M.1 198 i) := ldI_n sa_198 hi M f
theorem st_198 {ρ : Type} {i : Nat} (hi : i < 4) (v : Int32) (M : pv_M) (f : pv_M → Option ρ) : pv_stI pv_T 198 (nI i) v M f = f (pv_u M.1 198 i v, M.2) := stI_n sa_198 hi v M f
theorem ld_199 {ρ : Type} {i : Nat} (hi : i < 240) (M : pv_M) (f : Int32 → Option ρ) : pv_ldI pv_T 199 (nI i) M f = f (M.1 199 i) := ldI_n sa_199 hi M f
theorem st_199 {ρ : Type} {i : Nat} (hi : i < 240) (v : Int32) (M : pv_M) (f : pv_M → Option ρ) : pv_stI pv_T 199 (nI i) v M f = f (pv_u M.1 199 i v, M.2) := stI_n sa_199 hi v M f
theorem ld_200 {ρ : Type} {i : Nat} (hi : i < 60) (M : pv_M) (f : Int32 → Option ρ) : pv_ldI pv_T 200 (nI i) M f = f (M.1 200 i) := ldI_n sa_200 hi M f
theorem st_200 {ρ : Type} {i : Nat} (hi : i < 60) (v : Int32) (M : pv_M) (f : pv_M → Option ρ) : pv_stI pv_T 200 (nI i) v M f = f (pv_u M.1 200 i v, M.2) := stI_n sa_200 hi v M f
theorem ld_201 {ρ : Type} {i : Nat} (hi : i < 120) (M : pv_M) (f : Int32 → Option ρ) : pv_ldI pv_T 201 (nI i) M f = f (M.1 201 i) := ldI_n sa_201 hi M f
theorem st_201 {ρ : Type} {i : Nat} (hi : i < 120) (v : Int32) (M : pv_M) (f : pv_M → Option ρ) : pv_stI pv_T 201 (nI i) v M f = f (pv_u M.1 201 i v, M.2) := stI_n sa_201 hi v M f
theorem ld_202 {ρ : Type} {i : Nat} (hi : i < 3) (M : pv_M) (f : Int32 → Option ρ) : pv_ldI pv_T 202 (nI i) M f = f (M.1 202 i) := ldI_n sa_202 hi M f
theorem st_202 {ρ : Type} {i : Nat} (hi : i < 3) (v : Int32) (M : pv_M) (f : pv_M → Option ρ) : pv_stI pv_T 202 (nI i) v M f = f (pv_u M.1 202 i v, M.2) := stI_n sa_202 hi v M f
theorem ld_203 {ρ : Type} {i : Nat} (hi : i < 3) (M : pv_M) (f : Int32 → Option ρ) : pv_ldI pv_T 203 (nI i) M f = f (M.1 203 i) := ldI_n sa_203 hi M f
theorem st_203 {ρ : Type} {i : Nat} (hi : i < 3) (v : Int32) (M : pv_M) (f : pv_M → Option ρ) : pv_stI pv_T 203 (nI i) v M f = f (pv_u M.1 203 i v, M.2) := stI_n sa_203 hi v M f
theorem ld_204 {ρ : Type} {i : Nat} (hi : i < 72) (M : pv_M) (f : Int32 → Option ρ) : pv_ldI pv_T 204 (nI i) M f = f (M.1 204 i) := ldI_n sa_204 hi M f
theorem st_204 {ρ : Type} {i : Nat} (hi : i < 72) (v : Int32) (M : pv_M) (f : pv_M → Option ρ) : pv_stI pv_T 204 (nI i) v M f = f (pv_u M.1 204 i v, M.2) := stI_n sa_204 hi v M f
theorem ld_205 {ρ : Type} {i : Nat} (hi : i < 2) (M : pv_M) (f : Int32 → Option ρ) : pv_ldI pv_T 205 (nI i) M f = f (M.1 205 i) := ldI_n sa_205 hi M f
theorem st_205 {ρ : Type} {i : Nat} (hi : i < 2) (v : Int32) (M : pv_M) (f : pv_M → Option ρ) : pv_stI pv_T 205 (nI i) v M f = f (pv_u M.1 205 i v, M.2) := stI_n sa_205 hi v M f
theorem ld_206 {ρ : Type} {i : Nat} (hi : i < 8) (M : pv_M) (f : Int32 → Option ρ) : pv_ldI pv_T 206 (nI i) M f = f (M.1 206 i) := ldI_n sa_206 hi M f
theorem st_206 {ρ : Type} {i : Nat} (hi : i < 8) (v : Int32) (M : pv_M) (f : pv_M → Option ρ) : pv_stI pv_T 206 (nI i) v M f = f (pv_u M.1 206 i v, M.2) := stI_n sa_206 hi v M f
theorem ld_207 {ρ : Type} {i : Nat} (hi : i < 40) (M : pv_M) (f : Int32 → Option ρ) : pv_ldI pv_T 207 (nI i) M f = f (M.1 207 i) := ldI_n sa_207 hi M f
theorem st_207 {ρ : Type} {i : Nat} (hi : i < 40) (v : Int32) (M : pv_M) (f : pv_M → Option ρ) : pv_stI pv_T 207 (nI i) v M f = f (pv_u M.1 207 i v, M.2) := stI_n sa_207 hi v M f
theorem ld_208 {ρ : Type} {i : Nat} (hi : i < 30) (M : pv_M) (f : Int32 → Option ρ) : pv_ldI pv_T 208 (nI i) M f = f (M.1 208 i) := ldI_n sa_208 hi M f
theorem st_208 {ρ : Type} {i : Nat} (hi : i < 30) (v : Int32) (M : pv_M) (f : pv_M → Option ρ) : pv_stI pv_T 208 (nI i) v M f = f (pv_u M.1 208 i v, M.2) := stI_n sa_208 hi v M f
theorem ld_209 {ρ : Type} {i : Nat} (hi : i < 120) (M : pv_M) (f : Int32 → Option ρ) : pv_ldI pv_T 209 (nI i) M f = f (M.1 209 i) := ldI_n sa_209 hi M f
theorem st_209 {ρ : Type} {i : Nat} (hi : i < 120) (v : Int32) (M : pv_M) (f : pv_M → Option ρ) : pv_stI pv_T 209 (nI i) v M f = f (pv_u M.1 209 i v, M.2) := stI_n sa_209 hi v M f
theorem ld_210 {ρ : Type} {i : Nat} (hi : i < 30) (M : pv_M) (f : Int32 → Option ρ) : pv_ldI pv_T 210 (nI i) M f = f (M.1 210 i) := ldI_n sa_210 hi M f
theorem st_210 {ρ : Type} {i : Nat} (hi : i < 30) (v : Int32) (M : pv_M) (f : pv_M → Option ρ) : pv_stI pv_T 210 (nI i) v M f = f (pv_u M.1 210 i v, M.2) := stI_n sa_210 hi v M f
theorem ld_211 {ρ : Type} {i : Nat} (hi : i < 48) (M : pv_M) (f : Int32 → Option ρ) : pv_ldI pv_T 211 (nI i) M f = f (M.1 211 i) := ldI_n sa_211 hi M f
theorem st_211 {ρ : Type} {i : Nat} (hi : i < 48) (v : Int32) (M : pv_M) (f : pv_M → Option ρ) : pv_stI pv_T 211 (nI i) v M f = f (pv_u M.1 211 i v, M.2) := stI_n sa_211 hi v M f
theorem ld_212 {ρ : Type} {i : Nat} (hi : i < 8) (M : pv_M) (f : Int32 → Option ρ) : pv_ldI pv_T 212 (nI i) M f = f (M.1 212 i) := ldI_n sa_212 hi M f
theorem st_212 {ρ : Type} {i : Nat} (hi : i < 8) (v : Int32) (M : pv_M) (f : pv_M → Option ρ) : pv_stI pv_T 212 (nI i) v M f = f (pv_u M.1 212 i v, M.2) := stI_n sa_212 hi v M f
theorem ld_213 {ρ : Type} {i : Nat} (hi : i < 4) (M : pv_M) (f : Int32 → Option ρ) : pv_ldI pv_T 213 (nI i) M f = f (M.1 213 i) := ldI_n sa_213 hi M f
theorem st_213 {ρ : Type} {i : Nat} (hi : i < 4) (v : Int32) (M : pv_M) (f : pv_M → Option ρ) : pv_stI pv_T 213 (nI i) v M f = f (pv_u M.1 213 i v, M.2) := stI_n sa_213 hi v M f
theorem ld_214 {ρ : Type} {i : Nat} (hi : i < 8) (M : pv_M) (f : Int32 → Option ρ) : pv_ldI pv_T 214 (nI i) M f = f (M.1 214 i) := ldI_n sa_214 hi M f
theorem st_214 {ρ : Type} {i : Nat} (hi : i < 8) (v : Int32) (M : pv_M) (f : pv_M → Option ρ) : pv_stI pv_T 214 (nI i) v M f = f (pv_u M.1 214 i v, M.2) := stI_n sa_214 hi v M f
theorem ld_215 {ρ : Type} {i : Nat} (hi : i < 2) (M : pv_M) (f : Int32 → Option ρ) : pv_ldI pv_T 215 (nI i) M f = f (M.1 215 i) := ldI_n sa_215 hi M f
theorem st_215 {ρ : Type} {i : Nat} (hi : i < 2) (v : Int32) (M : pv_M) (f : pv_M → Option ρ) : pv_stI pv_T 215 (nI i) v M f = f (pv_u M.1 215 i v, M.2) := stI_n sa_215 hi v M f
theorem ld_216 {ρ : Type} {i : Nat} (hi : i < 6) (M : pv_M) (f : Int32 → Option ρ) : pv_ldI pv_T 216 (nI i) M f = f (M.1 216 i) := ldI_n sa_216 hi M f
theorem st_216 {ρ : Type} {i : Nat} (hi : i < 6) (v : Int32) (M : pv_M) (f : pv_M → Option ρ) : pv_stI pv_T 216 (nI i) v M f = f (pv_u M.1 216 i v, M.2) := stI_n sa_216 hi v M f
theorem ld_217 {ρ : Type} {i : Nat} (hi : i < 6) (M : pv_M) (f : Int64 → Option ρ) : pv_ldL pv_T 217 (nI i) M f = f (M.2 217 i) := ldL_n sa_217 hi M f
theorem st_217 {ρ : Type} {i : Nat} (hi : i < 6) (v : Int64) (M : pv_M) (f : pv_M → Option ρ) : pv_stL pv_T 217 (nI i) v M f = f (M.1, pv_u M.2 217 i v) := stL_n sa_217 hi v M f
theorem ld_218 {ρ : Type} {i : Nat} (hi : i < 6) (M : pv_M) (f : Int64 → Option ρ) : pv_ldL pv_T 218 (nI i) M f = f (M.2 218 i) := ldL_n sa_218 hi M f
theorem st_218 {ρ : Type} {i : Nat} (hi : i < 6) (v : Int64) (M : pv_M) (f : pv_M → Option ρ) : pv_stL pv_T 218 (nI i) v M f = f (M.1, pv_u M.2 218 i v) := stL_n sa_218 hi v M f
theorem ld_219 {ρ : Type} {i : Nat} (hi : i < 32) (M : pv_M) (f : Int32 → Option ρ) : pv_ldI pv_T 219 (nI i) M f = f (M.1 219 i) := ldI_n sa_219 hi M f
theorem st_219 {ρ : Type} {i : Nat} (hi : i < 32) (v : Int32) (M : pv_M) (f : pv_M → Option ρ) : pv_stI pv_T 219 (nI i) v M f = f (pv_u M.1 219 i v, M.2) := stI_n sa_219 hi v M f
theorem ld_220 {ρ : Type} {i : Nat} (hi : i < 4) (M : pv_M) (f : Int32 → Option ρ) : pv_ldI pv_T 220 (nI i) M f = f (M.1 220 i) := ldI_n sa_220 hi M f
theorem st_220 {ρ : Type} {i : Nat} (hi : i < 4) (v : Int32) (M : pv_M) (f : pv_M → Option ρ) : pv_stI pv_T 220 (nI i) v M f = f (pv_u M.1 220 i v, M.2) := stI_n sa_220 hi v M f
theorem ld_221 {ρ : Type} {i : Nat} (hi : i < 18) (M : pv_M) (f : Int32 → Option ρ) : pv_ldI pv_T 221 (nI i) M f = f (M.1 221 i) := ldI_n sa_221 hi M f
theorem st_221 {ρ : Type} {i : Nat} (hi : i < 18) (v : Int32) (M : pv_M) (f : pv_M → Option ρ) : pv_stI pv_T 221 (nI i) v M f = f (pv_u M.1 221 i v, M.2) := stI_n sa_221 hi v M f
theorem sf_9 {i : Nat} (hi : i < 10) : pv_SH (9 + i) = (0, 4) := (show ∀ i, i < 10 → pv_SH (9 + i) = (0, 4) by decide +kernel) i hi
theorem lf_9 {ρ : Type} {i j : Nat} (hi : i < 10) (hj : j < 4) (M : pv_M) (f : Int32 → Option ρ) : pv_ldI pv_T (9 + i) (nI j) M f = f (M.1 (9 + i) j) := ldI_n (sf_9 hi) hj M f
theorem tf_9 {ρ : Type} {i j : Nat} (hi : i < 10) (hj : j < 4) (v : Int32) (M : pv_M) (f : pv_M → Option ρ) : pv_stI pv_T (9 + i) (nI j) v M f = f (pv_u M.1 (9 + i) j v, M.2) := stI_n (sf_9 hi) hj v M f
theorem sf_21 {i : Nat} (hi : i < 8) : pv_SH (21 + i) = (0, 6) := (show ∀ i, i < 8 → pv_SH (21 + i) = (0, 6) by decide +kernel) i hi
theorem lf_21 {ρ : Type} {i j : Nat} (hi : i < 8) (hj : j < 6) (M : pv_M) (f : Int32 → Option ρ) : pv_ldI pv_T (21 + i) (nI j) M f = f (M.1 (21 + i) j) := ldI_n (sf_21 hi) hj M f
theorem tf_21 {ρ : Type} {i j : Nat} (hi : i < 8) (hj : j < 6) (v : Int32) (M : pv_M) (f : pv_M → Option ρ) : pv_stI pv_T (21 + i) (nI j) v M f = f (pv_u M.1 (21 + i) j v, M.2) := stI_n (sf_21 hi) hj v M f
theorem sf_31 {i : Nat} (hi : i < 6) : pv_SH (31 + i) = (0, 3) := (show ∀ i, i < 6 → pv_SH (31 + i) = (0, 3) by decide +kernel) i hi
theorem lf_31 {ρ : Type} {i j : Nat} (hi : i < 6) (hj : j < 3) (M : pv_M) (f : Int32 → Option ρ) : pv_ldI pv_T (31 + i) (nI j) M f = f (M.1 (31 + i) j) := ldI_n (sf_31 hi) hj M f
theorem tf_31 {ρ : Type} {i j : Nat} (hi : i < 6) (hj : j < 3) (v : Int32) (M : pv_M) (f : pv_M → Option ρ) : pv_stI pv_T (31 + i) (nI j) v M f = f (pv_u M.1 (31 + i) j v, M.2) := stI_n (sf_31 hi) hj v M f
theorem sf_41 {i : Nat} (hi : i < 10) : pv_SH (41 + i) = (0, 12) := (show ∀ i, i < 10 → pv_SH (41 + i) = (0, 12) by decide +kernel) i hi
theorem lf_41 {ρ : Type} {i j : Nat} (hi : i < 10) (hj : j < 12) (M : pv_M) (f : Int32 → Option ρ) : pv_ldI pv_T (41 + i) (nI j) M f = f (M.1 (41 + i) j) := ldI_n (sf_41 hi) hj M f
theorem tf_41 {ρ : Type} {i j : Nat} (hi : i < 10) (hj : j < 12) (v : Int32) (M : pv_M) (f : pv_M → Option ρ) : pv_stI pv_T (41 + i) (nI j) v M f = f (pv_u M.1 (41 + i) j v, M.2) := stI_n (sf_41 hi) hj v M f
theorem sf_163 {i : Nat} (hi : i < 6) : pv_SH (163 + i) = (0, 4) := (show ∀ i, i < 6 → pv_SH (163 + i) = (0, 4) by decide +kernel) i hi
theorem lf_163 {ρ : Type} {i j : Nat} (hi : i < 6) (hj : j < 4) (M : pv_M) (f : Int32 → Option ρ) : pv_ldI pv_T (163 + i) (nI j) M f = f (M.1 (163 + i) j) := ldI_n (sf_163 hi) hj M f
theorem tf_163 {ρ : Type} {i j : Nat} (hi : i < 6) (hj : j < 4) (v : Int32) (M : pv_M) (f : pv_M → Option ρ) : pv_stI pv_T (163 + i) (nI j) v M f = f (pv_u M.1 (163 + i) j v, M.2) := stI_n (sf_163 hi) hj v M f
theorem sf_175 {i : Nat} (hi : i < 4) : pv_SH (175 + i) = (0, 4) := (show ∀ i, i < 4 → pv_SH (175 + i) = (0, 4) by decide +kernel) i hi
theorem lf_175 {ρ : Type} {i j : Nat} (hi : i < 4) (hj : j < 4) (M : pv_M) (f : Int32 → Option ρ) : pv_ldI pv_T (175 + i) (nI j) M f = f (M.1 (175 + i) j) := ldI_n (sf_175 hi) hj M f
theorem tf_175 {ρ : Type} {i j : Nat} (hi : i < 4) (hj : j < 4) (v : Int32) (M : pv_M) (f : pv_M → Option ρ) : pv_stI pv_T (175 + i) (nI j) v M f = f (pv_u M.1 (175 + i) j v, M.2) := stI_n (sf_175 hi) hj v M f
theorem sf_192 {i : Nat} (hi : i < 4) : pv_SH (192 + i) = (0, 60) := (show ∀ i, i < 4 → pv_SH (192 + i) = (0, 60) by decide +kernel) i hi
theorem lf_192 {ρ : Type} {i j : Nat} (hi : i < 4) (hj : j < 60) (M : pv_M) (f : Int32 → Option ρ) : pv_ldI pv_T (192 + i) (nI j) M f = f (M.1 (192 + i) j) := ldI_n (sf_192 hi) hj M f
theorem tf_192 {ρ : Type} {i j : Nat} (hi : i < 4) (hj : j < 60) (v : Int32) (M : pv_M) (f : pv_M → Option ρ) : pv_stI pv_T (192 + i) (nI j) v M f = f (pv_u M.1 (192 + i) j v, M.2) := stI_n (sf_192 hi) hj v M f
abbrev isO (o : Nat) : Prop := o = 53 ∨ o = 88 ∨ o = 123
theorem sp_2 {o i : Nat} (ho : isO o) (hi : i < 10) : pv_SH (o + 2 + i) = (0, 3) := by
  rcases ho with rfl | rfl | rfl <;> exact (show ∀ i, i < 10 → pv_SH (_ + 2 + i) = (0, 3) by decide +kernel) i hi
theorem lp_2 {ρ : Type} {o i j : Nat} (ho : isO o) (hi : i < 10) (hj : j < 3) (M : pv_M) (f : Int32 → Option ρ) : pv_ldI pv_T (o + 2 + i) (nI j) M f = f (M.1 (o + 2 + i) j) := ldI_n (sp_2 ho hi) hj M f
theorem tp_2 {ρ : Type} {o i j : Nat} (ho : isO o) (hi : i < 10) (hj : j < 3) (v : Int32) (M : pv_M) (f : pv_M → Option ρ) : pv_stI pv_T (o + 2 + i) (nI j) v M f = f (pv_u M.1 (o + 2 + i) j v, M.2) := stI_n (sp_2 ho hi) hj v M f
theorem rp_2 {ρ : Type} {o i : Nat} (ho : isO o) (hi : i < 10) (f : Nat → Option ρ) : pv_ldR pv_T (o + 1) (nI i) f = f (o + 2 + i) := by
  have h : pv_SH (o + 1) = (2, 10) := by rcases ho with rfl | rfl | rfl <;> decide +kernel
  rw [ldR_n h hi]
theorem sp_13 {o i : Nat} (ho : isO o) (hi : i < 10) : pv_SH (o + 13 + i) = (0, 3) := by
  rcases ho with rfl | rfl | rfl <;> exact (show ∀ i, i < 10 → pv_SH (_ + 13 + i) = (0, 3) by decide +kernel) i hi
theorem lp_13 {ρ : Type} {o i j : Nat} (ho : isO o) (hi : i < 10) (hj : j < 3) (M : pv_M) (f : Int32 → Option ρ) : pv_ldI pv_T (o + 13 + i) (nI j) M f = f (M.1 (o + 13 + i) j) := ldI_n (sp_13 ho hi) hj M f
theorem tp_13 {ρ : Type} {o i j : Nat} (ho : isO o) (hi : i < 10) (hj : j < 3) (v : Int32) (M : pv_M) (f : pv_M → Option ρ) : pv_stI pv_T (o + 13 + i) (nI j) v M f = f (pv_u M.1 (o + 13 + i) j v, M.2) := stI_n (sp_13 ho hi) hj v M f
theorem rp_13 {ρ : Type} {o i : Nat} (ho : isO o) (hi : i < 10) (f : Nat → Option ρ) : pv_ldR pv_T (o + 12) (nI i) f = f (o + 13 + i) := by
  have h : pv_SH (o + 12) = (2, 10) := by rcases ho with rfl | rfl | rfl <;> decide +kernel
  rw [ldR_n h hi]
theorem sp_24 {o i : Nat} (ho : isO o) (hi : i < 10) : pv_SH (o + 24 + i) = (0, 12) := by
  rcases ho with rfl | rfl | rfl <;> exact (show ∀ i, i < 10 → pv_SH (_ + 24 + i) = (0, 12) by decide +kernel) i hi
theorem lp_24 {ρ : Type} {o i j : Nat} (ho : isO o) (hi : i < 10) (hj : j < 12) (M : pv_M) (f : Int32 → Option ρ) : pv_ldI pv_T (o + 24 + i) (nI j) M f = f (M.1 (o + 24 + i) j) := ldI_n (sp_24 ho hi) hj M f
theorem tp_24 {ρ : Type} {o i j : Nat} (ho : isO o) (hi : i < 10) (hj : j < 12) (v : Int32) (M : pv_M) (f : pv_M → Option ρ) : pv_stI pv_T (o + 24 + i) (nI j) v M f = f (pv_u M.1 (o + 24 + i) j v, M.2) := stI_n (sp_24 ho hi) hj v M f
theorem rp_24 {ρ : Type} {o i : Nat} (ho : isO o) (hi : i < 10) (f : Nat → Option ρ) : pv_ldR pv_T (o + 23) (nI i) f = f (o + 24 + i) := by
  have h : pv_SH (o + 23) = (2, 10) := by rcases ho with rfl | rfl | rfl <;> decide +kernel
  rw [ldR_n h hi]
theorem sp_34 {o : Nat} (ho : isO o) : pv_SH (o + 34) = (0, 4) := by rcases ho with rfl | rfl | rfl <;> decide +kernel
theorem lp_34 {ρ : Type} {o j : Nat} (ho : isO o) (hj : j < 4) (M : pv_M) (f : Int32 → Option ρ) : pv_ldI pv_T (o + 34) (nI j) M f = f (M.1 (o + 34) j) := ldI_n (sp_34 ho) hj M f
theorem tp_34 {ρ : Type} {o j : Nat} (ho : isO o) (hj : j < 4) (v : Int32) (M : pv_M) (f : pv_M → Option ρ) : pv_stI pv_T (o + 34) (nI j) v M f = f (pv_u M.1 (o + 34) j v, M.2) := stI_n (sp_34 ho) hj v M f
theorem isP_o {o : Nat} (ho : isO o) : pv_isP o = true := by rcases ho with rfl | rfl | rfl <;> rfl
theorem u_s {α : Type} (f : Nat → Nat → α) (k j : Nat) (v : α) : pv_u f k j v k j = v := uu_same f k j v
theorem u_e {α : Type} (f : Nat → Nat → α) {k j a b : Nat} (v : α) (h : a = k ∧ b = j) : pv_u f k j v a b = v := by rw [h.1, h.2, uu_same]
theorem u_k {α : Type} (f : Nat → Nat → α) {k j a b : Nat} (v : α) (h : a ≠ k) : pv_u f k j v a b = f a b := uu_other f v (Or.inl h)
theorem u_j {α : Type} (f : Nat → Nat → α) {k j a b : Nat} (v : α) (h : b ≠ j) : pv_u f k j v a b = f a b := uu_other f v (Or.inr h)
theorem w_0_1 (a : Int32) (M : pv_M) : f_X8_isWithin a 0 1 M = some (if nI 0 ≤ a ∧ a ≤ nI 1 then 1 else 0) := within_n a (nI 0) (nI 1) M
theorem i_0_1 (a : Int32) (M : pv_M) : f_X9_in a.toInt64 0 1 M = some (if nI 0 ≤ a ∧ a ≤ nI 1 then 1 else 0) := in_l a (nI 0) (nI 1) (by decide) (by decide) M
theorem w_0_2 (a : Int32) (M : pv_M) : f_X8_isWithin a 0 2 M = some (if nI 0 ≤ a ∧ a ≤ nI 2 then 1 else 0) := within_n a (nI 0) (nI 2) M
theorem i_0_2 (a : Int32) (M : pv_M) : f_X9_in a.toInt64 0 2 M = some (if nI 0 ≤ a ∧ a ≤ nI 2 then 1 else 0) := in_l a (nI 0) (nI 2) (by decide) (by decide) M
theorem w_0_3 (a : Int32) (M : pv_M) : f_X8_isWithin a 0 3 M = some (if nI 0 ≤ a ∧ a ≤ nI 3 then 1 else 0) := within_n a (nI 0) (nI 3) M
theorem i_0_3 (a : Int32) (M : pv_M) : f_X9_in a.toInt64 0 3 M = some (if nI 0 ≤ a ∧ a ≤ nI 3 then 1 else 0) := in_l a (nI 0) (nI 3) (by decide) (by decide) M
theorem w_0_5 (a : Int32) (M : pv_M) : f_X8_isWithin a 0 5 M = some (if nI 0 ≤ a ∧ a ≤ nI 5 then 1 else 0) := within_n a (nI 0) (nI 5) M
theorem i_0_5 (a : Int32) (M : pv_M) : f_X9_in a.toInt64 0 5 M = some (if nI 0 ≤ a ∧ a ≤ nI 5 then 1 else 0) := in_l a (nI 0) (nI 5) (by decide) (by decide) M
theorem w_0_7 (a : Int32) (M : pv_M) : f_X8_isWithin a 0 7 M = some (if nI 0 ≤ a ∧ a ≤ nI 7 then 1 else 0) := within_n a (nI 0) (nI 7) M
theorem i_0_7 (a : Int32) (M : pv_M) : f_X9_in a.toInt64 0 7 M = some (if nI 0 ≤ a ∧ a ≤ nI 7 then 1 else 0) := in_l a (nI 0) (nI 7) (by decide) (by decide) M
theorem w_0_9 (a : Int32) (M : pv_M) : f_X8_isWithin a 0 9 M = some (if nI 0 ≤ a ∧ a ≤ nI 9 then 1 else 0) := within_n a (nI 0) (nI 9) M
theorem i_0_9 (a : Int32) (M : pv_M) : f_X9_in a.toInt64 0 9 M = some (if nI 0 ≤ a ∧ a ≤ nI 9 then 1 else 0) := in_l a (nI 0) (nI 9) (by decide) (by decide) M
theorem w_0_255 (a : Int32) (M : pv_M) : f_X8_isWithin a 0 255 M = some (if nI 0 ≤ a ∧ a ≤ nI 255 then 1 else 0) := within_n a (nI 0) (nI 255) M
theorem i_0_255 (a : Int32) (M : pv_M) : f_X9_in a.toInt64 0 255 M = some (if nI 0 ≤ a ∧ a ≤ nI 255 then 1 else 0) := in_l a (nI 0) (nI 255) (by decide) (by decide) M
theorem w_0_999 (a : Int32) (M : pv_M) : f_X8_isWithin a 0 999 M = some (if nI 0 ≤ a ∧ a ≤ nI 999 then 1 else 0) := within_n a (nI 0) (nI 999) M
theorem i_0_999 (a : Int32) (M : pv_M) : f_X9_in a.toInt64 0 999 M = some (if nI 0 ≤ a ∧ a ≤ nI 999 then 1 else 0) := in_l a (nI 0) (nI 999) (by decide) (by decide) M
theorem w_1_9 (a : Int32) (M : pv_M) : f_X8_isWithin a 1 9 M = some (if nI 1 ≤ a ∧ a ≤ nI 9 then 1 else 0) := within_n a (nI 1) (nI 9) M
theorem i_1_9 (a : Int32) (M : pv_M) : f_X9_in a.toInt64 1 9 M = some (if nI 1 ≤ a ∧ a ≤ nI 9 then 1 else 0) := in_l a (nI 1) (nI 9) (by decide) (by decide) M
theorem w_1_99 (a : Int32) (M : pv_M) : f_X8_isWithin a 1 99 M = some (if nI 1 ≤ a ∧ a ≤ nI 99 then 1 else 0) := within_n a (nI 1) (nI 99) M
theorem i_1_99 (a : Int32) (M : pv_M) : f_X9_in a.toInt64 1 99 M = some (if nI 1 ≤ a ∧ a ≤ nI 99 then 1 else 0) := in_l a (nI 1) (nI 99) (by decide) (by decide) M
theorem w_0_4095 (a : Int32) (M : pv_M) : f_X8_isWithin a 0 4095 M = some (if nI 0 ≤ a ∧ a ≤ nI 4095 then 1 else 0) := within_n a (nI 0) (nI 4095) M
theorem i_0_4095 (a : Int32) (M : pv_M) : f_X9_in a.toInt64 0 4095 M = some (if nI 0 ≤ a ∧ a ≤ nI 4095 then 1 else 0) := in_l a (nI 0) (nI 4095) (by decide) (by decide) M
theorem w_m2_3 (a : Int32) (M : pv_M) : f_X8_isWithin a (-2) 3 M = some (if (-2) ≤ a ∧ a ≤ nI 3 then 1 else 0) := within_n a (-2) (nI 3) M
theorem i_m2_3 (a : Int32) (M : pv_M) : f_X9_in a.toInt64 (-2) 3 M = some (if (-2) ≤ a ∧ a ≤ nI 3 then 1 else 0) := in_l a (-2) (nI 3) (by decide) (by decide) M
theorem mg_isText (a : Int32) (M : pv_M) : f_X9_isText a M = some (if nI 0 ≤ a ∧ a ≤ nI 2 then 1 else 0) := m_isText a M
theorem mg_isSheet (a : Int32) (M : pv_M) : f_X9_isSheet a M = some (if nI 0 ≤ a ∧ a ≤ nI 3 then 1 else 0) := m_isSheet a M
theorem mg_isTwo (a : Int32) (M : pv_M) : f_X9_isTwo a M = some (if nI 0 ≤ a ∧ a ≤ nI 1 then 1 else 0) := m_isTwo a M
theorem mg_isYear (a : Int32) (M : pv_M) : f_X9_isYear a M = some (if nI 0 ≤ a ∧ a ≤ nI 9 then 1 else 0) := m_isYear a M
theorem mg_isUnit (a : Int32) (M : pv_M) : f_X9_isUnit a M = some (if nI 0 ≤ a ∧ a ≤ nI 2 then 1 else 0) := m_isUnit a M
theorem mg_isAnyVoter (a : Int32) (M : pv_M) : f_X9_isAnyVoter a M = some (if nI 0 ≤ a ∧ a ≤ nI 7 then 1 else 0) := m_isAnyVoter a M
theorem xg_isText (a : Int32) (M : pv_M) : f_X8_isText a M = some (if nI 0 ≤ a ∧ a ≤ nI 2 then 1 else 0) := x_isText a M
theorem xg_isYear (a : Int32) (M : pv_M) : f_X8_isYear a M = some (if nI 0 ≤ a ∧ a ≤ nI 9 then 1 else 0) := x_isYear a M
theorem xg_isUnit (a : Int32) (M : pv_M) : f_X8_isUnit a M = some (if nI 0 ≤ a ∧ a ≤ nI 2 then 1 else 0) := x_isUnit a M
theorem xg_isPerson (a : Int32) (M : pv_M) : f_X8_isPerson a M = some (if nI 0 ≤ a ∧ a ≤ nI 7 then 1 else 0) := x_isPerson a M
theorem xg_isSheet (a : Int32) (M : pv_M) : f_X4_isSheet a M = some (if nI 0 ≤ a ∧ a ≤ nI 3 then 1 else 0) := x_isSheet a M
theorem xg_isForm (a : Int32) (M : pv_M) : f_X4_isForm a M = some (if nI 0 ≤ a ∧ a ≤ nI 2 then 1 else 0) := x_isForm a M
theorem xg_isTown (a : Int32) (M : pv_M) : f_X6_isTown a M = some (if nI 0 ≤ a ∧ a ≤ nI 3 then 1 else 0) := x_isTown a M
theorem xg_isKind (a : Int32) (M : pv_M) : f_X7_isKind a M = some (if nI 0 ≤ a ∧ a ≤ nI 5 then 1 else 0) := x_isKind a M
theorem bt1 {c : Prop} {inst : Decidable c} (h : c) {ρ : Type} (x y : ρ) : (if (@ite Int32 c inst 1 0) = 0 then x else y) = y := by rw [if_pos h, if_neg (by decide)]
theorem bt0 {c : Prop} {inst : Decidable c} (h : ¬ c) {ρ : Type} (x y : ρ) : (if (@ite Int32 c inst 1 0) = 0 then x else y) = x := by rw [if_neg h, if_pos rfl]
theorem rng {a : Int32} {n : Nat} (hn : n < 2 ^ 31) (h : nI 0 ≤ a ∧ a ≤ nI n) : ∃ i : Nat, i ≤ n ∧ a = nI i := (rng_iff a n hn).mp h
theorem rng1 {a : Int32} {n : Nat} (hn : n < 2 ^ 31) (h : nI 1 ≤ a ∧ a ≤ nI n) : ∃ i : Nat, 1 ≤ i ∧ i ≤ n ∧ a = nI i := by
  obtain ⟨i, hi, rfl⟩ := (rng_iff a n hn).mp ⟨by
    have h1 := h.1
    rw [fa_le] at h1 ⊢
    rw [nI_toInt (by decide)] at h1
    rw [show ((0 : Int32)).toInt = 0 by decide]
    omega, h.2⟩
  exact ⟨i, (nI_leI (by decide) (by omega)).mp h.1, hi, rfl⟩
theorem sbn {a b : Nat} (h : b ≤ a) : nI a - nI b = nI (a - b) := pk_sub h
theorem one0 : ((1 : Int32) = 0) = False := eq_false (by decide)
theorem n1n0 : (nI 1 = nI 0) = False := eq_false (by decide)
theorem bitN {c : Prop} {inst : Decidable c} : ((@ite Int32 c inst 1 0) = 0) = ¬ c := by
  by_cases h : c
  · rw [if_pos h]; exact propext ⟨fun q => absurd q (by decide), fun q => absurd h q⟩
  · rw [if_neg h]; exact propext ⟨fun _ => h, fun _ => rfl⟩
theorem gcm_isText {ρ : Type} (a : Int32) (M : pv_M) (g : Int32 → Option ρ) : pv_cap (f_X9_isText a M) g = g (if nI 0 ≤ a ∧ a ≤ nI 2 then 1 else 0) := by rw [m_isText a M]; rfl
theorem gcm_isSheet {ρ : Type} (a : Int32) (M : pv_M) (g : Int32 → Option ρ) : pv_cap (f_X9_isSheet a M) g = g (if nI 0 ≤ a ∧ a ≤ nI 3 then 1 else 0) := by rw [m_isSheet a M]; rfl
theorem gcm_isTwo {ρ : Type} (a : Int32) (M : pv_M) (g : Int32 → Option ρ) : pv_cap (f_X9_isTwo a M) g = g (if nI 0 ≤ a ∧ a ≤ nI 1 then 1 else 0) := by rw [m_isTwo a M]; rfl
theorem gcm_isYear {ρ : Type} (a : Int32) (M : pv_M) (g : Int32 → Option ρ) : pv_cap (f_X9_isYear a M) g = g (if nI 0 ≤ a ∧ a ≤ nI 9 then 1 else 0) := by rw [m_isYear a M]; rfl
theorem gcm_isUnit {ρ : Type} (a : Int32) (M : pv_M) (g : Int32 → Option ρ) : pv_cap (f_X9_isUnit a M) g = g (if nI 0 ≤ a ∧ a ≤ nI 2 then 1 else 0) := by rw [m_isUnit a M]; rfl
theorem gcm_isAnyVoter {ρ : Type} (a : Int32) (M : pv_M) (g : Int32 → Option ρ) : pv_cap (f_X9_isAnyVoter a M) g = g (if nI 0 ≤ a ∧ a ≤ nI 7 then 1 else 0) := by rw [m_isAnyVoter a M]; rfl
theorem gcx_isText {ρ : Type} (a : Int32) (M : pv_M) (g : Int32 → Option ρ) : pv_cap (f_X8_isText a M) g = g (if nI 0 ≤ a ∧ a ≤ nI 2 then 1 else 0) := by rw [x_isText a M]; rfl
theorem gcx_isYear {ρ : Type} (a : Int32) (M : pv_M) (g : Int32 → Option ρ) : pv_cap (f_X8_isYear a M) g = g (if nI 0 ≤ a ∧ a ≤ nI 9 then 1 else 0) := by rw [x_isYear a M]; rfl
theorem gcx_isUnit {ρ : Type} (a : Int32) (M : pv_M) (g : Int32 → Option ρ) : pv_cap (f_X8_isUnit a M) g = g (if nI 0 ≤ a ∧ a ≤ nI 2 then 1 else 0) := by rw [x_isUnit a M]; rfl
theorem gcx_isPerson {ρ : Type} (a : Int32) (M : pv_M) (g : Int32 → Option ρ) : pv_cap (f_X8_isPerson a M) g = g (if nI 0 ≤ a ∧ a ≤ nI 7 then 1 else 0) := by rw [x_isPerson a M]; rfl
theorem gcx_isSheet {ρ : Type} (a : Int32) (M : pv_M) (g : Int32 → Option ρ) : pv_cap (f_X4_isSheet a M) g = g (if nI 0 ≤ a ∧ a ≤ nI 3 then 1 else 0) := by rw [x_isSheet a M]; rfl
theorem gcx_isForm {ρ : Type} (a : Int32) (M : pv_M) (g : Int32 → Option ρ) : pv_cap (f_X4_isForm a M) g = g (if nI 0 ≤ a ∧ a ≤ nI 2 then 1 else 0) := by rw [x_isForm a M]; rfl
theorem gcx_isTown {ρ : Type} (a : Int32) (M : pv_M) (g : Int32 → Option ρ) : pv_cap (f_X6_isTown a M) g = g (if nI 0 ≤ a ∧ a ≤ nI 3 then 1 else 0) := by rw [x_isTown a M]; rfl
theorem gcx_isKind {ρ : Type} (a : Int32) (M : pv_M) (g : Int32 → Option ρ) : pv_cap (f_X7_isKind a M) g = g (if nI 0 ≤ a ∧ a ≤ nI 5 then 1 else 0) := by rw [x_isKind a M]; rfl
theorem gc_w {ρ : Type} (a lo hi : Int32) (M : pv_M) (g : Int32 → Option ρ) : pv_cap (f_X8_isWithin a lo hi M) g = g (if lo ≤ a ∧ a ≤ hi then 1 else 0) := by rw [within_n a lo hi M]; rfl
theorem gi_0_1 {ρ : Type} (a : Int32) (M : pv_M) (g : Int32 → Option ρ) : pv_cap (f_X9_in a.toInt64 0 1 M) g = g (if nI 0 ≤ a ∧ a ≤ nI 1 then 1 else 0) := by rw [i_0_1 a M]; rfl
theorem gi_0_2 {ρ : Type} (a : Int32) (M : pv_M) (g : Int32 → Option ρ) : pv_cap (f_X9_in a.toInt64 0 2 M) g = g (if nI 0 ≤ a ∧ a ≤ nI 2 then 1 else 0) := by rw [i_0_2 a M]; rfl
theorem gi_0_3 {ρ : Type} (a : Int32) (M : pv_M) (g : Int32 → Option ρ) : pv_cap (f_X9_in a.toInt64 0 3 M) g = g (if nI 0 ≤ a ∧ a ≤ nI 3 then 1 else 0) := by rw [i_0_3 a M]; rfl
theorem gi_0_5 {ρ : Type} (a : Int32) (M : pv_M) (g : Int32 → Option ρ) : pv_cap (f_X9_in a.toInt64 0 5 M) g = g (if nI 0 ≤ a ∧ a ≤ nI 5 then 1 else 0) := by rw [i_0_5 a M]; rfl
theorem gi_0_7 {ρ : Type} (a : Int32) (M : pv_M) (g : Int32 → Option ρ) : pv_cap (f_X9_in a.toInt64 0 7 M) g = g (if nI 0 ≤ a ∧ a ≤ nI 7 then 1 else 0) := by rw [i_0_7 a M]; rfl
theorem gi_0_9 {ρ : Type} (a : Int32) (M : pv_M) (g : Int32 → Option ρ) : pv_cap (f_X9_in a.toInt64 0 9 M) g = g (if nI 0 ≤ a ∧ a ≤ nI 9 then 1 else 0) := by rw [i_0_9 a M]; rfl
theorem gi_0_255 {ρ : Type} (a : Int32) (M : pv_M) (g : Int32 → Option ρ) : pv_cap (f_X9_in a.toInt64 0 255 M) g = g (if nI 0 ≤ a ∧ a ≤ nI 255 then 1 else 0) := by rw [i_0_255 a M]; rfl
theorem gi_0_999 {ρ : Type} (a : Int32) (M : pv_M) (g : Int32 → Option ρ) : pv_cap (f_X9_in a.toInt64 0 999 M) g = g (if nI 0 ≤ a ∧ a ≤ nI 999 then 1 else 0) := by rw [i_0_999 a M]; rfl
theorem gi_1_9 {ρ : Type} (a : Int32) (M : pv_M) (g : Int32 → Option ρ) : pv_cap (f_X9_in a.toInt64 1 9 M) g = g (if nI 1 ≤ a ∧ a ≤ nI 9 then 1 else 0) := by rw [i_1_9 a M]; rfl
theorem gi_1_99 {ρ : Type} (a : Int32) (M : pv_M) (g : Int32 → Option ρ) : pv_cap (f_X9_in a.toInt64 1 99 M) g = g (if nI 1 ≤ a ∧ a ≤ nI 99 then 1 else 0) := by rw [i_1_99 a M]; rfl
theorem gi_0_4095 {ρ : Type} (a : Int32) (M : pv_M) (g : Int32 → Option ρ) : pv_cap (f_X9_in a.toInt64 0 4095 M) g = g (if nI 0 ≤ a ∧ a ≤ nI 4095 then 1 else 0) := by rw [i_0_4095 a M]; rfl
theorem gi_m2_3 {ρ : Type} (a : Int32) (M : pv_M) (g : Int32 → Option ρ) : pv_cap (f_X9_in a.toInt64 (-2) 3 M) g = g (if (-2) ≤ a ∧ a ≤ nI 3 then 1 else 0) := by rw [i_m2_3 a M]; rfl
