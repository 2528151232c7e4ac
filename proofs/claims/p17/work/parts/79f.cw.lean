theorem ow_79f_0 {a0 : Int} (h0 : ((0 ≤ (a0 : Int)) ∧ (a0 ≤ (60 : Int)))) : ((-2147483648) ≤ (a0 : Int)) := by omega
theorem ow_79f_1 {a0 : Int} (h0 : ((0 ≤ (a0 : Int)) ∧ (a0 ≤ (60 : Int)))) : (a0 ≤ (2147483647 : Int)) := by omega
theorem ow_79f_2 {a0 : Int} (h0 : (((-2147483648) ≤ (a0 : Int)) ∧ (a0 ≤ (2147483647 : Int)))) : ((-2147483648) ≤ (a0 : Int)) := by omega
theorem ow_79f_3 {a0 : Int} (h0 : (((-2147483648) ≤ (a0 : Int)) ∧ (a0 ≤ (2147483647 : Int)))) : (a0 ≤ (2147483647 : Int)) := by omega
theorem ow_79f_4 {a0 a1 : Int} (h0 : ((0 ≤ (a0 : Int)) ∧ (a0 ≤ (60 : Int)))) (h1 : (a1 < (a0 : Int))) : ((a1 : Int).toNat < (60 : Nat)) := by omega
theorem ow_79f_5 {a0 : Int} (h0 : ((0 ≤ (a0 : Int)) ∧ (a0 ≤ (60 : Int)))) : (0 ≤ (a0 : Int)) := by omega
theorem ow_79f_6 {a0 a1 : Int} (h0 : ((0 ≤ (a0 : Int)) ∧ (a0 ≤ (60 : Int)))) (h1 : (a1 < (a0 : Int))) : (a1 < (((60 : Nat) : Int) : Int)) := by omega
theorem ow_79f_7 {a0 : Int} (h0 : ((0 ≤ (a0 : Int)) ∧ ((a0 ≤ (999 : Int)) ∧ (((a0 % 10) ≤ (8 : Int)) ∧ (((a0 / 10) % 10) ≤ (8 : Int)))))) : (0 ≤ (a0 : Int)) := by omega
theorem ow_79f_8 {a0 : Int} (h0 : ((0 ≤ (a0 : Int)) ∧ ((a0 ≤ (999 : Int)) ∧ (((a0 % 10) ≤ (8 : Int)) ∧ (((a0 / 10) % 10) ≤ (8 : Int)))))) : (a0 ≤ (999 : Int)) := by omega
theorem ow_79f_9 {a0 : Int} (h0 : ((0 ≤ (a0 : Int)) ∧ (a0 ≤ (99 : Int)))) : (0 ≤ (a0 : Int)) := by omega
theorem ow_79f_10 {a0 : Int} (h0 : ((0 ≤ (a0 : Int)) ∧ (a0 ≤ (99 : Int)))) : (a0 ≤ (99 : Int)) := by omega
theorem ow_79f_11 {a0 : Int} (h0 : (((-99) ≤ (a0 : Int)) ∧ (a0 ≤ (99 : Int)))) : ((-99) ≤ (a0 : Int)) := by omega
theorem ow_79f_12 {a0 : Int} (h0 : (((-99) ≤ (a0 : Int)) ∧ (a0 ≤ (99 : Int)))) : (a0 ≤ (99 : Int)) := by omega
theorem ow_79f_13 {a0 : Int} (h0 : ((0 ≤ (a0 : Int)) ∧ ((a0 ≤ (999 : Int)) ∧ (((a0 % 10) ≤ (8 : Int)) ∧ (((a0 / 10) % 10) ≤ (8 : Int)))))) : (((a0 % 10) ≤ (8 : Int)) ∧ (((a0 / 10) % 10) ≤ (8 : Int))) := by omega
theorem ow_79f_14 {a0 : Int} (h0 : ((0 ≤ (a0 : Int)) ∧ (a0 ≤ (8 : Int)))) : ((a0 : Int).toNat < (9 : Nat)) := by omega
theorem ow_79f_15 {a0 : Int} (h0 : ((0 ≤ (a0 : Int)) ∧ (a0 ≤ (8 : Int)))) : (0 ≤ (a0 : Int)) := by omega
theorem ow_79f_16 {a0 : Int} (h0 : ((0 ≤ (a0 : Int)) ∧ (a0 ≤ (8 : Int)))) : (a0 < (((9 : Nat) : Int) : Int)) := by omega
theorem ow_79f_17 {a0 : Int} (h0 : (((-9223372036854775808) ≤ (a0 : Int)) ∧ (a0 ≤ (9223372036854775807 : Int)))) : ((-9223372036854775808) ≤ (a0 : Int)) := by omega
theorem ow_79f_18 {a0 : Int} (h0 : (((-9223372036854775808) ≤ (a0 : Int)) ∧ (a0 ≤ (9223372036854775807 : Int)))) : (a0 ≤ (9223372036854775807 : Int)) := by omega
theorem ow_79f_19 {a0 a2 a3 : Int} {k1 : Nat} (h0 : (((60 - a0) : Int).toNat = (k1 : Nat))) (h1 : ((0 ≤ (a2 : Int)) ∧ (a2 ≤ (60 : Int)))) (h2 : (a0 < (a2 : Int))) (h3 : ((a0 + 1) = (a3 : Int))) : (((60 - a3) : Int).toNat < (k1 : Nat)) := by omega
theorem ow_79f_20 {a0 a1 : Int} (h0 : ((0 ≤ (a0 : Int)) ∧ (a0 ≤ (60 : Int)))) (h1 : ((a0 + 1) = (a1 : Int))) : (0 ≤ (a1 : Int)) := by omega
theorem ow_79f_21 {a0 a1 a2 : Int} (h0 : ((0 ≤ (a0 : Int)) ∧ (a0 ≤ (60 : Int)))) (h1 : (a1 < (a0 : Int))) (h2 : ((a1 + 1) = (a2 : Int))) : (a2 ≤ (60 : Int)) := by omega
theorem ow_79f_22 {a0 : Int} (h0 : ((0 ≤ (a0 : Int)) ∧ ((a0 ≤ (999 : Int)) ∧ (((a0 % 10) ≤ (8 : Int)) ∧ (((a0 / 10) % 10) ≤ (8 : Int)))))) : ((-2147483648) ≤ (a0 : Int)) := by omega
theorem ow_79f_23 {a0 : Int} (h0 : ((0 ≤ (a0 : Int)) ∧ ((a0 ≤ (999 : Int)) ∧ (((a0 % 10) ≤ (8 : Int)) ∧ (((a0 / 10) % 10) ≤ (8 : Int)))))) : (a0 ≤ (2147483647 : Int)) := by omega
theorem ow_79f_24 {a0 : Int} (h0 : ((0 ≤ (a0 : Int)) ∧ ((a0 ≤ (999 : Int)) ∧ (((a0 % 10) ≤ (8 : Int)) ∧ (((a0 / 10) % 10) ≤ (8 : Int)))))) : ((-2147483648) ≤ ((a0 / 100) : Int)) := by omega
theorem ow_79f_25 {a0 : Int} (h0 : ((0 ≤ (a0 : Int)) ∧ ((a0 ≤ (999 : Int)) ∧ (((a0 % 10) ≤ (8 : Int)) ∧ (((a0 / 10) % 10) ≤ (8 : Int)))))) : ((a0 / 100) ≤ (2147483647 : Int)) := by omega
theorem ow_79f_26 : ((0 = (0 : Int)) ∨ (0 = (1 : Int))) := by omega
theorem ow_79f_27 : (0 ≤ (0 : Int)) := by omega
theorem ow_79f_28 : (0 ≤ (1 : Int)) := by omega
theorem ow_79f_29 {a0 a1 : Int} (h0 : (((a0 = (1 : Int)) ∧ (0 < (a1 : Int))) ∨ (((a0 = (0 : Int)) ∧ (a1 = (0 : Int))) ∨ ((a0 = ((-1) : Int)) ∧ (a1 < (0 : Int)))))) : ((-2147483648) ≤ (a0 : Int)) := by omega
theorem ow_79f_30 {a0 a1 : Int} (h0 : (((a0 = (1 : Int)) ∧ (0 < (a1 : Int))) ∨ (((a0 = (0 : Int)) ∧ (a1 = (0 : Int))) ∨ ((a0 = ((-1) : Int)) ∧ (a1 < (0 : Int)))))) : (a0 ≤ (2147483647 : Int)) := by omega
theorem ow_79f_31 : ((1 = (0 : Int)) ∨ (1 = (1 : Int))) := by omega
theorem ow_79f_32 : (1 ≤ (1 : Int)) := by omega
theorem ow_79f_33 {a0 : Int} (h0 : ((0 ≤ (a0 : Int)) ∧ (a0 ≤ (119 : Int)))) : (0 ≤ (a0 : Int)) := by omega
theorem ow_79f_34 {a0 : Int} (h0 : ((0 ≤ (a0 : Int)) ∧ (a0 ≤ (119 : Int)))) : ((-2147483648) ≤ (a0 : Int)) := by omega
theorem ow_79f_35 {a0 : Int} (h0 : ((0 ≤ (a0 : Int)) ∧ (a0 ≤ (119 : Int)))) : (a0 ≤ (2147483647 : Int)) := by omega
theorem ow_79f_36 {a0 : Int} : ((-2147483648) ≤ ((a0 % 2) : Int)) := by omega
theorem ow_79f_37 {a0 : Int} : ((a0 % 2) ≤ (2147483647 : Int)) := by omega
theorem ow_79f_38 {a0 : Int} (h0 : ((0 ≤ (a0 : Int)) ∧ (a0 ≤ (119 : Int)))) : (((a0 / 2) : Int).toNat < (60 : Nat)) := by omega
theorem ow_79f_39 {a0 : Int} (h0 : ((0 ≤ (a0 : Int)) ∧ (a0 ≤ (119 : Int)))) : (0 ≤ ((a0 / 2) : Int)) := by omega
theorem ow_79f_40 {a0 : Int} (h0 : ((0 ≤ (a0 : Int)) ∧ (a0 ≤ (119 : Int)))) : ((a0 / 2) < (((60 : Nat) : Int) : Int)) := by omega
theorem ow_79f_41 {a0 a1 : Int} (h0 : ((1 ≤ (a0 : Int)) ∧ ((a1 ≤ (a0 : Int)) ∧ ((a0 = (1 : Int)) ∨ (a0 = (a1 : Int)))))) : (1 ≤ (a0 : Int)) := by omega
theorem ow_79f_42 {a0 a1 : Int} (h0 : (((-9223372036854775808) ≤ (a0 : Int)) ∧ (a0 ≤ (9223372036854775807 : Int)))) (h1 : ((1 ≤ (a1 : Int)) ∧ ((a0 ≤ (a1 : Int)) ∧ ((a1 = (1 : Int)) ∨ (a1 = (a0 : Int)))))) : (a1 ≤ (9223372036854775807 : Int)) := by omega
theorem ow_79f_43 {a0 a1 : Int} (h0 : ((1 ≤ (a0 : Int)) ∧ ((a0 ≤ (9223372036854775807 : Int)) ∧ ((1 ≤ (a0 : Int)) ∧ (a1 ≤ (a0 : Int)))))) : (1 ≤ (a0 : Int)) := by omega
theorem ow_79f_44 {a0 a1 : Int} (h0 : ((1 ≤ (a0 : Int)) ∧ ((a0 ≤ (9223372036854775807 : Int)) ∧ ((1 ≤ (a0 : Int)) ∧ (a1 ≤ (a0 : Int)))))) : (a0 ≤ (9223372036854775807 : Int)) := by omega
theorem ow_79f_45 {a0 : Int} (h0 : ((0 ≤ (a0 : Int)) ∧ (a0 ≤ (119 : Int)))) (h1 : ((a0 % 2) = (0 : Int))) : (((a0 / 2) : Int).toNat < (60 : Nat)) := by omega
theorem ow_79f_46 {a0 : Int} (h0 : ((0 ≤ (a0 : Int)) ∧ (a0 ≤ (119 : Int)))) (h1 : ((a0 % 2) = (0 : Int))) : (0 ≤ ((a0 / 2) : Int)) := by omega
theorem ow_79f_47 {a0 : Int} (h0 : ((0 ≤ (a0 : Int)) ∧ (a0 ≤ (119 : Int)))) (h1 : ((a0 % 2) = (0 : Int))) : ((a0 / 2) < (((60 : Nat) : Int) : Int)) := by omega
theorem ow_79f_48 {a0 : Int} (h0 : ((0 ≤ (a0 : Int)) ∧ (a0 ≤ (240 : Int)))) : ((-2147483648) ≤ (a0 : Int)) := by omega
theorem ow_79f_49 {a0 : Int} (h0 : ((0 ≤ (a0 : Int)) ∧ (a0 ≤ (240 : Int)))) : (a0 ≤ (2147483647 : Int)) := by omega
theorem ow_79f_50 {a0 a1 : Int} (h0 : ((0 ≤ (a0 : Int)) ∧ (a0 ≤ (120 : Int)))) (h1 : (a0 ≤ ((2 * a1) : Int))) : ((-2147483648) ≤ ((4 * a1) : Int)) := by omega
theorem ow_79f_51 {a0 : Int} (h0 : ((0 ≤ (a0 : Int)) ∧ (a0 ≤ (60 : Int)))) : ((4 * a0) ≤ (2147483647 : Int)) := by omega
theorem ow_79f_52 {a0 : Int} (h0 : ((0 ≤ (a0 : Int)) ∧ (a0 ≤ (120 : Int)))) : ((-2147483648) ≤ (a0 : Int)) := by omega
theorem ow_79f_53 {a0 : Int} (h0 : ((0 ≤ (a0 : Int)) ∧ (a0 ≤ (120 : Int)))) : (a0 ≤ (2147483647 : Int)) := by omega
theorem ow_79f_54 {a0 a1 : Int} (h0 : ((0 ≤ (a0 : Int)) ∧ (a0 ≤ (240 : Int)))) (h1 : (a0 < ((4 * a1) : Int))) : ((-2147483648) ≤ ((2 * a1) : Int)) := by omega
theorem ow_79f_55 {a0 : Int} (h0 : ((0 ≤ (a0 : Int)) ∧ (a0 ≤ (60 : Int)))) : ((2 * a0) ≤ (2147483647 : Int)) := by omega
theorem ow_79f_56 (h0 : (1 = (0 : Int))) : False := by omega
theorem ow_79f_57 {a0 : Int} (h0 : ((0 ≤ (a0 : Int)) ∧ (a0 ≤ (120 : Int)))) : (0 ≤ (a0 : Int)) := by omega
theorem ow_79f_58 {a0 a1 a2 a3 : Int} (h0 : ((0 ≤ (a0 : Int)) ∧ (a0 ≤ (120 : Int)))) (h1 : ((a1 + a0) = (a2 : Int))) (h2 : (a2 < ((4 * a3) : Int))) (h3 : ((2 * a3) ≤ (a0 : Int))) : (a1 ≤ (119 : Int)) := by omega
theorem ow_79f_59 {a0 a1 a3 a4 : Int} {k2 : Nat} (h0 : ((0 ≤ (a0 : Int)) ∧ (a0 ≤ (120 : Int)))) (h1 : (((240 - a1) : Int).toNat = (k2 : Nat))) (h2 : (a1 < ((4 * a3) : Int))) (h3 : ((2 * a3) ≤ (a0 : Int))) (h4 : ((a1 + 1) = (a4 : Int))) : (((240 - a4) : Int).toNat < (k2 : Nat)) := by omega
theorem ow_79f_60 {a0 a1 : Int} (h0 : ((0 ≤ (a0 : Int)) ∧ (a0 ≤ (120 : Int)))) (h1 : ((a0 + 1) = (a1 : Int))) : (0 ≤ (a1 : Int)) := by omega
theorem ow_79f_61 {a0 a1 a2 a3 a4 : Int} (h0 : ((0 ≤ (a0 : Int)) ∧ (a0 ≤ (60 : Int)))) (h1 : ((a1 + a2) = (a3 : Int))) (h2 : (a3 < ((4 * a0) : Int))) (h3 : ((2 * a0) ≤ (a2 : Int))) (h4 : ((a1 + 1) = (a4 : Int))) : (a4 ≤ (120 : Int)) := by omega
theorem ow_79f_62 {a0 a1 a2 : Int} (h0 : ((0 ≤ (a0 : Int)) ∧ (a0 ≤ (240 : Int)))) (h1 : (a0 < ((4 * a1) : Int))) (h2 : ((2 * a1) ≤ (a2 : Int))) : (0 ≤ (a2 : Int)) := by omega
theorem ow_79f_63 {a0 : Int} (h0 : ((0 ≤ (a0 : Int)) ∧ (a0 ≤ (120 : Int)))) : (a0 ≤ (120 : Int)) := by omega
theorem ow_79f_64 {a0 a1 : Int} (h0 : ((0 ≤ (a0 : Int)) ∧ (a0 ≤ (240 : Int)))) (h1 : ((a0 + 1) = (a1 : Int))) : (0 ≤ (a1 : Int)) := by omega
theorem ow_79f_65 {a0 a1 a2 a3 : Int} (h0 : ((0 ≤ (a0 : Int)) ∧ (a0 ≤ (120 : Int)))) (h1 : (a1 < ((4 * a2) : Int))) (h2 : ((2 * a2) ≤ (a0 : Int))) (h3 : ((a1 + 1) = (a3 : Int))) : (a3 ≤ (240 : Int)) := by omega
theorem ow_79f_66 {a0 a1 a2 a3 a4 : Int} (h0 : ((a0 + a1) = (a2 : Int))) (h1 : ((a0 + 1) = (a3 : Int))) (h2 : ((a2 + 1) = (a4 : Int))) : ((a3 + a1) = (a4 : Int)) := by omega
theorem ow_79f_67 {a0 a1 a2 a3 a4 : Int} (h0 : ((a0 + a1) = (a2 : Int))) (h1 : (a2 < ((4 * a3) : Int))) (h2 : ((2 * a3) ≤ (a1 : Int))) (h3 : ((a0 + 1) = (a4 : Int))) : (a4 ≤ ((2 * a3) : Int)) := by omega
theorem ow_79f_68 {a0 a1 : Int} (h0 : (a0 ≤ ((2 * a1) : Int))) : (a0 ≤ ((2 * a1) : Int)) := by omega
theorem ow_79f_69 {a0 a1 a2 : Int} (h0 : ((0 ≤ (a0 : Int)) ∧ (a0 ≤ (120 : Int)))) (h1 : (a1 < ((2 * a2) : Int))) (h2 : ((2 * a2) ≤ (a0 : Int))) : (a1 ≤ (119 : Int)) := by omega
theorem ow_79f_70 {a0 a1 a2 a3 : Int} (h0 : ((0 ≤ (a0 : Int)) ∧ (a0 ≤ (240 : Int)))) (h1 : ((a1 + a2) = (a0 : Int))) (h2 : (a2 < ((2 * a3) : Int))) (h3 : ((2 * a3) ≤ (a1 : Int))) : (0 ≤ (a1 : Int)) := by omega
theorem ow_79f_71 {a0 a1 a2 a3 : Int} (h0 : ((0 ≤ (a0 : Int)) ∧ (a0 ≤ (120 : Int)))) (h1 : (a1 < ((2 * a2) : Int))) (h2 : ((2 * a2) ≤ (a0 : Int))) (h3 : ((a1 + 1) = (a3 : Int))) : (a3 ≤ (120 : Int)) := by omega
theorem ow_79f_72 {a0 a1 a2 a3 a4 : Int} (h0 : ((a0 + a1) = (a2 : Int))) (h1 : ((a1 + 1) = (a3 : Int))) (h2 : ((a2 + 1) = (a4 : Int))) : ((a0 + a3) = (a4 : Int)) := by omega
theorem ow_79f_73 {a0 a1 a2 : Int} (h0 : (a0 < ((2 * a1) : Int))) (h1 : ((a0 + 1) = (a2 : Int))) : (a2 ≤ ((2 * a1) : Int)) := by omega
theorem ow_79f_74 (h0 : ¬((0 = (0 : Int)))) : False := by omega
theorem ow_79f_75 {a0 a1 : Int} (h0 : ((0 ≤ (a0 : Int)) ∧ (a0 ≤ (60 : Int)))) (h1 : (a1 < ((2 * a0) : Int))) : (a1 ≤ (119 : Int)) := by omega
theorem ow_79f_76 {a0 a1 a2 a3 a5 : Int} {k4 : Nat} (h0 : ((0 ≤ (a0 : Int)) ∧ (a0 ≤ (60 : Int)))) (h1 : ((a1 + a2) = (a3 : Int))) (h2 : (((240 - a3) : Int).toNat = (k4 : Nat))) (h3 : (a2 < ((2 * a0) : Int))) (h4 : (a1 < ((2 * a0) : Int))) (h5 : ((a3 + 1) = (a5 : Int))) : (((240 - a5) : Int).toNat < (k4 : Nat)) := by omega
theorem ow_79f_77 {a0 a1 : Int} (h0 : ((0 ≤ (a0 : Int)) ∧ (a0 ≤ (60 : Int)))) (h1 : (a1 < ((2 * a0) : Int))) : (a1 ≤ (120 : Int)) := by omega
theorem ow_79f_78 {a0 a1 a2 : Int} (h0 : ((0 ≤ (a0 : Int)) ∧ (a0 ≤ (60 : Int)))) (h1 : (a1 < ((2 * a0) : Int))) (h2 : ((a1 + 1) = (a2 : Int))) : (a2 ≤ (120 : Int)) := by omega
theorem ow_79f_79 {a0 a1 a2 a3 a4 : Int} (h0 : ((0 ≤ (a0 : Int)) ∧ (a0 ≤ (60 : Int)))) (h1 : ((a1 + a2) = (a3 : Int))) (h2 : (a2 < ((2 * a0) : Int))) (h3 : (a1 < ((2 * a0) : Int))) (h4 : ((a3 + 1) = (a4 : Int))) : (a4 ≤ (240 : Int)) := by omega
theorem ow_79f_80 {a0 a1 : Int} (h0 : (a0 < ((2 * a1) : Int))) : (a0 ≤ ((2 * a1) : Int)) := by omega
theorem ow_79f_81 : ((0 + 0) = (0 : Int)) := by omega
theorem ow_79f_82 {a0 : Int} (h0 : ((0 ≤ (a0 : Int)) ∧ (a0 ≤ (60 : Int)))) : (0 ≤ ((2 * a0) : Int)) := by omega
theorem ow_79f_83 {a0 : Int} (h0 : (((-1) ≤ (a0 : Int)) ∧ (a0 ≤ (1 : Int)))) : ((-1) ≤ (a0 : Int)) := by omega
theorem ow_79f_84 {a0 : Int} (h0 : (((-1) ≤ (a0 : Int)) ∧ (a0 ≤ (1 : Int)))) : (a0 ≤ (1 : Int)) := by omega
theorem ow_79f_85 {a0 a1 a2 : Int} (h0 : (((a0 = (1 : Int)) ∧ (a1 < (a2 : Int))) ∨ (((a0 = (0 : Int)) ∧ (a2 = (a1 : Int))) ∨ ((a0 = ((-1) : Int)) ∧ (a2 < (a1 : Int)))))) : ((-2147483648) ≤ (a0 : Int)) := by omega
theorem ow_79f_86 {a0 a1 a2 : Int} (h0 : (((a0 = (1 : Int)) ∧ (a1 < (a2 : Int))) ∨ (((a0 = (0 : Int)) ∧ (a2 = (a1 : Int))) ∨ ((a0 = ((-1) : Int)) ∧ (a2 < (a1 : Int)))))) : (a0 ≤ (2147483647 : Int)) := by omega
theorem ow_79f_87 {a0 a1 a3 : Int} {k2 : Nat} (h0 : ((0 ≤ (a0 : Int)) ∧ (a0 ≤ (60 : Int)))) (h1 : (((60 - a1) : Int).toNat = (k2 : Nat))) (h2 : (a1 < (a0 : Int))) (h3 : ((a1 + 1) = (a3 : Int))) : (((60 - a3) : Int).toNat < (k2 : Nat)) := by omega
theorem ow_79f_88 {a0 : Int} (h0 : ((0 ≤ (a0 : Int)) ∧ (a0 ≤ (1 : Int)))) : ((-2147483648) ≤ (a0 : Int)) := by omega
theorem ow_79f_89 {a0 : Int} (h0 : ((0 ≤ (a0 : Int)) ∧ (a0 ≤ (1 : Int)))) : (a0 ≤ (2147483647 : Int)) := by omega
theorem ow_79f_90 {a0 : Int} (h0 : ((0 ≤ (a0 : Int)) ∧ (a0 ≤ (1 : Int)))) (h1 : ¬((a0 = (0 : Int)))) (h2 : (a0 = (0 : Int))) : False := by omega
theorem ow_79f_91 : ((-1) ≤ ((-1) : Int)) := by omega
theorem ow_79f_92 : ((-1) ≤ (1 : Int)) := by omega
theorem ow_79f_93 : ((-1) ≤ (0 : Int)) := by omega
theorem ow_79f_94 {a0 a1 a2 : Int} (h0 : ((0 ≤ (a0 : Int)) ∧ (a0 ≤ (60 : Int)))) (h1 : ((0 ≤ (a1 : Int)) ∧ (a1 ≤ (60 : Int)))) (h2 : ((a2 ≤ (a0 : Int)) ∧ ((a2 ≤ (a1 : Int)) ∧ ((a2 = (a0 : Int)) ∨ (a2 = (a1 : Int)))))) : (0 ≤ (a2 : Int)) := by omega
theorem ow_79f_95 {a0 a1 a2 : Int} (h0 : ((0 ≤ (a0 : Int)) ∧ (a0 ≤ (60 : Int)))) (h1 : ((a1 ≤ (a0 : Int)) ∧ ((a1 ≤ (a2 : Int)) ∧ ((a1 = (a0 : Int)) ∨ (a1 = (a2 : Int)))))) : (a1 ≤ (60 : Int)) := by omega
theorem ow_79f_96 {a0 a1 a2 : Int} (h0 : ((0 ≤ (a0 : Int)) ∧ ((a0 ≤ (60 : Int)) ∧ ((a0 ≤ (a1 : Int)) ∧ (a0 ≤ (a2 : Int)))))) : (0 ≤ (a0 : Int)) := by omega
theorem ow_79f_97 {a0 a1 a2 : Int} (h0 : ((0 ≤ (a0 : Int)) ∧ ((a0 ≤ (60 : Int)) ∧ ((a0 ≤ (a1 : Int)) ∧ (a0 ≤ (a2 : Int)))))) : (a0 ≤ (60 : Int)) := by omega
theorem ow_79f_98 {a0 : Int} (h0 : (a0 = (0 : Int))) : (a0 ≤ (2147483647 : Int)) := by omega
theorem ow_79f_99 {a0 : Int} (h0 : ((0 ≤ (a0 : Int)) ∧ (a0 ≤ (1 : Int)))) (h1 : (a0 = (0 : Int))) (h2 : ¬((a0 = (0 : Int)))) : False := by omega
theorem ow_79f_100 {a0 a1 : Int} (h0 : ((0 ≤ (a0 : Int)) ∧ (a0 ≤ (60 : Int)))) (h1 : ((a1 ≤ (a0 : Int)) ∧ ((a1 ≤ (a0 : Int)) ∧ ((a1 = (a0 : Int)) ∨ (a1 = (a0 : Int)))))) : (0 ≤ (a1 : Int)) := by omega
theorem ow_79f_101 {a0 a1 : Int} (h0 : ((0 ≤ (a0 : Int)) ∧ (a0 ≤ (60 : Int)))) (h1 : ((a1 ≤ (a0 : Int)) ∧ ((a1 ≤ (a0 : Int)) ∧ ((a1 = (a0 : Int)) ∨ (a1 = (a0 : Int)))))) : (a1 ≤ (60 : Int)) := by omega
theorem ow_79f_102 {a0 a1 : Int} (h0 : ((0 ≤ (a0 : Int)) ∧ ((a0 ≤ (60 : Int)) ∧ ((a0 ≤ (a1 : Int)) ∧ (a0 ≤ (a1 : Int)))))) : (0 ≤ (a0 : Int)) := by omega
theorem ow_79f_103 {a0 a1 : Int} (h0 : ((0 ≤ (a0 : Int)) ∧ ((a0 ≤ (60 : Int)) ∧ ((a0 ≤ (a1 : Int)) ∧ (a0 ≤ (a1 : Int)))))) : (a0 ≤ (60 : Int)) := by omega
theorem ow_79f_104 {a0 a1 : Int} (h0 : ((0 ≤ (a0 : Int)) ∧ ((a0 ≤ (1 : Int)) ∧ ((a0 = (1 : Int)) → ((0 ≤ (a1 : Int)) ∧ (a1 ≤ (6 : Int))))))) : ((-2147483648) ≤ (a0 : Int)) := by omega
theorem ow_79f_105 {a0 a1 : Int} (h0 : ((0 ≤ (a0 : Int)) ∧ ((a0 ≤ (1 : Int)) ∧ ((a0 = (1 : Int)) → ((0 ≤ (a1 : Int)) ∧ (a1 ≤ (6 : Int))))))) : (a0 ≤ (2147483647 : Int)) := by omega
theorem ow_79f_106 : ((-1) ≤ (2 : Int)) := by omega
theorem ow_79f_107 {a0 a1 : Int} (h0 : ((0 ≤ (a0 : Int)) ∧ ((a0 ≤ (1 : Int)) ∧ ((a0 = (1 : Int)) → (((-1) ≤ (a1 : Int)) ∧ (a1 ≤ (9 : Int))))))) : ((-2147483648) ≤ (a0 : Int)) := by omega
theorem ow_79f_108 {a0 a1 : Int} (h0 : ((0 ≤ (a0 : Int)) ∧ ((a0 ≤ (1 : Int)) ∧ ((a0 = (1 : Int)) → (((-1) ≤ (a1 : Int)) ∧ (a1 ≤ (9 : Int))))))) : (a0 ≤ (2147483647 : Int)) := by omega
theorem ow_79f_109 {a0 : Int} (h0 : (((-1) ≤ (a0 : Int)) ∧ (a0 ≤ (1 : Int)))) : ((-2147483648) ≤ (a0 : Int)) := by omega
theorem ow_79f_110 {a0 : Int} (h0 : (((-1) ≤ (a0 : Int)) ∧ (a0 ≤ (1 : Int)))) : (a0 ≤ (2147483647 : Int)) := by omega
theorem ow_79f_111 : (2 ≤ (2 : Int)) := by omega
theorem ow_79f_112 : (1 ≤ (2 : Int)) := by omega
theorem ow_79f_113 : (0 ≤ (2 : Int)) := by omega
set_option maxHeartbeats 4000000 in
set_option maxRecDepth 100000 in
theorem fD_X11_gather_0_87 (a1 a2 : Int) (h0 : (-2147483648) ≤ a1 ∧ a1 ≤ 2147483647) (h1 : (-2147483648) ≤ a2 ∧ a2 ≤ 2147483647) : pm_K 5 yX11_gather cX11_gather 5 none (fun av V => av = [(3, 0), (3, 87), (0, a1), (0, a2)] ∧ pm_ok 0 90 V) (fun _ V r V' => r = none ∧ pm_ok 0 90 V' ∧ pm_ff [74, 75, 76, 77, 88, 89] [(73, 0), (73, 1), (73, 2), (73, 3), (73, 4), (73, 5), (73, 6), (73, 7), (73, 10), (73, 11), (73, 12), (73, 14), (87, 0)] V V' ∧ F_X11_gather 87 a1 a2 V = (0, V')) := by
  refine pm_MT.of (by decide) ⟨Nat.le_refl _, by decide⟩ (fun av V h => by rw [h.1]; exact (by decide : pm_words [(3, 0), (3, 0), (0, 0), (0, 0)] ≤ 5)) ?_
  rintro X av V0 hC - hR ⟨rfl, hV0⟩
  change pm_J X 0 [(0, (3, 0)), (1, (3, 87)), (2, (0, a1)), (3, (0, a2))] [] 118 V0
  have hT := F_X11_gather_eq 87 a1 a2 V0
  refine pm_aload_n hC 1 (by decide) dX11_gather_0 rfl ?_
  refine pm_iconst (v := 0) hC dX11_gather_1 ?_
  refine pm_putf hC 87 fl_X11_371 rfl rfl rfl (by decide) rfl trivial dX11_gather_2 ?_
  refine pm_iconst (v := 0) hC dX11_gather_5 ?_
  refine pm_istore (lv' := [(4, (0, 0)), (0, (3, 0)), (1, (3, 87)), (2, (0, a1)), (3, (0, a2))]) hC dX11_gather_6 (by decide) rfl ?_
  have hV3 := (hV0.put 87 0 (x := 0) (lo := 0) (hi := 60) rfl ⟨by decide, by decide⟩)
  have hF4 := ((pm_ff.rf (cs := [74, 75, 76, 77, 88, 89]) (fs := [(73, 0), (73, 1), (73, 2), (73, 3), (73, 4), (73, 5), (73, 6), (73, 7), (73, 10), (73, 11), (73, 12), (73, 14), (87, 0)]) (V := V0)).upf 87 0 0 rfl)
  obtain ⟨V1, hv2⟩ : ∃ V, V = (pm_up V0 87 0 0) := ⟨_, rfl⟩
  rw [← hv2] at hV3 hF4
  rw [← hv2]
  replace hT := hT.trans (pf_let_eq hv2.symm)
  have e5 : V1 87 0 = 0 := by rw [hv2]; rfl
  obtain ⟨B11, hB12, hT⟩ := pf_loop hT
  have L14 : ∀ (N16 : Nat) (x6 : Int) (V8 : pm_M), (0 ≤ x6 ∧ x6 ≤ 60) → pm_ok 0 90 V8 → pm_ff [74, 75, 76, 77, 88, 89] [(73, 0), (73, 1), (73, 2), (73, 3), (73, 4), (73, 5), (73, 6), (73, 7), (73, 10), (73, 11), (73, 12), (73, 14), (87, 0)] V0 V8 → F_X11_gather 87 a1 a2 V0 = pf_val ((0 : Int), V0) B11 (x6, V8) → (Int.toNat (60 - x6)) = N16 → pm_J X 8 [(0, (3, 0)), (1, (3, 87)), (2, (0, a1)), (3, (0, a2)), (4, (0, x6))] [] 118 V8 := by
    intro N16
    induction N16 using Nat.strongRecOn with
    | _ N16 ih17 =>
    intro x6 V8 b7 hV9 hF10 hT hm15
    have hb13 := congrFun hB12 (x6, V8)
    refine pm_iload hC 4 dX11_gather_8 rfl ?_
    refine pm_aload_n hC 0 (by decide) dX11_gather_10 rfl ?_
    have e18 : V8 0 3 = 4 := hV9.one 0 3 (by decide) (by decide) rfl
    refine pm_getf (v := 4) hC 0 fl_X11_24 rfl rfl (by decide) rfl e18 dX11_gather_11 ?_
    obtain ⟨y19, e20⟩ : ∃ y, V8 4 6 = y := ⟨_, rfl⟩
    have b21 := hV9.get 4 6 (lo := 0) (hi := 60) (by decide) (by decide) rfl
    rw [e20] at b21
    replace hb13 := hb13.trans (pf_let_eq e20)
    refine pm_getf (v := y19) hC 4 fl_X11_162 rfl rfl (by decide) rfl e20 dX11_gather_14 ?_
    refine pm_icmp_ge (tgt := 119) hC ⟨by exact ow_79f_0 b7, by exact ow_79f_1 b7⟩ ⟨by exact ow_79f_0 b21, by exact ow_79f_1 b21⟩ dX11_gather_17 (by decide) (fun c22 => ?_) (fun c22 => ?_)
    · skip
      replace hb13 := hb13.trans (if_pos c22)
      replace hT := hT.trans (pf_val_inr hb13)
      exact pm_vret hC hR ⟨rfl, hV9, hF10, hT⟩ dX11_gather_119
    · skip
      replace hb13 := hb13.trans (if_neg (Int.not_le.mpr c22))
      refine pm_iload_n hC 3 dX11_gather_20 rfl ?_
      refine pm_iconst (v := (-1)) hC dX11_gather_21 ?_
      refine pm_icmp_eq (tgt := 42) hC ⟨by exact ow_79f_2 h1, by exact ow_79f_3 h1⟩ ⟨by decide, by decide⟩ dX11_gather_22 (by decide) (fun c23 => ?_) (fun c23 => ?_)
      · skip
        replace hb13 := hb13.trans (if_pos c23)
        refine pm_aload_n hC 0 (by decide) dX11_gather_42 rfl ?_
        refine pm_aload_n hC 0 (by decide) dX11_gather_43 rfl ?_
        refine pm_getf (v := 4) hC 0 fl_X11_24 rfl rfl (by decide) rfl e18 dX11_gather_44 ?_
        have e24 : V8 4 7 = 9 := hV9.one 4 7 (by decide) (by decide) rfl
        refine pm_getf (v := 9) hC 4 fl_X11_243 rfl rfl (by decide) rfl e24 dX11_gather_47 ?_
        refine pm_iload hC 4 dX11_gather_50 rfl ?_
        obtain ⟨y25, e26⟩ : ∃ y, V8 9 (x6 : Int).toNat = y := ⟨_, rfl⟩
        replace hb13 := hb13.trans (pf_let_eq e26)
        have b27 := hV9.get1 9 (x6 : Int).toNat (lo := 0) (hi := 999) (by decide) (show _ < 60 by exact ow_79f_4 b21 c22) rfl
        rw [e26] at b27
        refine pm_iaload (len := 60) (v := y25) hC 9 rfl rfl (by decide) ⟨by exact ow_79f_5 b7, by exact ow_79f_6 b21 c22⟩ (by decide) e26 dX11_gather_52 ?_
        refine pm_aload_n hC 0 (by decide) dX11_gather_53 rfl ?_
        refine pm_getf (v := 4) hC 0 fl_X11_24 rfl rfl (by decide) rfl e18 dX11_gather_54 ?_
        have e28 : V8 4 8 = 10 := hV9.one 4 8 (by decide) (by decide) rfl
        refine pm_getf (v := 10) hC 4 fl_X11_246 rfl rfl (by decide) rfl e28 dX11_gather_57 ?_
        refine pm_iload hC 4 dX11_gather_60 rfl ?_
        obtain ⟨y29, e30⟩ : ∃ y, V8 10 (x6 : Int).toNat = y := ⟨_, rfl⟩
        replace hb13 := hb13.trans (pf_let_eq e30)
        have b31 := hV9.get 10 (x6 : Int).toNat (lo := 0) (hi := 99) (by decide) (show _ < 60 by exact ow_79f_4 b21 c22) rfl
        rw [e30] at b31
        refine pm_iaload (len := 60) (v := y29) hC 10 rfl rfl (by decide) ⟨by exact ow_79f_5 b7, by exact ow_79f_6 b21 c22⟩ (by decide) e30 dX11_gather_62 ?_
        refine pm_aload_n hC 0 (by decide) dX11_gather_63 rfl ?_
        refine pm_getf (v := 4) hC 0 fl_X11_24 rfl rfl (by decide) rfl e18 dX11_gather_64 ?_
        have e32 : V8 4 9 = 11 := hV9.one 4 9 (by decide) (by decide) rfl
        refine pm_getf (v := 11) hC 4 fl_X11_249 rfl rfl (by decide) rfl e32 dX11_gather_67 ?_
        refine pm_iload hC 4 dX11_gather_70 rfl ?_
        obtain ⟨y33, e34⟩ : ∃ y, V8 11 (x6 : Int).toNat = y := ⟨_, rfl⟩
        replace hb13 := hb13.trans (pf_let_eq e34)
        have b35 := hV9.get 11 (x6 : Int).toNat (lo := (-99)) (hi := 99) (by decide) (show _ < 60 by exact ow_79f_4 b21 c22) rfl
        rw [e34] at b35
        refine pm_iaload (len := 60) (v := y33) hC 11 rfl rfl (by decide) ⟨by exact ow_79f_5 b7, by exact ow_79f_6 b21 c22⟩ (by decide) e34 dX11_gather_72 ?_
        refine pm_callV (ci := 11) (as := [(0, y25), (0, y29), (0, y33)]) (st := []) hC 0 (fD_X11_pose_0 y25 y29 y33 ⟨by exact ow_79f_7 b27, by exact ow_79f_8 b27⟩ ⟨by exact ow_79f_9 b31, by exact ow_79f_10 b31⟩ ⟨by exact ow_79f_11 b35, by exact ow_79f_12 b35⟩ (by exact ow_79f_13 b27)) lm_X11_229 li_X11_pose (by decide) (by decide) rfl rfl rfl (by decide) rfl rfl (Nat.le_of_ble_eq_true rfl) ⟨Nat.le_refl _, Or.inl rfl⟩ dX11_gather_73 ⟨rfl, hV9⟩ (fun r36 V37 hp38 => ?_)
        obtain ⟨rfl, hV39, hF40, hE41⟩ := hp38
        replace hb13 := hb13.trans (pf_call_eq hE41)
        change pm_J X 76 [(0, (3, 0)), (1, (3, 87)), (2, (0, a1)), (3, (0, a2)), (4, (0, x6))] [] 118 V37
        have hF42 := pm_ff.tr hF10 hF40 (by decide) (by decide)
        have e43 : V37 0 3 = 4 := by rw [hF40 0 3 (by decide) (by decide)]; exact e18
        have e44 : V37 4 6 = y19 := by rw [hF40 4 6 (by decide) (by decide)]; exact e20
        have e45 : V37 4 7 = 9 := by rw [hF40 4 7 (by decide) (by decide)]; exact e24
        have e46 : V37 4 8 = 10 := by rw [hF40 4 8 (by decide) (by decide)]; exact e28
        have e47 : V37 4 9 = 11 := by rw [hF40 4 9 (by decide) (by decide)]; exact e32
        refine pm_aload_n hC 0 (by decide) dX11_gather_76 rfl ?_
        have e48 : V37 0 5 = 73 := hV39.one 0 5 (by decide) (by decide) rfl
        refine pm_getf (v := 73) hC 0 fl_X11_75 rfl rfl (by decide) rfl e48 dX11_gather_77 ?_
        refine pm_iload_n hC 2 dX11_gather_80 rfl ?_
        refine pm_callV (ci := 10) (as := [(0, a1)]) (st := []) hC 73 (fD_X10_weigh_73 a1 ⟨by exact ow_79f_2 h0, by exact ow_79f_3 h0⟩) lm_X11_294 li_X10_weigh (by decide) (by decide) rfl rfl rfl (by decide) rfl rfl (Nat.le_of_ble_eq_true rfl) ⟨Nat.le_refl _, Or.inl rfl⟩ dX11_gather_81 ⟨rfl, hV39⟩ (fun r49 V50 hp51 => ?_)
        obtain ⟨rfl, hV52, hF53, hE54⟩ := hp51
        replace hb13 := hb13.trans (pf_call_eq hE54)
        change pm_J X 84 [(0, (3, 0)), (1, (3, 87)), (2, (0, a1)), (3, (0, a2)), (4, (0, x6))] [] 118 V50
        have hF55 := pm_ff.tr hF42 hF53 (by decide) (by decide)
        have e56 : V50 0 3 = 4 := by rw [hF53 0 3 (by decide) (by decide)]; exact e43
        have e57 : V50 4 6 = y19 := by rw [hF53 4 6 (by decide) (by decide)]; exact e44
        have e58 : V50 4 7 = 9 := by rw [hF53 4 7 (by decide) (by decide)]; exact e45
        have e59 : V50 4 8 = 10 := by rw [hF53 4 8 (by decide) (by decide)]; exact e46
        have e60 : V50 4 9 = 11 := by rw [hF53 4 9 (by decide) (by decide)]; exact e47
        have e61 : V50 0 5 = 73 := by rw [hF53 0 5 (by decide) (by decide)]; exact e48
        refine pm_aload_n hC 1 (by decide) dX11_gather_84 rfl ?_
        refine pm_aload_n hC 0 (by decide) dX11_gather_85 rfl ?_
        refine pm_getf (v := 73) hC 0 fl_X11_75 rfl rfl (by decide) rfl e61 dX11_gather_86 ?_
        rcases hV52.get2 73 13 (lo := 76) (hi := 77) (by decide) (by decide) rfl with e62 | e62
        · skip
          replace hb13 := hb13.trans (if_pos e62)
          refine pm_getf (v := 76) hC 73 fl_X11_208 rfl rfl (by decide) rfl e62 dX11_gather_89 ?_
          refine pm_aload_n hC 0 (by decide) dX11_gather_92 rfl ?_
          refine pm_getf (v := 4) hC 0 fl_X11_24 rfl rfl (by decide) rfl e56 dX11_gather_93 ?_
          have e63 : V50 4 10 = 12 := hV52.one 4 10 (by decide) (by decide) rfl
          refine pm_getf (v := 12) hC 4 fl_X11_252 rfl rfl (by decide) rfl e63 dX11_gather_96 ?_
          refine pm_iload hC 4 dX11_gather_99 rfl ?_
          obtain ⟨y64, e65⟩ : ∃ y, V50 12 (x6 : Int).toNat = y := ⟨_, rfl⟩
          replace hb13 := hb13.trans (pf_let_eq e65)
          have b66 := hV52.get 12 (x6 : Int).toNat (lo := 0) (hi := 8) (by decide) (show _ < 60 by exact ow_79f_4 b21 c22) rfl
          rw [e65] at b66
          refine pm_iaload (len := 60) (v := y64) hC 12 rfl rfl (by decide) ⟨by exact ow_79f_5 b7, by exact ow_79f_6 b21 c22⟩ (by decide) e65 dX11_gather_101 ?_
          obtain ⟨y67, e68⟩ : ∃ y, V50 76 (y64 : Int).toNat = y := ⟨_, rfl⟩
          replace hb13 := hb13.trans (pf_let_eq e68)
          have b69 := hV52.get 76 (y64 : Int).toNat (lo := (-9223372036854775808)) (hi := 9223372036854775807) (by decide) (show _ < 9 by exact ow_79f_14 b66) rfl
          rw [e68] at b69
          refine pm_laload (len := 9) (v := y67) hC 76 rfl rfl (by decide) ⟨by exact ow_79f_15 b66, by exact ow_79f_16 b66⟩ (by decide) e68 dX11_gather_102 ?_
          refine pm_aload_n hC 0 (by decide) dX11_gather_103 rfl ?_
          refine pm_getf (v := 73) hC 0 fl_X11_75 rfl rfl (by decide) rfl e61 dX11_gather_104 ?_
          obtain ⟨y70, e71⟩ : ∃ y, V50 73 14 = y := ⟨_, rfl⟩
          have b72 := hV52.get 73 14 (lo := (-9223372036854775808)) (hi := 9223372036854775807) (by decide) (by decide) rfl
          rw [e71] at b72
          replace hb13 := hb13.trans (pf_let_eq e71)
          refine pm_getf (v := y70) hC 73 fl_X11_205 rfl rfl (by decide) rfl e71 dX11_gather_107 ?_
          refine pm_callV (ci := 0) (as := [(1, y67), (1, y70)]) (st := []) hC 87 (fD_X0_add_87 y67 y70 ⟨by exact ow_79f_17 b69, by exact ow_79f_18 b69⟩ ⟨by exact ow_79f_17 b72, by exact ow_79f_18 b72⟩) lm_X11_374 li_X0_add (by decide) (by decide) rfl rfl rfl (by decide) rfl rfl (Nat.le_of_ble_eq_true rfl) ⟨Nat.le_refl _, Or.inl rfl⟩ dX11_gather_110 ⟨rfl, hV52⟩ (fun r73 V74 hp75 => ?_)
          obtain ⟨rfl, hV76, hF77, hE78⟩ := hp75
          replace hb13 := hb13.trans (pf_call_eq hE78)
          change pm_J X 113 [(0, (3, 0)), (1, (3, 87)), (2, (0, a1)), (3, (0, a2)), (4, (0, x6))] [] 118 V74
          have hF79 := pm_ff.tr hF55 hF77 (by decide) (by decide)
          have e80 : V74 0 3 = 4 := by rw [hF77 0 3 (by decide) (by decide)]; exact e56
          have e81 : V74 4 6 = y19 := by rw [hF77 4 6 (by decide) (by decide)]; exact e57
          have e82 : V74 4 7 = 9 := by rw [hF77 4 7 (by decide) (by decide)]; exact e58
          have e83 : V74 4 8 = 10 := by rw [hF77 4 8 (by decide) (by decide)]; exact e59
          have e84 : V74 4 9 = 11 := by rw [hF77 4 9 (by decide) (by decide)]; exact e60
          have e85 : V74 0 5 = 73 := by rw [hF77 0 5 (by decide) (by decide)]; exact e61
          have e86 : V74 73 13 = 76 := by rw [hF77 73 13 (by decide) (by decide)]; exact e62
          have e87 : V74 4 10 = 12 := by rw [hF77 4 10 (by decide) (by decide)]; exact e63
          have e88 : V74 73 14 = y70 := by rw [hF77 73 14 (by decide) (by decide)]; exact e71
          obtain ⟨x89, ei90⟩ : ∃ y : Int, x6 + 1 = y := ⟨_, rfl⟩
          replace hb13 := hb13.trans (pf_let_eq ei90)
          refine pm_iinc (y := x89) (lv' := [(4, (0, x89)), (0, (3, 0)), (1, (3, 87)), (2, (0, a1)), (3, (0, a2))]) hC 4 dX11_gather_113 (by decide) rfl ei90 rfl ?_
          refine pm_goto (tgt := 8) hC dX11_gather_116 (by decide) ?_
          refine pm_lvsub [1, 2, 3, 4, 0] (lv' := [(0, (3, 0)), (1, (3, 87)), (2, (0, a1)), (3, (0, a2)), (4, (0, x89))]) rfl ?_
          exact ih17 _ (by exact ow_79f_19 hm15 b21 c22 ei90) x89 V74 ⟨by exact ow_79f_20 b7 ei90, by exact ow_79f_21 b21 c22 ei90⟩ hV76 hF79 (hT.trans (pf_val_inl hb13)) rfl
        · skip
          replace hb13 := hb13.trans (if_neg (by rw [e62]; decide))
          refine pm_getf (v := 77) hC 73 fl_X11_208 rfl rfl (by decide) rfl e62 dX11_gather_89 ?_
          refine pm_aload_n hC 0 (by decide) dX11_gather_92 rfl ?_
          refine pm_getf (v := 4) hC 0 fl_X11_24 rfl rfl (by decide) rfl e56 dX11_gather_93 ?_
          have e91 : V50 4 10 = 12 := hV52.one 4 10 (by decide) (by decide) rfl
          refine pm_getf (v := 12) hC 4 fl_X11_252 rfl rfl (by decide) rfl e91 dX11_gather_96 ?_
          refine pm_iload hC 4 dX11_gather_99 rfl ?_
          obtain ⟨y92, e93⟩ : ∃ y, V50 12 (x6 : Int).toNat = y := ⟨_, rfl⟩
          replace hb13 := hb13.trans (pf_let_eq e93)
          have b94 := hV52.get 12 (x6 : Int).toNat (lo := 0) (hi := 8) (by decide) (show _ < 60 by exact ow_79f_4 b21 c22) rfl
          rw [e93] at b94
          refine pm_iaload (len := 60) (v := y92) hC 12 rfl rfl (by decide) ⟨by exact ow_79f_5 b7, by exact ow_79f_6 b21 c22⟩ (by decide) e93 dX11_gather_101 ?_
          obtain ⟨y95, e96⟩ : ∃ y, V50 77 (y92 : Int).toNat = y := ⟨_, rfl⟩
          replace hb13 := hb13.trans (pf_let_eq e96)
          have b97 := hV52.get 77 (y92 : Int).toNat (lo := (-9223372036854775808)) (hi := 9223372036854775807) (by decide) (show _ < 9 by exact ow_79f_14 b94) rfl
          rw [e96] at b97
          refine pm_laload (len := 9) (v := y95) hC 77 rfl rfl (by decide) ⟨by exact ow_79f_15 b94, by exact ow_79f_16 b94⟩ (by decide) e96 dX11_gather_102 ?_
          refine pm_aload_n hC 0 (by decide) dX11_gather_103 rfl ?_
          refine pm_getf (v := 73) hC 0 fl_X11_75 rfl rfl (by decide) rfl e61 dX11_gather_104 ?_
          obtain ⟨y98, e99⟩ : ∃ y, V50 73 14 = y := ⟨_, rfl⟩
          have b100 := hV52.get 73 14 (lo := (-9223372036854775808)) (hi := 9223372036854775807) (by decide) (by decide) rfl
          rw [e99] at b100
          replace hb13 := hb13.trans (pf_let_eq e99)
          refine pm_getf (v := y98) hC 73 fl_X11_205 rfl rfl (by decide) rfl e99 dX11_gather_107 ?_
          refine pm_callV (ci := 0) (as := [(1, y95), (1, y98)]) (st := []) hC 87 (fD_X0_add_87 y95 y98 ⟨by exact ow_79f_17 b97, by exact ow_79f_18 b97⟩ ⟨by exact ow_79f_17 b100, by exact ow_79f_18 b100⟩) lm_X11_374 li_X0_add (by decide) (by decide) rfl rfl rfl (by decide) rfl rfl (Nat.le_of_ble_eq_true rfl) ⟨Nat.le_refl _, Or.inl rfl⟩ dX11_gather_110 ⟨rfl, hV52⟩ (fun r101 V102 hp103 => ?_)
          obtain ⟨rfl, hV104, hF105, hE106⟩ := hp103
          replace hb13 := hb13.trans (pf_call_eq hE106)
          change pm_J X 113 [(0, (3, 0)), (1, (3, 87)), (2, (0, a1)), (3, (0, a2)), (4, (0, x6))] [] 118 V102
          have hF107 := pm_ff.tr hF55 hF105 (by decide) (by decide)
          have e108 : V102 0 3 = 4 := by rw [hF105 0 3 (by decide) (by decide)]; exact e56
          have e109 : V102 4 6 = y19 := by rw [hF105 4 6 (by decide) (by decide)]; exact e57
          have e110 : V102 4 7 = 9 := by rw [hF105 4 7 (by decide) (by decide)]; exact e58
          have e111 : V102 4 8 = 10 := by rw [hF105 4 8 (by decide) (by decide)]; exact e59
          have e112 : V102 4 9 = 11 := by rw [hF105 4 9 (by decide) (by decide)]; exact e60
          have e113 : V102 0 5 = 73 := by rw [hF105 0 5 (by decide) (by decide)]; exact e61
          have e114 : V102 73 13 = 77 := by rw [hF105 73 13 (by decide) (by decide)]; exact e62
          have e115 : V102 4 10 = 12 := by rw [hF105 4 10 (by decide) (by decide)]; exact e91
          have e116 : V102 73 14 = y98 := by rw [hF105 73 14 (by decide) (by decide)]; exact e99
          obtain ⟨x117, ei118⟩ : ∃ y : Int, x6 + 1 = y := ⟨_, rfl⟩
          replace hb13 := hb13.trans (pf_let_eq ei118)
          refine pm_iinc (y := x117) (lv' := [(4, (0, x117)), (0, (3, 0)), (1, (3, 87)), (2, (0, a1)), (3, (0, a2))]) hC 4 dX11_gather_113 (by decide) rfl ei118 rfl ?_
          refine pm_goto (tgt := 8) hC dX11_gather_116 (by decide) ?_
          refine pm_lvsub [1, 2, 3, 4, 0] (lv' := [(0, (3, 0)), (1, (3, 87)), (2, (0, a1)), (3, (0, a2)), (4, (0, x117))]) rfl ?_
          exact ih17 _ (by exact ow_79f_19 hm15 b21 c22 ei118) x117 V102 ⟨by exact ow_79f_20 b7 ei118, by exact ow_79f_21 b21 c22 ei118⟩ hV104 hF107 (hT.trans (pf_val_inl hb13)) rfl
      · skip
        replace hb13 := hb13.trans (if_neg c23)
        refine pm_aload_n hC 0 (by decide) dX11_gather_25 rfl ?_
        refine pm_getf (v := 4) hC 0 fl_X11_24 rfl rfl (by decide) rfl e18 dX11_gather_26 ?_
        have e119 : V8 4 7 = 9 := hV9.one 4 7 (by decide) (by decide) rfl
        refine pm_getf (v := 9) hC 4 fl_X11_243 rfl rfl (by decide) rfl e119 dX11_gather_29 ?_
        refine pm_iload hC 4 dX11_gather_32 rfl ?_
        obtain ⟨y120, e121⟩ : ∃ y, V8 9 (x6 : Int).toNat = y := ⟨_, rfl⟩
        replace hb13 := hb13.trans (pf_let_eq e121)
        have b122 := hV9.get1 9 (x6 : Int).toNat (lo := 0) (hi := 999) (by decide) (show _ < 60 by exact ow_79f_4 b21 c22) rfl
        rw [e121] at b122
        refine pm_iaload (len := 60) (v := y120) hC 9 rfl rfl (by decide) ⟨by exact ow_79f_5 b7, by exact ow_79f_6 b21 c22⟩ (by decide) e121 dX11_gather_34 ?_
        refine pm_bipush (v := 100) hC dX11_gather_35 (by decide) ?_
        refine pm_idiv hC ⟨by exact ow_79f_7 b122, by exact ow_79f_22 b122, by exact ow_79f_23 b122⟩ ⟨by decide, by decide, by decide⟩ dX11_gather_37 ?_
        refine pm_iload_n hC 3 dX11_gather_38 rfl ?_
        refine pm_icmp_ne (tgt := 113) hC ⟨by exact ow_79f_24 b122, by exact ow_79f_25 b122⟩ ⟨by exact ow_79f_2 h1, by exact ow_79f_3 h1⟩ dX11_gather_39 (by decide) (fun c123 => ?_) (fun c123 => ?_)
        · skip
          replace hb13 := hb13.trans (if_pos c123)
          obtain ⟨x124, ei125⟩ : ∃ y : Int, x6 + 1 = y := ⟨_, rfl⟩
          replace hb13 := hb13.trans (pf_let_eq ei125)
          refine pm_iinc (y := x124) (lv' := [(4, (0, x124)), (0, (3, 0)), (1, (3, 87)), (2, (0, a1)), (3, (0, a2))]) hC 4 dX11_gather_113 (by decide) rfl ei125 rfl ?_
          refine pm_goto (tgt := 8) hC dX11_gather_116 (by decide) ?_
          refine pm_lvsub [1, 2, 3, 4, 0] (lv' := [(0, (3, 0)), (1, (3, 87)), (2, (0, a1)), (3, (0, a2)), (4, (0, x124))]) rfl ?_
          exact ih17 _ (by exact ow_79f_19 hm15 b21 c22 ei125) x124 V8 ⟨by exact ow_79f_20 b7 ei125, by exact ow_79f_21 b21 c22 ei125⟩ hV9 hF10 (hT.trans (pf_val_inl hb13)) rfl
        · skip
          replace hb13 := hb13.trans (if_neg (fun q => q c123))
          refine pm_aload_n hC 0 (by decide) dX11_gather_42 rfl ?_
          refine pm_aload_n hC 0 (by decide) dX11_gather_43 rfl ?_
          refine pm_getf (v := 4) hC 0 fl_X11_24 rfl rfl (by decide) rfl e18 dX11_gather_44 ?_
          refine pm_getf (v := 9) hC 4 fl_X11_243 rfl rfl (by decide) rfl e119 dX11_gather_47 ?_
          refine pm_iload hC 4 dX11_gather_50 rfl ?_
          refine pm_iaload (len := 60) (v := y120) hC 9 rfl rfl (by decide) ⟨by exact ow_79f_5 b7, by exact ow_79f_6 b21 c22⟩ (by decide) e121 dX11_gather_52 ?_
          refine pm_aload_n hC 0 (by decide) dX11_gather_53 rfl ?_
          refine pm_getf (v := 4) hC 0 fl_X11_24 rfl rfl (by decide) rfl e18 dX11_gather_54 ?_
          have e126 : V8 4 8 = 10 := hV9.one 4 8 (by decide) (by decide) rfl
          refine pm_getf (v := 10) hC 4 fl_X11_246 rfl rfl (by decide) rfl e126 dX11_gather_57 ?_
          refine pm_iload hC 4 dX11_gather_60 rfl ?_
          obtain ⟨y127, e128⟩ : ∃ y, V8 10 (x6 : Int).toNat = y := ⟨_, rfl⟩
          replace hb13 := hb13.trans (pf_let_eq e128)
          have b129 := hV9.get 10 (x6 : Int).toNat (lo := 0) (hi := 99) (by decide) (show _ < 60 by exact ow_79f_4 b21 c22) rfl
          rw [e128] at b129
          refine pm_iaload (len := 60) (v := y127) hC 10 rfl rfl (by decide) ⟨by exact ow_79f_5 b7, by exact ow_79f_6 b21 c22⟩ (by decide) e128 dX11_gather_62 ?_
          refine pm_aload_n hC 0 (by decide) dX11_gather_63 rfl ?_
          refine pm_getf (v := 4) hC 0 fl_X11_24 rfl rfl (by decide) rfl e18 dX11_gather_64 ?_
          have e130 : V8 4 9 = 11 := hV9.one 4 9 (by decide) (by decide) rfl
          refine pm_getf (v := 11) hC 4 fl_X11_249 rfl rfl (by decide) rfl e130 dX11_gather_67 ?_
          refine pm_iload hC 4 dX11_gather_70 rfl ?_
          obtain ⟨y131, e132⟩ : ∃ y, V8 11 (x6 : Int).toNat = y := ⟨_, rfl⟩
          replace hb13 := hb13.trans (pf_let_eq e132)
          have b133 := hV9.get 11 (x6 : Int).toNat (lo := (-99)) (hi := 99) (by decide) (show _ < 60 by exact ow_79f_4 b21 c22) rfl
          rw [e132] at b133
          refine pm_iaload (len := 60) (v := y131) hC 11 rfl rfl (by decide) ⟨by exact ow_79f_5 b7, by exact ow_79f_6 b21 c22⟩ (by decide) e132 dX11_gather_72 ?_
          refine pm_callV (ci := 11) (as := [(0, y120), (0, y127), (0, y131)]) (st := []) hC 0 (fD_X11_pose_0 y120 y127 y131 ⟨by exact ow_79f_7 b122, by exact ow_79f_8 b122⟩ ⟨by exact ow_79f_9 b129, by exact ow_79f_10 b129⟩ ⟨by exact ow_79f_11 b133, by exact ow_79f_12 b133⟩ (by exact ow_79f_13 b122)) lm_X11_229 li_X11_pose (by decide) (by decide) rfl rfl rfl (by decide) rfl rfl (Nat.le_of_ble_eq_true rfl) ⟨Nat.le_refl _, Or.inl rfl⟩ dX11_gather_73 ⟨rfl, hV9⟩ (fun r134 V135 hp136 => ?_)
          obtain ⟨rfl, hV137, hF138, hE139⟩ := hp136
          replace hb13 := hb13.trans (pf_call_eq hE139)
          change pm_J X 76 [(0, (3, 0)), (1, (3, 87)), (2, (0, a1)), (3, (0, a2)), (4, (0, x6))] [] 118 V135
          have hF140 := pm_ff.tr hF10 hF138 (by decide) (by decide)
          have e141 : V135 0 3 = 4 := by rw [hF138 0 3 (by decide) (by decide)]; exact e18
          have e142 : V135 4 6 = y19 := by rw [hF138 4 6 (by decide) (by decide)]; exact e20
          have e143 : V135 4 7 = 9 := by rw [hF138 4 7 (by decide) (by decide)]; exact e119
          have e144 : V135 4 8 = 10 := by rw [hF138 4 8 (by decide) (by decide)]; exact e126
          have e145 : V135 4 9 = 11 := by rw [hF138 4 9 (by decide) (by decide)]; exact e130
          refine pm_aload_n hC 0 (by decide) dX11_gather_76 rfl ?_
          have e146 : V135 0 5 = 73 := hV137.one 0 5 (by decide) (by decide) rfl
          refine pm_getf (v := 73) hC 0 fl_X11_75 rfl rfl (by decide) rfl e146 dX11_gather_77 ?_
          refine pm_iload_n hC 2 dX11_gather_80 rfl ?_
          refine pm_callV (ci := 10) (as := [(0, a1)]) (st := []) hC 73 (fD_X10_weigh_73 a1 ⟨by exact ow_79f_2 h0, by exact ow_79f_3 h0⟩) lm_X11_294 li_X10_weigh (by decide) (by decide) rfl rfl rfl (by decide) rfl rfl (Nat.le_of_ble_eq_true rfl) ⟨Nat.le_refl _, Or.inl rfl⟩ dX11_gather_81 ⟨rfl, hV137⟩ (fun r147 V148 hp149 => ?_)
          obtain ⟨rfl, hV150, hF151, hE152⟩ := hp149
          replace hb13 := hb13.trans (pf_call_eq hE152)
          change pm_J X 84 [(0, (3, 0)), (1, (3, 87)), (2, (0, a1)), (3, (0, a2)), (4, (0, x6))] [] 118 V148
          have hF153 := pm_ff.tr hF140 hF151 (by decide) (by decide)
          have e154 : V148 0 3 = 4 := by rw [hF151 0 3 (by decide) (by decide)]; exact e141
          have e155 : V148 4 6 = y19 := by rw [hF151 4 6 (by decide) (by decide)]; exact e142
          have e156 : V148 4 7 = 9 := by rw [hF151 4 7 (by decide) (by decide)]; exact e143
          have e157 : V148 4 8 = 10 := by rw [hF151 4 8 (by decide) (by decide)]; exact e144
          have e158 : V148 4 9 = 11 := by rw [hF151 4 9 (by decide) (by decide)]; exact e145
          have e159 : V148 0 5 = 73 := by rw [hF151 0 5 (by decide) (by decide)]; exact e146
          refine pm_aload_n hC 1 (by decide) dX11_gather_84 rfl ?_
          refine pm_aload_n hC 0 (by decide) dX11_gather_85 rfl ?_
          refine pm_getf (v := 73) hC 0 fl_X11_75 rfl rfl (by decide) rfl e159 dX11_gather_86 ?_
          rcases hV150.get2 73 13 (lo := 76) (hi := 77) (by decide) (by decide) rfl with e160 | e160
          · skip
            replace hb13 := hb13.trans (if_pos e160)
            refine pm_getf (v := 76) hC 73 fl_X11_208 rfl rfl (by decide) rfl e160 dX11_gather_89 ?_
            refine pm_aload_n hC 0 (by decide) dX11_gather_92 rfl ?_
            refine pm_getf (v := 4) hC 0 fl_X11_24 rfl rfl (by decide) rfl e154 dX11_gather_93 ?_
            have e161 : V148 4 10 = 12 := hV150.one 4 10 (by decide) (by decide) rfl
            refine pm_getf (v := 12) hC 4 fl_X11_252 rfl rfl (by decide) rfl e161 dX11_gather_96 ?_
            refine pm_iload hC 4 dX11_gather_99 rfl ?_
            obtain ⟨y162, e163⟩ : ∃ y, V148 12 (x6 : Int).toNat = y := ⟨_, rfl⟩
            replace hb13 := hb13.trans (pf_let_eq e163)
            have b164 := hV150.get 12 (x6 : Int).toNat (lo := 0) (hi := 8) (by decide) (show _ < 60 by exact ow_79f_4 b21 c22) rfl
            rw [e163] at b164
            refine pm_iaload (len := 60) (v := y162) hC 12 rfl rfl (by decide) ⟨by exact ow_79f_5 b7, by exact ow_79f_6 b21 c22⟩ (by decide) e163 dX11_gather_101 ?_
            obtain ⟨y165, e166⟩ : ∃ y, V148 76 (y162 : Int).toNat = y := ⟨_, rfl⟩
            replace hb13 := hb13.trans (pf_let_eq e166)
            have b167 := hV150.get 76 (y162 : Int).toNat (lo := (-9223372036854775808)) (hi := 9223372036854775807) (by decide) (show _ < 9 by exact ow_79f_14 b164) rfl
            rw [e166] at b167
            refine pm_laload (len := 9) (v := y165) hC 76 rfl rfl (by decide) ⟨by exact ow_79f_15 b164, by exact ow_79f_16 b164⟩ (by decide) e166 dX11_gather_102 ?_
            refine pm_aload_n hC 0 (by decide) dX11_gather_103 rfl ?_
            refine pm_getf (v := 73) hC 0 fl_X11_75 rfl rfl (by decide) rfl e159 dX11_gather_104 ?_
            obtain ⟨y168, e169⟩ : ∃ y, V148 73 14 = y := ⟨_, rfl⟩
            have b170 := hV150.get 73 14 (lo := (-9223372036854775808)) (hi := 9223372036854775807) (by decide) (by decide) rfl
            rw [e169] at b170
            replace hb13 := hb13.trans (pf_let_eq e169)
            refine pm_getf (v := y168) hC 73 fl_X11_205 rfl rfl (by decide) rfl e169 dX11_gather_107 ?_
            refine pm_callV (ci := 0) (as := [(1, y165), (1, y168)]) (st := []) hC 87 (fD_X0_add_87 y165 y168 ⟨by exact ow_79f_17 b167, by exact ow_79f_18 b167⟩ ⟨by exact ow_79f_17 b170, by exact ow_79f_18 b170⟩) lm_X11_374 li_X0_add (by decide) (by decide) rfl rfl rfl (by decide) rfl rfl (Nat.le_of_ble_eq_true rfl) ⟨Nat.le_refl _, Or.inl rfl⟩ dX11_gather_110 ⟨rfl, hV150⟩ (fun r171 V172 hp173 => ?_)
            obtain ⟨rfl, hV174, hF175, hE176⟩ := hp173
            replace hb13 := hb13.trans (pf_call_eq hE176)
            change pm_J X 113 [(0, (3, 0)), (1, (3, 87)), (2, (0, a1)), (3, (0, a2)), (4, (0, x6))] [] 118 V172
            have hF177 := pm_ff.tr hF153 hF175 (by decide) (by decide)
            have e178 : V172 0 3 = 4 := by rw [hF175 0 3 (by decide) (by decide)]; exact e154
            have e179 : V172 4 6 = y19 := by rw [hF175 4 6 (by decide) (by decide)]; exact e155
            have e180 : V172 4 7 = 9 := by rw [hF175 4 7 (by decide) (by decide)]; exact e156
            have e181 : V172 4 8 = 10 := by rw [hF175 4 8 (by decide) (by decide)]; exact e157
            have e182 : V172 4 9 = 11 := by rw [hF175 4 9 (by decide) (by decide)]; exact e158
            have e183 : V172 0 5 = 73 := by rw [hF175 0 5 (by decide) (by decide)]; exact e159
            have e184 : V172 73 13 = 76 := by rw [hF175 73 13 (by decide) (by decide)]; exact e160
            have e185 : V172 4 10 = 12 := by rw [hF175 4 10 (by decide) (by decide)]; exact e161
            have e186 : V172 73 14 = y168 := by rw [hF175 73 14 (by decide) (by decide)]; exact e169
            obtain ⟨x187, ei188⟩ : ∃ y : Int, x6 + 1 = y := ⟨_, rfl⟩
            replace hb13 := hb13.trans (pf_let_eq ei188)
            refine pm_iinc (y := x187) (lv' := [(4, (0, x187)), (0, (3, 0)), (1, (3, 87)), (2, (0, a1)), (3, (0, a2))]) hC 4 dX11_gather_113 (by decide) rfl ei188 rfl ?_
            refine pm_goto (tgt := 8) hC dX11_gather_116 (by decide) ?_
            refine pm_lvsub [1, 2, 3, 4, 0] (lv' := [(0, (3, 0)), (1, (3, 87)), (2, (0, a1)), (3, (0, a2)), (4, (0, x187))]) rfl ?_
            exact ih17 _ (by exact ow_79f_19 hm15 b21 c22 ei188) x187 V172 ⟨by exact ow_79f_20 b7 ei188, by exact ow_79f_21 b21 c22 ei188⟩ hV174 hF177 (hT.trans (pf_val_inl hb13)) rfl
          · skip
            replace hb13 := hb13.trans (if_neg (by rw [e160]; decide))
            refine pm_getf (v := 77) hC 73 fl_X11_208 rfl rfl (by decide) rfl e160 dX11_gather_89 ?_
            refine pm_aload_n hC 0 (by decide) dX11_gather_92 rfl ?_
            refine pm_getf (v := 4) hC 0 fl_X11_24 rfl rfl (by decide) rfl e154 dX11_gather_93 ?_
            have e189 : V148 4 10 = 12 := hV150.one 4 10 (by decide) (by decide) rfl
            refine pm_getf (v := 12) hC 4 fl_X11_252 rfl rfl (by decide) rfl e189 dX11_gather_96 ?_
            refine pm_iload hC 4 dX11_gather_99 rfl ?_
            obtain ⟨y190, e191⟩ : ∃ y, V148 12 (x6 : Int).toNat = y := ⟨_, rfl⟩
            replace hb13 := hb13.trans (pf_let_eq e191)
            have b192 := hV150.get 12 (x6 : Int).toNat (lo := 0) (hi := 8) (by decide) (show _ < 60 by exact ow_79f_4 b21 c22) rfl
            rw [e191] at b192
            refine pm_iaload (len := 60) (v := y190) hC 12 rfl rfl (by decide) ⟨by exact ow_79f_5 b7, by exact ow_79f_6 b21 c22⟩ (by decide) e191 dX11_gather_101 ?_
            obtain ⟨y193, e194⟩ : ∃ y, V148 77 (y190 : Int).toNat = y := ⟨_, rfl⟩
            replace hb13 := hb13.trans (pf_let_eq e194)
            have b195 := hV150.get 77 (y190 : Int).toNat (lo := (-9223372036854775808)) (hi := 9223372036854775807) (by decide) (show _ < 9 by exact ow_79f_14 b192) rfl
            rw [e194] at b195
            refine pm_laload (len := 9) (v := y193) hC 77 rfl rfl (by decide) ⟨by exact ow_79f_15 b192, by exact ow_79f_16 b192⟩ (by decide) e194 dX11_gather_102 ?_
            refine pm_aload_n hC 0 (by decide) dX11_gather_103 rfl ?_
            refine pm_getf (v := 73) hC 0 fl_X11_75 rfl rfl (by decide) rfl e159 dX11_gather_104 ?_
            obtain ⟨y196, e197⟩ : ∃ y, V148 73 14 = y := ⟨_, rfl⟩
            have b198 := hV150.get 73 14 (lo := (-9223372036854775808)) (hi := 9223372036854775807) (by decide) (by decide) rfl
            rw [e197] at b198
            replace hb13 := hb13.trans (pf_let_eq e197)
            refine pm_getf (v := y196) hC 73 fl_X11_205 rfl rfl (by decide) rfl e197 dX11_gather_107 ?_
            refine pm_callV (ci := 0) (as := [(1, y193), (1, y196)]) (st := []) hC 87 (fD_X0_add_87 y193 y196 ⟨by exact ow_79f_17 b195, by exact ow_79f_18 b195⟩ ⟨by exact ow_79f_17 b198, by exact ow_79f_18 b198⟩) lm_X11_374 li_X0_add (by decide) (by decide) rfl rfl rfl (by decide) rfl rfl (Nat.le_of_ble_eq_true rfl) ⟨Nat.le_refl _, Or.inl rfl⟩ dX11_gather_110 ⟨rfl, hV150⟩ (fun r199 V200 hp201 => ?_)
            obtain ⟨rfl, hV202, hF203, hE204⟩ := hp201
            replace hb13 := hb13.trans (pf_call_eq hE204)
            change pm_J X 113 [(0, (3, 0)), (1, (3, 87)), (2, (0, a1)), (3, (0, a2)), (4, (0, x6))] [] 118 V200
            have hF205 := pm_ff.tr hF153 hF203 (by decide) (by decide)
            have e206 : V200 0 3 = 4 := by rw [hF203 0 3 (by decide) (by decide)]; exact e154
            have e207 : V200 4 6 = y19 := by rw [hF203 4 6 (by decide) (by decide)]; exact e155
            have e208 : V200 4 7 = 9 := by rw [hF203 4 7 (by decide) (by decide)]; exact e156
            have e209 : V200 4 8 = 10 := by rw [hF203 4 8 (by decide) (by decide)]; exact e157
            have e210 : V200 4 9 = 11 := by rw [hF203 4 9 (by decide) (by decide)]; exact e158
            have e211 : V200 0 5 = 73 := by rw [hF203 0 5 (by decide) (by decide)]; exact e159
            have e212 : V200 73 13 = 77 := by rw [hF203 73 13 (by decide) (by decide)]; exact e160
            have e213 : V200 4 10 = 12 := by rw [hF203 4 10 (by decide) (by decide)]; exact e189
            have e214 : V200 73 14 = y196 := by rw [hF203 73 14 (by decide) (by decide)]; exact e197
            obtain ⟨x215, ei216⟩ : ∃ y : Int, x6 + 1 = y := ⟨_, rfl⟩
            replace hb13 := hb13.trans (pf_let_eq ei216)
            refine pm_iinc (y := x215) (lv' := [(4, (0, x215)), (0, (3, 0)), (1, (3, 87)), (2, (0, a1)), (3, (0, a2))]) hC 4 dX11_gather_113 (by decide) rfl ei216 rfl ?_
            refine pm_goto (tgt := 8) hC dX11_gather_116 (by decide) ?_
            refine pm_lvsub [1, 2, 3, 4, 0] (lv' := [(0, (3, 0)), (1, (3, 87)), (2, (0, a1)), (3, (0, a2)), (4, (0, x215))]) rfl ?_
            exact ih17 _ (by exact ow_79f_19 hm15 b21 c22 ei216) x215 V200 ⟨by exact ow_79f_20 b7 ei216, by exact ow_79f_21 b21 c22 ei216⟩ hV202 hF205 (hT.trans (pf_val_inl hb13)) rfl
  refine pm_lvsub [1, 2, 3, 4, 0] (lv' := [(0, (3, 0)), (1, (3, 87)), (2, (0, a1)), (3, (0, a2)), (4, (0, 0))]) rfl ?_
  exact L14 _ 0 V1 ⟨by decide, by decide⟩ hV3 hF4 hT rfl
set_option maxHeartbeats 4000000 in
set_option maxRecDepth 100000 in
theorem uD_X0_isNever_87  : pm_K 1 yX0_isNever cX0_isNever 2 (some .boolean) (fun av V => av = [(3, 87)] ∧ pm_ok 0 90 V) (fun _ V r V' => ∃ y, r = some (0, y) ∧ (0 ≤ y ∧ y ≤ 1) ∧ V = V') := by
  refine pm_MT.of (by decide) ⟨Nat.le_refl _, by decide⟩ (fun av V h => by rw [h.1]; exact (by decide : pm_words [(3, 0)] ≤ 2)) ?_
  rintro X av V0 hC - hR ⟨rfl, hV0⟩
  change pm_J X 0 [(0, (3, 87))] [] 118 V0
  refine pm_iconst (v := 0) hC dX0_isNever_0 ?_
  refine pm_istore_n (lv' := [(1, (0, 0)), (0, (3, 87))]) hC dX0_isNever_1 (by decide) rfl ?_
  have L6 : ∀ (N8 : Nat) (x1 : Int), (0 ≤ x1 ∧ x1 ≤ 60) → (Int.toNat (60 - x1)) = N8 → pm_J X 2 [(0, (3, 87)), (1, (0, x1))] [] 118 V0 := by
    intro N8
    induction N8 using Nat.strongRecOn with
    | _ N8 ih9 =>
    intro x1 b2 hm7
    refine pm_iload_n hC 1 dX0_isNever_2 rfl ?_
    refine pm_aload_n hC 0 (by decide) dX0_isNever_3 rfl ?_
    obtain ⟨y10, e11⟩ : ∃ y, V0 87 0 = y := ⟨_, rfl⟩
    have b12 := hV0.get 87 0 (lo := 0) (hi := 60) (by decide) (by decide) rfl
    rw [e11] at b12
    refine pm_getf (v := y10) hC 87 fl_X0_9 rfl rfl (by decide) rfl e11 dX0_isNever_4 ?_
    refine pm_icmp_ge (tgt := 29) hC ⟨by exact ow_79f_0 b2, by exact ow_79f_1 b2⟩ ⟨by exact ow_79f_0 b12, by exact ow_79f_1 b12⟩ dX0_isNever_7 (by decide) (fun c13 => ?_) (fun c13 => ?_)
    · skip
      refine pm_iconst (v := 0) hC dX0_isNever_29 ?_
      exact pm_iret hC hR (pm_narZ (by exact ow_79f_26)) ⟨0, rfl, ⟨by exact ow_79f_27, by exact ow_79f_28⟩, rfl⟩ dX0_isNever_30
    · skip
      refine pm_aload_n hC 0 (by decide) dX0_isNever_10 rfl ?_
      have e14 : V0 87 1 = 88 := hV0.one 87 1 (by decide) (by decide) rfl
      refine pm_getf (v := 88) hC 87 fl_X0_15 rfl rfl (by decide) rfl e14 dX0_isNever_11 ?_
      refine pm_iload_n hC 1 dX0_isNever_14 rfl ?_
      obtain ⟨y15, e16⟩ : ∃ y, V0 88 (x1 : Int).toNat = y := ⟨_, rfl⟩
      have b17 := hV0.get 88 (x1 : Int).toNat (lo := (-9223372036854775808)) (hi := 9223372036854775807) (by decide) (show _ < 60 by exact ow_79f_4 b12 c13) rfl
      rw [e16] at b17
      refine pm_laload (len := 60) (v := y15) hC 88 rfl rfl (by decide) ⟨by exact ow_79f_5 b2, by exact ow_79f_6 b12 c13⟩ (by decide) e16 dX0_isNever_15 ?_
      refine pm_lconst (x := 0) hC dX0_isNever_16 rfl ?_
      refine pm_lcmp hC ⟨by exact ow_79f_17 b17, by exact ow_79f_18 b17⟩ ⟨by decide, by decide⟩ dX0_isNever_17 (fun y18 b19 => ?_)
      refine pm_if_gt (tgt := 23) hC ⟨by exact ow_79f_29 b19, by exact ow_79f_30 b19⟩ dX0_isNever_18 (by decide) (fun c20 => ?_) (fun c20 => ?_)
      · skip
        obtain ⟨x21, ei22⟩ : ∃ y : Int, x1 + 1 = y := ⟨_, rfl⟩
        refine pm_iinc (y := x21) (lv' := [(1, (0, x21)), (0, (3, 87))]) hC 1 dX0_isNever_23 (by decide) rfl ei22 rfl ?_
        refine pm_goto (tgt := 2) hC dX0_isNever_26 (by decide) ?_
        refine pm_lvsub [1, 0] (lv' := [(0, (3, 87)), (1, (0, x21))]) rfl ?_
        exact ih9 _ (by exact ow_79f_19 hm7 b12 c13 ei22) x21 ⟨by exact ow_79f_20 b2 ei22, by exact ow_79f_21 b12 c13 ei22⟩ rfl
      · skip
        refine pm_iconst (v := 1) hC dX0_isNever_21 ?_
        exact pm_iret hC hR (pm_narZ (by exact ow_79f_31)) ⟨1, rfl, ⟨by exact ow_79f_28, by exact ow_79f_32⟩, rfl⟩ dX0_isNever_22
  refine pm_lvsub [1, 0] (lv' := [(0, (3, 87)), (1, (0, 0))]) rfl ?_
  exact L6 _ 0 ⟨by decide, by decide⟩ rfl
set_option maxHeartbeats 4000000 in
set_option maxRecDepth 100000 in
theorem uD_X4_factorOf_84_87 (a1 : Int) (h0 : 0 ≤ a1 ∧ a1 ≤ 119) : pm_K 1 yX4_factorOf cX4_factorOf 6 (some .long) (fun av V => av = [(3, 84), (3, 87), (0, a1)] ∧ pm_ok 0 90 V) (fun _ V r V' => ∃ y, r = some (1, y) ∧ (1 ≤ y ∧ y ≤ 9223372036854775807) ∧ V = V') := by
  refine pm_MT.of (by decide) ⟨Nat.le_refl _, by decide⟩ (fun av V h => by rw [h.1]; exact (by decide : pm_words [(3, 0), (3, 0), (0, 0)] ≤ 6)) ?_
  rintro X av V0 hC - hR ⟨rfl, hV0⟩
  change pm_J X 0 [(0, (3, 84)), (1, (3, 87)), (2, (0, a1))] [] 118 V0
  refine pm_iload_n hC 2 dX4_factorOf_0 rfl ?_
  refine pm_iconst (v := 2) hC dX4_factorOf_1 ?_
  refine pm_idiv hC ⟨by exact ow_79f_33 h0, by exact ow_79f_34 h0, by exact ow_79f_35 h0⟩ ⟨by decide, by decide, by decide⟩ dX4_factorOf_2 ?_
  refine pm_istore_n (lv' := [(3, (0, (a1 / 2))), (0, (3, 84)), (1, (3, 87)), (2, (0, a1))]) hC dX4_factorOf_3 (by decide) rfl ?_
  refine pm_iload_n hC 3 dX4_factorOf_4 rfl ?_
  refine pm_iconst (v := 2) hC dX4_factorOf_5 ?_
  refine pm_irem hC ⟨by exact ow_79f_33 h0, by exact ow_79f_34 h0, by exact ow_79f_35 h0⟩ ⟨by decide, by decide, by decide⟩ dX4_factorOf_6 ?_
  refine pm_if_ne (tgt := 19) hC ⟨by exact ow_79f_36, by exact ow_79f_37⟩ dX4_factorOf_7 (by decide) (fun c1 => ?_) (fun c1 => ?_)
  · skip
    refine pm_aload_n hC 2 (by decide) dX4_factorOf_19 rfl ?_
    have e2 : V0 87 2 = 89 := hV0.one 87 2 (by decide) (by decide) rfl
    refine pm_getf (v := 89) hC 87 fl_X4_55 rfl rfl (by decide) rfl e2 dX4_factorOf_20 ?_
    refine pm_iload_n hC 0 dX4_factorOf_23 rfl ?_
    obtain ⟨y3, e4⟩ : ∃ y, V0 89 ((a1 / 2) : Int).toNat = y := ⟨_, rfl⟩
    have b5 := hV0.get 89 ((a1 / 2) : Int).toNat (lo := (-9223372036854775808)) (hi := 9223372036854775807) (by decide) (show _ < 60 by exact ow_79f_38 h0) rfl
    rw [e4] at b5
    refine pm_laload (len := 60) (v := y3) hC 89 rfl rfl (by decide) ⟨by exact ow_79f_39 h0, by exact ow_79f_40 h0⟩ (by decide) e4 dX4_factorOf_24 ?_
    refine pm_lstore (lv' := [(4, (1, y3)), (3, (0, (a1 / 2))), (0, (3, 84)), (1, (3, 87)), (2, (0, a1))]) hC dX4_factorOf_25 (by decide) rfl ?_
    refine pm_lconst (x := 1) hC dX4_factorOf_27 rfl ?_
    refine pm_lload hC 0 dX4_factorOf_28 rfl ?_
    refine pm_mmaxL hC 4168 4169 1018 4170 ⟨by decide, by decide⟩ ⟨by exact ow_79f_17 b5, by exact ow_79f_18 b5⟩ (by decide) wL_X4_58 wS_mmaxL wI_math wC_mmaxL (Nat.le_of_ble_eq_true rfl) dX4_factorOf_30 (fun y6 b7 => ?_)
    have he8 : pm_mx 1 y3 = y6 := pm_mx_of b7
    replace b7 : 1 ≤ y6 ∧ y6 ≤ 9223372036854775807 ∧ 1 ≤ y6 ∧ y3 ≤ y6 := ⟨by exact ow_79f_41 b7, by exact ow_79f_42 b5 b7, b7.1, b7.2.1⟩
    exact pm_lret hC hR ⟨y6, rfl, ⟨by exact ow_79f_43 b7, by exact ow_79f_44 b7⟩, rfl⟩ dX4_factorOf_33
  · skip
    refine pm_aload_n hC 1 (by decide) dX4_factorOf_10 rfl ?_
    have e9 : V0 84 1 = 85 := hV0.one 84 1 (by decide) (by decide) rfl
    refine pm_getf (v := 85) hC 84 fl_X4_51 rfl rfl (by decide) rfl e9 dX4_factorOf_11 ?_
    refine pm_iload_n hC 0 dX4_factorOf_14 rfl ?_
    obtain ⟨y10, e11⟩ : ∃ y, V0 85 ((a1 / 2) : Int).toNat = y := ⟨_, rfl⟩
    have b12 := hV0.get 85 ((a1 / 2) : Int).toNat (lo := (-9223372036854775808)) (hi := 9223372036854775807) (by decide) (show _ < 60 by exact ow_79f_45 h0 c1) rfl
    rw [e11] at b12
    refine pm_laload (len := 60) (v := y10) hC 85 rfl rfl (by decide) ⟨by exact ow_79f_46 h0 c1, by exact ow_79f_47 h0 c1⟩ (by decide) e11 dX4_factorOf_15 ?_
    refine pm_goto (tgt := 25) hC dX4_factorOf_16 (by decide) ?_
    refine pm_lstore (lv' := [(4, (1, y10)), (3, (0, (a1 / 2))), (0, (3, 84)), (1, (3, 87)), (2, (0, a1))]) hC dX4_factorOf_25 (by decide) rfl ?_
    refine pm_lconst (x := 1) hC dX4_factorOf_27 rfl ?_
    refine pm_lload hC 0 dX4_factorOf_28 rfl ?_
    refine pm_mmaxL hC 4168 4169 1018 4170 ⟨by decide, by decide⟩ ⟨by exact ow_79f_17 b12, by exact ow_79f_18 b12⟩ (by decide) wL_X4_58 wS_mmaxL wI_math wC_mmaxL (Nat.le_of_ble_eq_true rfl) dX4_factorOf_30 (fun y13 b14 => ?_)
    have he15 : pm_mx 1 y10 = y13 := pm_mx_of b14
    replace b14 : 1 ≤ y13 ∧ y13 ≤ 9223372036854775807 ∧ 1 ≤ y13 ∧ y10 ≤ y13 := ⟨by exact ow_79f_41 b14, by exact ow_79f_42 b12 b14, b14.1, b14.2.1⟩
    exact pm_lret hC hR ⟨y13, rfl, ⟨by exact ow_79f_43 b14, by exact ow_79f_44 b14⟩, rfl⟩ dX4_factorOf_33
set_option maxHeartbeats 4000000 in
set_option maxRecDepth 100000 in
theorem uD_X4_factorOf_87_84 (a1 : Int) (h0 : 0 ≤ a1 ∧ a1 ≤ 119) : pm_K 1 yX4_factorOf cX4_factorOf 6 (some .long) (fun av V => av = [(3, 87), (3, 84), (0, a1)] ∧ pm_ok 0 90 V) (fun _ V r V' => ∃ y, r = some (1, y) ∧ (1 ≤ y ∧ y ≤ 9223372036854775807) ∧ V = V') := by
  refine pm_MT.of (by decide) ⟨Nat.le_refl _, by decide⟩ (fun av V h => by rw [h.1]; exact (by decide : pm_words [(3, 0), (3, 0), (0, 0)] ≤ 6)) ?_
  rintro X av V0 hC - hR ⟨rfl, hV0⟩
  change pm_J X 0 [(0, (3, 87)), (1, (3, 84)), (2, (0, a1))] [] 118 V0
  refine pm_iload_n hC 2 dX4_factorOf_0 rfl ?_
  refine pm_iconst (v := 2) hC dX4_factorOf_1 ?_
  refine pm_idiv hC ⟨by exact ow_79f_33 h0, by exact ow_79f_34 h0, by exact ow_79f_35 h0⟩ ⟨by decide, by decide, by decide⟩ dX4_factorOf_2 ?_
  refine pm_istore_n (lv' := [(3, (0, (a1 / 2))), (0, (3, 87)), (1, (3, 84)), (2, (0, a1))]) hC dX4_factorOf_3 (by decide) rfl ?_
  refine pm_iload_n hC 3 dX4_factorOf_4 rfl ?_
  refine pm_iconst (v := 2) hC dX4_factorOf_5 ?_
  refine pm_irem hC ⟨by exact ow_79f_33 h0, by exact ow_79f_34 h0, by exact ow_79f_35 h0⟩ ⟨by decide, by decide, by decide⟩ dX4_factorOf_6 ?_
  refine pm_if_ne (tgt := 19) hC ⟨by exact ow_79f_36, by exact ow_79f_37⟩ dX4_factorOf_7 (by decide) (fun c1 => ?_) (fun c1 => ?_)
  · skip
    refine pm_aload_n hC 2 (by decide) dX4_factorOf_19 rfl ?_
    have e2 : V0 84 2 = 86 := hV0.one 84 2 (by decide) (by decide) rfl
    refine pm_getf (v := 86) hC 84 fl_X4_55 rfl rfl (by decide) rfl e2 dX4_factorOf_20 ?_
    refine pm_iload_n hC 0 dX4_factorOf_23 rfl ?_
    obtain ⟨y3, e4⟩ : ∃ y, V0 86 ((a1 / 2) : Int).toNat = y := ⟨_, rfl⟩
    have b5 := hV0.get 86 ((a1 / 2) : Int).toNat (lo := (-9223372036854775808)) (hi := 9223372036854775807) (by decide) (show _ < 60 by exact ow_79f_38 h0) rfl
    rw [e4] at b5
    refine pm_laload (len := 60) (v := y3) hC 86 rfl rfl (by decide) ⟨by exact ow_79f_39 h0, by exact ow_79f_40 h0⟩ (by decide) e4 dX4_factorOf_24 ?_
    refine pm_lstore (lv' := [(4, (1, y3)), (3, (0, (a1 / 2))), (0, (3, 87)), (1, (3, 84)), (2, (0, a1))]) hC dX4_factorOf_25 (by decide) rfl ?_
    refine pm_lconst (x := 1) hC dX4_factorOf_27 rfl ?_
    refine pm_lload hC 0 dX4_factorOf_28 rfl ?_
    refine pm_mmaxL hC 4168 4169 1018 4170 ⟨by decide, by decide⟩ ⟨by exact ow_79f_17 b5, by exact ow_79f_18 b5⟩ (by decide) wL_X4_58 wS_mmaxL wI_math wC_mmaxL (Nat.le_of_ble_eq_true rfl) dX4_factorOf_30 (fun y6 b7 => ?_)
    have he8 : pm_mx 1 y3 = y6 := pm_mx_of b7
    replace b7 : 1 ≤ y6 ∧ y6 ≤ 9223372036854775807 ∧ 1 ≤ y6 ∧ y3 ≤ y6 := ⟨by exact ow_79f_41 b7, by exact ow_79f_42 b5 b7, b7.1, b7.2.1⟩
    exact pm_lret hC hR ⟨y6, rfl, ⟨by exact ow_79f_43 b7, by exact ow_79f_44 b7⟩, rfl⟩ dX4_factorOf_33
  · skip
    refine pm_aload_n hC 1 (by decide) dX4_factorOf_10 rfl ?_
    have e9 : V0 87 1 = 88 := hV0.one 87 1 (by decide) (by decide) rfl
    refine pm_getf (v := 88) hC 87 fl_X4_51 rfl rfl (by decide) rfl e9 dX4_factorOf_11 ?_
    refine pm_iload_n hC 0 dX4_factorOf_14 rfl ?_
    obtain ⟨y10, e11⟩ : ∃ y, V0 88 ((a1 / 2) : Int).toNat = y := ⟨_, rfl⟩
    have b12 := hV0.get 88 ((a1 / 2) : Int).toNat (lo := (-9223372036854775808)) (hi := 9223372036854775807) (by decide) (show _ < 60 by exact ow_79f_45 h0 c1) rfl
    rw [e11] at b12
    refine pm_laload (len := 60) (v := y10) hC 88 rfl rfl (by decide) ⟨by exact ow_79f_46 h0 c1, by exact ow_79f_47 h0 c1⟩ (by decide) e11 dX4_factorOf_15 ?_
    refine pm_goto (tgt := 25) hC dX4_factorOf_16 (by decide) ?_
    refine pm_lstore (lv' := [(4, (1, y10)), (3, (0, (a1 / 2))), (0, (3, 87)), (1, (3, 84)), (2, (0, a1))]) hC dX4_factorOf_25 (by decide) rfl ?_
    refine pm_lconst (x := 1) hC dX4_factorOf_27 rfl ?_
    refine pm_lload hC 0 dX4_factorOf_28 rfl ?_
    refine pm_mmaxL hC 4168 4169 1018 4170 ⟨by decide, by decide⟩ ⟨by exact ow_79f_17 b12, by exact ow_79f_18 b12⟩ (by decide) wL_X4_58 wS_mmaxL wI_math wC_mmaxL (Nat.le_of_ble_eq_true rfl) dX4_factorOf_30 (fun y13 b14 => ?_)
    have he15 : pm_mx 1 y10 = y13 := pm_mx_of b14
    replace b14 : 1 ≤ y13 ∧ y13 ≤ 9223372036854775807 ∧ 1 ≤ y13 ∧ y10 ≤ y13 := ⟨by exact ow_79f_41 b14, by exact ow_79f_42 b12 b14, b14.1, b14.2.1⟩
    exact pm_lret hC hR ⟨y13, rfl, ⟨by exact ow_79f_43 b14, by exact ow_79f_44 b14⟩, rfl⟩ dX4_factorOf_33
set_option maxHeartbeats 4000000 in
set_option maxRecDepth 100000 in
theorem uD_X4_roughQuotient_84_87 (a1 : Int) (h0 : 0 ≤ a1 ∧ a1 ≤ 60) : pm_K 2 yX4_roughQuotient cX4_roughQuotient 9 (some .double) (fun av V => av = [(3, 84), (3, 87), (0, a1)] ∧ pm_ok 0 90 V) (fun _ V r V' => ∃ y, r = some (2, y) ∧ True ∧ V = V') := by
  refine pm_MT.of (by decide) ⟨Nat.le_refl _, by decide⟩ (fun av V h => by rw [h.1]; exact (by decide : pm_words [(3, 0), (3, 0), (0, 0)] ≤ 9)) ?_
  rintro X av V0 hC - hR ⟨rfl, hV0⟩
  change pm_J X 0 [(0, (3, 84)), (1, (3, 87)), (2, (0, a1))] [] 118 V0
  refine pm_dconst1 hC dX4_roughQuotient_0 (fun r1 => ?_)
  refine pm_dstore_n (lv' := [(3, (2, r1)), (0, (3, 84)), (1, (3, 87)), (2, (0, a1))]) hC dX4_roughQuotient_1 (by decide) rfl ?_
  refine pm_iconst (v := 0) hC dX4_roughQuotient_2 ?_
  refine pm_istore (lv' := [(5, (0, 0)), (3, (2, r1)), (0, (3, 84)), (1, (3, 87)), (2, (0, a1))]) hC dX4_roughQuotient_3 (by decide) rfl ?_
  refine pm_iconst (v := 0) hC dX4_roughQuotient_5 ?_
  refine pm_istore (lv' := [(6, (0, 0)), (5, (0, 0)), (3, (2, r1)), (0, (3, 84)), (1, (3, 87)), (2, (0, a1))]) hC dX4_roughQuotient_6 (by decide) rfl ?_
  refine pm_iconst (v := 0) hC dX4_roughQuotient_8 ?_
  refine pm_istore (lv' := [(7, (0, 0)), (6, (0, 0)), (5, (0, 0)), (3, (2, r1)), (0, (3, 84)), (1, (3, 87)), (2, (0, a1))]) hC dX4_roughQuotient_9 (by decide) rfl ?_
  have L15 : ∀ (N17 : Nat) (x2 : Int) (x3 : Int) (x5 : Int) (x7 : Int), (0 ≤ x3 ∧ x3 ≤ 120) → (0 ≤ x5 ∧ x5 ≤ 120) → (0 ≤ x7 ∧ x7 ≤ 240) → (x3 + x5 = x7) → (x3 ≤ 2 * a1) → (x5 ≤ 2 * a1) → (Int.toNat (240 - x7)) = N17 → pm_J X 11 [(0, (3, 84)), (1, (3, 87)), (2, (0, a1)), (3, (2, x2)), (5, (0, x3)), (6, (0, x5)), (7, (0, x7))] [] 118 V0 := by
    intro N17
    induction N17 using Nat.strongRecOn with
    | _ N17 ih18 =>
    intro x2 x3 x5 x7 b4 b6 b8 b9 b10 b11 hm16
    refine pm_iload hC 6 dX4_roughQuotient_11 rfl ?_
    refine pm_iconst (v := 4) hC dX4_roughQuotient_13 ?_
    refine pm_iload_n hC 2 dX4_roughQuotient_14 rfl ?_
    refine pm_imul hC dX4_roughQuotient_15 ?_
    refine pm_icmp_ge (tgt := 90) hC ⟨by exact ow_79f_48 b8, by exact ow_79f_49 b8⟩ ⟨by exact ow_79f_50 b4 b10, by exact ow_79f_51 h0⟩ dX4_roughQuotient_16 (by decide) (fun c19 => ?_) (fun c19 => ?_)
    · skip
      refine pm_dload_n hC 3 dX4_roughQuotient_90 rfl ?_
      exact pm_dret hC hR ⟨x2, rfl, trivial, rfl⟩ dX4_roughQuotient_91
    · skip
      refine pm_iload hC 5 dX4_roughQuotient_19 rfl ?_
      refine pm_iconst (v := 2) hC dX4_roughQuotient_21 ?_
      refine pm_iload_n hC 2 dX4_roughQuotient_22 rfl ?_
      refine pm_imul hC dX4_roughQuotient_23 ?_
      refine pm_icmp_ge (tgt := 41) hC ⟨by exact ow_79f_52 b6, by exact ow_79f_53 b6⟩ ⟨by exact ow_79f_54 b8 c19, by exact ow_79f_55 h0⟩ dX4_roughQuotient_24 (by decide) (fun c20 => ?_) (fun c20 => ?_)
      · skip
        refine pm_iconst (v := 1) hC dX4_roughQuotient_41 ?_
        refine pm_goto (tgt := 46) hC dX4_roughQuotient_42 (by decide) ?_
        refine pm_istore (lv' := [(8, (0, 1)), (0, (3, 84)), (1, (3, 87)), (2, (0, a1)), (3, (2, x2)), (5, (0, x3)), (6, (0, x5)), (7, (0, x7))]) hC dX4_roughQuotient_46 (by decide) rfl ?_
        refine pm_iload hC 0 dX4_roughQuotient_48 rfl ?_
        refine pm_if_eq (tgt := 70) hC ⟨by decide, by decide⟩ dX4_roughQuotient_50 (by decide) (fun c21 => ?_) (fun c21 => ?_)
        · skip
          exfalso; exact ow_79f_56 c21
        · skip
          refine pm_dload_n hC 4 dX4_roughQuotient_53 rfl ?_
          refine pm_aload_n hC 1 (by decide) dX4_roughQuotient_54 rfl ?_
          refine pm_aload_n hC 2 (by decide) dX4_roughQuotient_55 rfl ?_
          refine pm_iload hC 5 dX4_roughQuotient_56 rfl ?_
          refine pm_callS (as := [(3, 84), (3, 87), (0, x3)]) (st := [(2, x2)]) hC (uD_X4_factorOf_84_87 x3 ⟨by exact ow_79f_57 b4, by exact ow_79f_58 b6 b9 c19 c20⟩) lm_X4_47 ls_X4_factorOf (by decide) (by decide) rfl rfl (Nat.le_of_ble_eq_true rfl) ⟨Nat.le_refl _, Or.inl rfl⟩ dX4_roughQuotient_58 ⟨rfl, hV0⟩ (fun r22 V23 hp24 => ?_)
          obtain ⟨y25, rfl, b26, rfl⟩ := hp24
          change pm_J X 61 [(8, (0, 1)), (0, (3, 84)), (1, (3, 87)), (2, (0, a1)), (3, (2, x2)), (5, (0, x3)), (6, (0, x5)), (7, (0, x7))] [(1, y25), (2, x2)] 118 V0
          refine pm_l2d hC dX4_roughQuotient_61 (fun r28 => ?_)
          refine pm_dmul hC dX4_roughQuotient_62 (fun r29 => ?_)
          refine pm_dstore_n (lv' := [(3, (2, r29)), (8, (0, 1)), (0, (3, 84)), (1, (3, 87)), (2, (0, a1)), (5, (0, x3)), (6, (0, x5)), (7, (0, x7))]) hC dX4_roughQuotient_63 (by decide) rfl ?_
          obtain ⟨x30, ei31⟩ : ∃ y : Int, x3 + 1 = y := ⟨_, rfl⟩
          refine pm_iinc (y := x30) (lv' := [(5, (0, x30)), (3, (2, r29)), (8, (0, 1)), (0, (3, 84)), (1, (3, 87)), (2, (0, a1)), (6, (0, x5)), (7, (0, x7))]) hC 5 dX4_roughQuotient_64 (by decide) rfl ei31 rfl ?_
          refine pm_goto (tgt := 84) hC dX4_roughQuotient_67 (by decide) ?_
          obtain ⟨x32, ei33⟩ : ∃ y : Int, x7 + 1 = y := ⟨_, rfl⟩
          refine pm_iinc (y := x32) (lv' := [(7, (0, x32)), (5, (0, x30)), (3, (2, r29)), (8, (0, 1)), (0, (3, 84)), (1, (3, 87)), (2, (0, a1)), (6, (0, x5))]) hC 7 dX4_roughQuotient_84 (by decide) rfl ei33 rfl ?_
          refine pm_goto (tgt := 11) hC dX4_roughQuotient_87 (by decide) ?_
          refine pm_lvsub [4, 5, 6, 2, 1, 7, 0] (lv' := [(0, (3, 84)), (1, (3, 87)), (2, (0, a1)), (3, (2, r29)), (5, (0, x30)), (6, (0, x5)), (7, (0, x32))]) rfl ?_
          exact ih18 _ (by exact ow_79f_59 b6 hm16 c19 c20 ei33) r29 x30 x5 x32 ⟨by exact ow_79f_60 b4 ei31, by exact ow_79f_61 h0 b9 c19 c20 ei31⟩ ⟨by exact ow_79f_62 b8 c19 c20, by exact ow_79f_63 b6⟩ ⟨by exact ow_79f_64 b8 ei33, by exact ow_79f_65 b6 c19 c20 ei33⟩ (by exact ow_79f_66 b9 ei31 ei33) (by exact ow_79f_67 b9 c19 c20 ei31) (by exact ow_79f_68 b11) rfl
      · skip
        refine pm_iload hC 4 dX4_roughQuotient_27 rfl ?_
        refine pm_iconst (v := 2) hC dX4_roughQuotient_29 ?_
        refine pm_iload_n hC 2 dX4_roughQuotient_30 rfl ?_
        refine pm_imul hC dX4_roughQuotient_31 ?_
        refine pm_icmp_ge (tgt := 45) hC ⟨by exact ow_79f_52 b4, by exact ow_79f_53 b4⟩ ⟨by exact ow_79f_54 b8 c19, by exact ow_79f_55 h0⟩ dX4_roughQuotient_32 (by decide) (fun c34 => ?_) (fun c34 => ?_)
        · skip
          refine pm_iconst (v := 0) hC dX4_roughQuotient_45 ?_
          refine pm_istore (lv' := [(8, (0, 0)), (0, (3, 84)), (1, (3, 87)), (2, (0, a1)), (3, (2, x2)), (5, (0, x3)), (6, (0, x5)), (7, (0, x7))]) hC dX4_roughQuotient_46 (by decide) rfl ?_
          refine pm_iload hC 0 dX4_roughQuotient_48 rfl ?_
          refine pm_if_eq (tgt := 70) hC ⟨by decide, by decide⟩ dX4_roughQuotient_50 (by decide) (fun c35 => ?_) (fun c35 => ?_)
          · skip
            refine pm_dload_n hC 4 dX4_roughQuotient_70 rfl ?_
            refine pm_aload_n hC 2 (by decide) dX4_roughQuotient_71 rfl ?_
            refine pm_aload_n hC 1 (by decide) dX4_roughQuotient_72 rfl ?_
            refine pm_iload hC 6 dX4_roughQuotient_73 rfl ?_
            refine pm_callS (as := [(3, 87), (3, 84), (0, x5)]) (st := [(2, x2)]) hC (uD_X4_factorOf_87_84 x5 ⟨by exact ow_79f_57 b6, by exact ow_79f_69 b4 c20 c34⟩) lm_X4_47 ls_X4_factorOf (by decide) (by decide) rfl rfl (Nat.le_of_ble_eq_true rfl) ⟨Nat.le_refl _, Or.inl rfl⟩ dX4_roughQuotient_75 ⟨rfl, hV0⟩ (fun r36 V37 hp38 => ?_)
            obtain ⟨y39, rfl, b40, rfl⟩ := hp38
            change pm_J X 78 [(8, (0, 0)), (0, (3, 84)), (1, (3, 87)), (2, (0, a1)), (3, (2, x2)), (5, (0, x3)), (6, (0, x5)), (7, (0, x7))] [(1, y39), (2, x2)] 118 V0
            refine pm_l2d hC dX4_roughQuotient_78 (fun r42 => ?_)
            refine pm_ddiv hC dX4_roughQuotient_79 (fun r43 => ?_)
            refine pm_dstore_n (lv' := [(3, (2, r43)), (8, (0, 0)), (0, (3, 84)), (1, (3, 87)), (2, (0, a1)), (5, (0, x3)), (6, (0, x5)), (7, (0, x7))]) hC dX4_roughQuotient_80 (by decide) rfl ?_
            obtain ⟨x44, ei45⟩ : ∃ y : Int, x5 + 1 = y := ⟨_, rfl⟩
            refine pm_iinc (y := x44) (lv' := [(6, (0, x44)), (3, (2, r43)), (8, (0, 0)), (0, (3, 84)), (1, (3, 87)), (2, (0, a1)), (5, (0, x3)), (7, (0, x7))]) hC 6 dX4_roughQuotient_81 (by decide) rfl ei45 rfl ?_
            obtain ⟨x46, ei47⟩ : ∃ y : Int, x7 + 1 = y := ⟨_, rfl⟩
            refine pm_iinc (y := x46) (lv' := [(7, (0, x46)), (6, (0, x44)), (3, (2, r43)), (8, (0, 0)), (0, (3, 84)), (1, (3, 87)), (2, (0, a1)), (5, (0, x3))]) hC 7 dX4_roughQuotient_84 (by decide) rfl ei47 rfl ?_
            refine pm_goto (tgt := 11) hC dX4_roughQuotient_87 (by decide) ?_
            refine pm_lvsub [4, 5, 6, 2, 7, 1, 0] (lv' := [(0, (3, 84)), (1, (3, 87)), (2, (0, a1)), (3, (2, r43)), (5, (0, x3)), (6, (0, x44)), (7, (0, x46))]) rfl ?_
            exact ih18 _ (by exact ow_79f_59 b4 hm16 c19 c34 ei47) r43 x3 x44 x46 ⟨by exact ow_79f_70 b8 b9 c20 c34, by exact ow_79f_63 b4⟩ ⟨by exact ow_79f_60 b6 ei45, by exact ow_79f_71 b4 c20 c34 ei45⟩ ⟨by exact ow_79f_64 b8 ei47, by exact ow_79f_65 b4 c19 c34 ei47⟩ (by exact ow_79f_72 b9 ei45 ei47) (by exact ow_79f_68 b10) (by exact ow_79f_73 c20 ei45) rfl
          · skip
            exfalso; exact ow_79f_74 c35
        · skip
          refine pm_dload_n hC 3 dX4_roughQuotient_35 rfl ?_
          refine pm_dconst1 hC dX4_roughQuotient_36 (fun r48 => ?_)
          refine pm_dcmp hC dX4_roughQuotient_37 (fun y49 b50 => ?_)
          have b50 := And.intro b50.1 b50.2
          refine pm_if_gt (tgt := 45) hC ⟨by exact ow_79f_2 b50, by exact ow_79f_3 b50⟩ dX4_roughQuotient_38 (by decide) (fun c51 => ?_) (fun c51 => ?_)
          · skip
            refine pm_iconst (v := 0) hC dX4_roughQuotient_45 ?_
            refine pm_istore (lv' := [(8, (0, 0)), (0, (3, 84)), (1, (3, 87)), (2, (0, a1)), (3, (2, x2)), (5, (0, x3)), (6, (0, x5)), (7, (0, x7))]) hC dX4_roughQuotient_46 (by decide) rfl ?_
            refine pm_iload hC 0 dX4_roughQuotient_48 rfl ?_
            refine pm_if_eq (tgt := 70) hC ⟨by decide, by decide⟩ dX4_roughQuotient_50 (by decide) (fun c52 => ?_) (fun c52 => ?_)
            · skip
              refine pm_dload_n hC 4 dX4_roughQuotient_70 rfl ?_
              refine pm_aload_n hC 2 (by decide) dX4_roughQuotient_71 rfl ?_
              refine pm_aload_n hC 1 (by decide) dX4_roughQuotient_72 rfl ?_
              refine pm_iload hC 6 dX4_roughQuotient_73 rfl ?_
              refine pm_callS (as := [(3, 87), (3, 84), (0, x5)]) (st := [(2, x2)]) hC (uD_X4_factorOf_87_84 x5 ⟨by exact ow_79f_57 b6, by exact ow_79f_75 h0 c20⟩) lm_X4_47 ls_X4_factorOf (by decide) (by decide) rfl rfl (Nat.le_of_ble_eq_true rfl) ⟨Nat.le_refl _, Or.inl rfl⟩ dX4_roughQuotient_75 ⟨rfl, hV0⟩ (fun r53 V54 hp55 => ?_)
              obtain ⟨y56, rfl, b57, rfl⟩ := hp55
              change pm_J X 78 [(8, (0, 0)), (0, (3, 84)), (1, (3, 87)), (2, (0, a1)), (3, (2, x2)), (5, (0, x3)), (6, (0, x5)), (7, (0, x7))] [(1, y56), (2, x2)] 118 V0
              refine pm_l2d hC dX4_roughQuotient_78 (fun r59 => ?_)
              refine pm_ddiv hC dX4_roughQuotient_79 (fun r60 => ?_)
              refine pm_dstore_n (lv' := [(3, (2, r60)), (8, (0, 0)), (0, (3, 84)), (1, (3, 87)), (2, (0, a1)), (5, (0, x3)), (6, (0, x5)), (7, (0, x7))]) hC dX4_roughQuotient_80 (by decide) rfl ?_
              obtain ⟨x61, ei62⟩ : ∃ y : Int, x5 + 1 = y := ⟨_, rfl⟩
              refine pm_iinc (y := x61) (lv' := [(6, (0, x61)), (3, (2, r60)), (8, (0, 0)), (0, (3, 84)), (1, (3, 87)), (2, (0, a1)), (5, (0, x3)), (7, (0, x7))]) hC 6 dX4_roughQuotient_81 (by decide) rfl ei62 rfl ?_
              obtain ⟨x63, ei64⟩ : ∃ y : Int, x7 + 1 = y := ⟨_, rfl⟩
              refine pm_iinc (y := x63) (lv' := [(7, (0, x63)), (6, (0, x61)), (3, (2, r60)), (8, (0, 0)), (0, (3, 84)), (1, (3, 87)), (2, (0, a1)), (5, (0, x3))]) hC 7 dX4_roughQuotient_84 (by decide) rfl ei64 rfl ?_
              refine pm_goto (tgt := 11) hC dX4_roughQuotient_87 (by decide) ?_
              refine pm_lvsub [4, 5, 6, 2, 7, 1, 0] (lv' := [(0, (3, 84)), (1, (3, 87)), (2, (0, a1)), (3, (2, r60)), (5, (0, x3)), (6, (0, x61)), (7, (0, x63))]) rfl ?_
              exact ih18 _ (by exact ow_79f_76 h0 b9 hm16 c20 c34 ei64) r60 x3 x61 x63 ⟨by exact ow_79f_57 b4, by exact ow_79f_77 h0 c34⟩ ⟨by exact ow_79f_60 b6 ei62, by exact ow_79f_78 h0 c20 ei62⟩ ⟨by exact ow_79f_64 b8 ei64, by exact ow_79f_79 h0 b9 c20 c34 ei64⟩ (by exact ow_79f_72 b9 ei62 ei64) (by exact ow_79f_80 c34) (by exact ow_79f_73 c20 ei62) rfl
            · skip
              exfalso; exact ow_79f_74 c52
          · skip
            refine pm_iconst (v := 1) hC dX4_roughQuotient_41 ?_
            refine pm_goto (tgt := 46) hC dX4_roughQuotient_42 (by decide) ?_
            refine pm_istore (lv' := [(8, (0, 1)), (0, (3, 84)), (1, (3, 87)), (2, (0, a1)), (3, (2, x2)), (5, (0, x3)), (6, (0, x5)), (7, (0, x7))]) hC dX4_roughQuotient_46 (by decide) rfl ?_
            refine pm_iload hC 0 dX4_roughQuotient_48 rfl ?_
            refine pm_if_eq (tgt := 70) hC ⟨by decide, by decide⟩ dX4_roughQuotient_50 (by decide) (fun c65 => ?_) (fun c65 => ?_)
            · skip
              exfalso; exact ow_79f_56 c65
            · skip
              refine pm_dload_n hC 4 dX4_roughQuotient_53 rfl ?_
              refine pm_aload_n hC 1 (by decide) dX4_roughQuotient_54 rfl ?_
              refine pm_aload_n hC 2 (by decide) dX4_roughQuotient_55 rfl ?_
              refine pm_iload hC 5 dX4_roughQuotient_56 rfl ?_
              refine pm_callS (as := [(3, 84), (3, 87), (0, x3)]) (st := [(2, x2)]) hC (uD_X4_factorOf_84_87 x3 ⟨by exact ow_79f_57 b4, by exact ow_79f_75 h0 c34⟩) lm_X4_47 ls_X4_factorOf (by decide) (by decide) rfl rfl (Nat.le_of_ble_eq_true rfl) ⟨Nat.le_refl _, Or.inl rfl⟩ dX4_roughQuotient_58 ⟨rfl, hV0⟩ (fun r66 V67 hp68 => ?_)
              obtain ⟨y69, rfl, b70, rfl⟩ := hp68
              change pm_J X 61 [(8, (0, 1)), (0, (3, 84)), (1, (3, 87)), (2, (0, a1)), (3, (2, x2)), (5, (0, x3)), (6, (0, x5)), (7, (0, x7))] [(1, y69), (2, x2)] 118 V0
              refine pm_l2d hC dX4_roughQuotient_61 (fun r72 => ?_)
              refine pm_dmul hC dX4_roughQuotient_62 (fun r73 => ?_)
              refine pm_dstore_n (lv' := [(3, (2, r73)), (8, (0, 1)), (0, (3, 84)), (1, (3, 87)), (2, (0, a1)), (5, (0, x3)), (6, (0, x5)), (7, (0, x7))]) hC dX4_roughQuotient_63 (by decide) rfl ?_
              obtain ⟨x74, ei75⟩ : ∃ y : Int, x3 + 1 = y := ⟨_, rfl⟩
              refine pm_iinc (y := x74) (lv' := [(5, (0, x74)), (3, (2, r73)), (8, (0, 1)), (0, (3, 84)), (1, (3, 87)), (2, (0, a1)), (6, (0, x5)), (7, (0, x7))]) hC 5 dX4_roughQuotient_64 (by decide) rfl ei75 rfl ?_
              refine pm_goto (tgt := 84) hC dX4_roughQuotient_67 (by decide) ?_
              obtain ⟨x76, ei77⟩ : ∃ y : Int, x7 + 1 = y := ⟨_, rfl⟩
              refine pm_iinc (y := x76) (lv' := [(7, (0, x76)), (5, (0, x74)), (3, (2, r73)), (8, (0, 1)), (0, (3, 84)), (1, (3, 87)), (2, (0, a1)), (6, (0, x5))]) hC 7 dX4_roughQuotient_84 (by decide) rfl ei77 rfl ?_
              refine pm_goto (tgt := 11) hC dX4_roughQuotient_87 (by decide) ?_
              refine pm_lvsub [4, 5, 6, 2, 1, 7, 0] (lv' := [(0, (3, 84)), (1, (3, 87)), (2, (0, a1)), (3, (2, r73)), (5, (0, x74)), (6, (0, x5)), (7, (0, x76))]) rfl ?_
              exact ih18 _ (by exact ow_79f_76 h0 b9 hm16 c20 c34 ei77) r73 x74 x5 x76 ⟨by exact ow_79f_60 b4 ei75, by exact ow_79f_78 h0 c34 ei75⟩ ⟨by exact ow_79f_57 b6, by exact ow_79f_77 h0 c20⟩ ⟨by exact ow_79f_64 b8 ei77, by exact ow_79f_79 h0 b9 c20 c34 ei77⟩ (by exact ow_79f_66 b9 ei75 ei77) (by exact ow_79f_73 c34 ei75) (by exact ow_79f_80 c20) rfl
  refine pm_lvsub [4, 5, 6, 3, 2, 1, 0] (lv' := [(0, (3, 84)), (1, (3, 87)), (2, (0, a1)), (3, (2, r1)), (5, (0, 0)), (6, (0, 0)), (7, (0, 0))]) rfl ?_
  exact L15 _ r1 0 0 0 ⟨by decide, by decide⟩ ⟨by decide, by decide⟩ ⟨by decide, by decide⟩ (by exact ow_79f_81) (by exact ow_79f_82 h0) (by exact ow_79f_82 h0) rfl
set_option maxHeartbeats 4000000 in
set_option maxRecDepth 100000 in
theorem uD_X4_compareExactly_78_84_87 (a1 : Int) (h0 : 0 ≤ a1 ∧ a1 ≤ 60) : pm_K 2 yX4_compareExactly cX4_compareExactly 5 (some .int) (fun av V => av = [(3, 78), (3, 84), (3, 87), (0, a1)] ∧ pm_ok 0 90 V) (fun _ V r V' => ∃ y, r = some (0, y) ∧ ((-1) ≤ y ∧ y ≤ 1) ∧ pm_ok 0 90 V' ∧ pm_ff [80, 82] [(79, 1), (81, 1)] V V') := by
  refine pm_MT.of (by decide) ⟨Nat.le_refl _, by decide⟩ (fun av V h => by rw [h.1]; exact (by decide : pm_words [(3, 0), (3, 0), (3, 0), (0, 0)] ≤ 5)) ?_
  rintro X av V0 hC - hR ⟨rfl, hV0⟩
  change pm_J X 0 [(0, (3, 78)), (1, (3, 84)), (2, (3, 87)), (3, (0, a1))] [] 118 V0
  refine pm_aload_n hC 0 (by decide) dX4_compareExactly_0 rfl ?_
  have e1 : V0 78 0 = 79 := hV0.one 78 0 (by decide) (by decide) rfl
  refine pm_getf (v := 79) hC 78 fl_X4_10 rfl rfl (by decide) rfl e1 dX4_compareExactly_1 ?_
  refine pm_callV (ci := 1) (as := []) (st := []) hC 79 uD_X1_begin_79 lm_X4_62 li_X1_begin (by decide) (by decide) rfl rfl rfl (by decide) rfl rfl (Nat.le_of_ble_eq_true rfl) ⟨Nat.le_refl _, Or.inl rfl⟩ dX4_compareExactly_4 ⟨rfl, hV0⟩ (fun r2 V3 hp4 => ?_)
  obtain ⟨rfl, hV5, hF6⟩ := hp4
  change pm_J X 7 [(0, (3, 78)), (1, (3, 84)), (2, (3, 87)), (3, (0, a1))] [] 118 V3
  have hF8 := pm_ff.tr (pm_ff.rf (cs := [80, 82]) (fs := [(79, 1), (81, 1)]) (V := V0)) hF6 (by decide) (by decide)
  have e9 : V3 78 0 = 79 := by rw [hF6 78 0 (by decide) (by decide)]; exact e1
  refine pm_aload_n hC 0 (by decide) dX4_compareExactly_7 rfl ?_
  have e10 : V3 78 1 = 81 := hV5.one 78 1 (by decide) (by decide) rfl
  refine pm_getf (v := 81) hC 78 fl_X4_16 rfl rfl (by decide) rfl e10 dX4_compareExactly_8 ?_
  refine pm_callV (ci := 1) (as := []) (st := []) hC 81 uD_X1_begin_81 lm_X4_62 li_X1_begin (by decide) (by decide) rfl rfl rfl (by decide) rfl rfl (Nat.le_of_ble_eq_true rfl) ⟨Nat.le_refl _, Or.inl rfl⟩ dX4_compareExactly_11 ⟨rfl, hV5⟩ (fun r11 V12 hp13 => ?_)
  obtain ⟨rfl, hV14, hF15⟩ := hp13
  change pm_J X 14 [(0, (3, 78)), (1, (3, 84)), (2, (3, 87)), (3, (0, a1))] [] 118 V12
  have hF17 := pm_ff.tr hF8 hF15 (by decide) (by decide)
  have e18 : V12 78 0 = 79 := by rw [hF15 78 0 (by decide) (by decide)]; exact e9
  have e19 : V12 78 1 = 81 := by rw [hF15 78 1 (by decide) (by decide)]; exact e10
  refine pm_iconst (v := 0) hC dX4_compareExactly_14 ?_
  refine pm_istore (lv' := [(4, (0, 0)), (0, (3, 78)), (1, (3, 84)), (2, (3, 87)), (3, (0, a1))]) hC dX4_compareExactly_15 (by decide) rfl ?_
  have L30 : ∀ (N32 : Nat) (x20 : Int) (V22 : pm_M), (0 ≤ x20 ∧ x20 ≤ 60) → pm_ok 0 90 V22 → pm_ff [80, 82] [(79, 1), (81, 1)] V0 V22 → V22 78 0 = 79 → V22 78 1 = 81 → (Int.toNat (60 - x20)) = N32 → pm_J X 17 [(0, (3, 78)), (1, (3, 84)), (2, (3, 87)), (3, (0, a1)), (4, (0, x20))] [] 118 V22 := by
    intro N32
    induction N32 using Nat.strongRecOn with
    | _ N32 ih33 =>
    intro x20 V22 b21 hV23 hF24 e25 e26 hm31
    refine pm_iload hC 4 dX4_compareExactly_17 rfl ?_
    refine pm_iload_n hC 3 dX4_compareExactly_19 rfl ?_
    refine pm_icmp_ge (tgt := 119) hC ⟨by exact ow_79f_0 b21, by exact ow_79f_1 b21⟩ ⟨by exact ow_79f_0 h0, by exact ow_79f_1 h0⟩ dX4_compareExactly_20 (by decide) (fun c34 => ?_) (fun c34 => ?_)
    · skip
      refine pm_aload_n hC 0 (by decide) dX4_compareExactly_119 rfl ?_
      refine pm_getf (v := 79) hC 78 fl_X4_10 rfl rfl (by decide) rfl e25 dX4_compareExactly_120 ?_
      refine pm_aload_n hC 0 (by decide) dX4_compareExactly_123 rfl ?_
      refine pm_getf (v := 81) hC 78 fl_X4_16 rfl rfl (by decide) rfl e26 dX4_compareExactly_124 ?_
      refine pm_callV (ci := 1) (as := [(3, 81)]) (st := []) hC 79 uD_X1_compareWith_79_81 lm_X4_69 li_X1_compareWith (by decide) (by decide) rfl rfl rfl (by decide) rfl rfl (Nat.le_of_ble_eq_true rfl) ⟨Nat.le_refl _, Or.inl rfl⟩ dX4_compareExactly_127 ⟨rfl, hV23⟩ (fun r35 V36 hp37 => ?_)
      obtain ⟨y38, rfl, b39, rfl⟩ := hp37
      change pm_J X 130 [(0, (3, 78)), (1, (3, 84)), (2, (3, 87)), (3, (0, a1)), (4, (0, x20))] [(0, y38)] 118 V22
      exact pm_iret hC hR pm_nar0 ⟨y38, rfl, ⟨by exact ow_79f_83 b39, by exact ow_79f_84 b39⟩, hV23, hF24⟩ dX4_compareExactly_130
    · skip
      refine pm_aload_n hC 1 (by decide) dX4_compareExactly_23 rfl ?_
      have e41 : V22 84 1 = 85 := hV23.one 84 1 (by decide) (by decide) rfl
      refine pm_getf (v := 85) hC 84 fl_X4_51 rfl rfl (by decide) rfl e41 dX4_compareExactly_24 ?_
      refine pm_iload hC 4 dX4_compareExactly_27 rfl ?_
      obtain ⟨y42, e43⟩ : ∃ y, V22 85 (x20 : Int).toNat = y := ⟨_, rfl⟩
      have b44 := hV23.get 85 (x20 : Int).toNat (lo := (-9223372036854775808)) (hi := 9223372036854775807) (by decide) (show _ < 60 by exact ow_79f_4 h0 c34) rfl
      rw [e43] at b44
      refine pm_laload (len := 60) (v := y42) hC 85 rfl rfl (by decide) ⟨by exact ow_79f_5 b21, by exact ow_79f_6 h0 c34⟩ (by decide) e43 dX4_compareExactly_29 ?_
      refine pm_aload_n hC 2 (by decide) dX4_compareExactly_30 rfl ?_
      have e45 : V22 87 2 = 89 := hV23.one 87 2 (by decide) (by decide) rfl
      refine pm_getf (v := 89) hC 87 fl_X4_55 rfl rfl (by decide) rfl e45 dX4_compareExactly_31 ?_
      refine pm_iload hC 4 dX4_compareExactly_34 rfl ?_
      obtain ⟨y46, e47⟩ : ∃ y, V22 89 (x20 : Int).toNat = y := ⟨_, rfl⟩
      have b48 := hV23.get 89 (x20 : Int).toNat (lo := (-9223372036854775808)) (hi := 9223372036854775807) (by decide) (show _ < 60 by exact ow_79f_4 h0 c34) rfl
      rw [e47] at b48
      refine pm_laload (len := 60) (v := y46) hC 89 rfl rfl (by decide) ⟨by exact ow_79f_5 b21, by exact ow_79f_6 h0 c34⟩ (by decide) e47 dX4_compareExactly_36 ?_
      refine pm_lmul hC dX4_compareExactly_37 ?_
      refine pm_wrL hC (fun y49 hw51 b50 => ?_)
      have b50 := And.intro b50.1 b50.2
      refine pm_aload_n hC 2 (by decide) dX4_compareExactly_38 rfl ?_
      have e52 : V22 87 1 = 88 := hV23.one 87 1 (by decide) (by decide) rfl
      refine pm_getf (v := 88) hC 87 fl_X4_51 rfl rfl (by decide) rfl e52 dX4_compareExactly_39 ?_
      refine pm_iload hC 4 dX4_compareExactly_42 rfl ?_
      obtain ⟨y53, e54⟩ : ∃ y, V22 88 (x20 : Int).toNat = y := ⟨_, rfl⟩
      have b55 := hV23.get 88 (x20 : Int).toNat (lo := (-9223372036854775808)) (hi := 9223372036854775807) (by decide) (show _ < 60 by exact ow_79f_4 h0 c34) rfl
      rw [e54] at b55
      refine pm_laload (len := 60) (v := y53) hC 88 rfl rfl (by decide) ⟨by exact ow_79f_5 b21, by exact ow_79f_6 h0 c34⟩ (by decide) e54 dX4_compareExactly_44 ?_
      refine pm_aload_n hC 1 (by decide) dX4_compareExactly_45 rfl ?_
      have e56 : V22 84 2 = 86 := hV23.one 84 2 (by decide) (by decide) rfl
      refine pm_getf (v := 86) hC 84 fl_X4_55 rfl rfl (by decide) rfl e56 dX4_compareExactly_46 ?_
      refine pm_iload hC 4 dX4_compareExactly_49 rfl ?_
      obtain ⟨y57, e58⟩ : ∃ y, V22 86 (x20 : Int).toNat = y := ⟨_, rfl⟩
      have b59 := hV23.get 86 (x20 : Int).toNat (lo := (-9223372036854775808)) (hi := 9223372036854775807) (by decide) (show _ < 60 by exact ow_79f_4 h0 c34) rfl
      rw [e58] at b59
      refine pm_laload (len := 60) (v := y57) hC 86 rfl rfl (by decide) ⟨by exact ow_79f_5 b21, by exact ow_79f_6 h0 c34⟩ (by decide) e58 dX4_compareExactly_51 ?_
      refine pm_lmul hC dX4_compareExactly_52 ?_
      refine pm_wrL hC (fun y60 hw62 b61 => ?_)
      have b61 := And.intro b61.1 b61.2
      refine pm_lcmp hC ⟨by exact ow_79f_17 b50, by exact ow_79f_18 b50⟩ ⟨by exact ow_79f_17 b61, by exact ow_79f_18 b61⟩ dX4_compareExactly_53 (fun y63 b64 => ?_)
      refine pm_if_eq (tgt := 113) hC ⟨by exact ow_79f_85 b64, by exact ow_79f_86 b64⟩ dX4_compareExactly_54 (by decide) (fun c65 => ?_) (fun c65 => ?_)
      · skip
        obtain ⟨x66, ei67⟩ : ∃ y : Int, x20 + 1 = y := ⟨_, rfl⟩
        refine pm_iinc (y := x66) (lv' := [(4, (0, x66)), (0, (3, 78)), (1, (3, 84)), (2, (3, 87)), (3, (0, a1))]) hC 4 dX4_compareExactly_113 (by decide) rfl ei67 rfl ?_
        refine pm_goto (tgt := 17) hC dX4_compareExactly_116 (by decide) ?_
        refine pm_lvsub [1, 2, 3, 4, 0] (lv' := [(0, (3, 78)), (1, (3, 84)), (2, (3, 87)), (3, (0, a1)), (4, (0, x66))]) rfl ?_
        exact ih33 _ (by exact ow_79f_87 h0 hm31 c34 ei67) x66 V22 ⟨by exact ow_79f_20 b21 ei67, by exact ow_79f_21 h0 c34 ei67⟩ hV23 hF24 e25 e26 rfl
      · skip
        refine pm_aload_n hC 0 (by decide) dX4_compareExactly_57 rfl ?_
        refine pm_getf (v := 79) hC 78 fl_X4_10 rfl rfl (by decide) rfl e25 dX4_compareExactly_58 ?_
        refine pm_aload_n hC 1 (by decide) dX4_compareExactly_61 rfl ?_
        refine pm_getf (v := 85) hC 84 fl_X4_51 rfl rfl (by decide) rfl e41 dX4_compareExactly_62 ?_
        refine pm_iload hC 4 dX4_compareExactly_65 rfl ?_
        refine pm_laload (len := 60) (v := y42) hC 85 rfl rfl (by decide) ⟨by exact ow_79f_5 b21, by exact ow_79f_6 h0 c34⟩ (by decide) e43 dX4_compareExactly_67 ?_
        refine pm_callV (ci := 1) (as := [(1, y42)]) (st := []) hC 79 (uD_X1_times_79 y42 ⟨by exact ow_79f_17 b44, by exact ow_79f_18 b44⟩) lm_X4_65 li_X1_times (by decide) (by decide) rfl rfl rfl (by decide) rfl rfl (Nat.le_of_ble_eq_true rfl) ⟨Nat.le_refl _, Or.inl rfl⟩ dX4_compareExactly_68 ⟨rfl, hV23⟩ (fun r68 V69 hp70 => ?_)
        obtain ⟨rfl, hV71, hF72⟩ := hp70
        change pm_J X 71 [(0, (3, 78)), (1, (3, 84)), (2, (3, 87)), (3, (0, a1)), (4, (0, x20))] [] 118 V69
        have hF74 := pm_ff.tr hF24 hF72 (by decide) (by decide)
        have e75 : V69 78 0 = 79 := by rw [hF72 78 0 (by decide) (by decide)]; exact e25
        have e76 : V69 78 1 = 81 := by rw [hF72 78 1 (by decide) (by decide)]; exact e26
        have e77 : V69 84 1 = 85 := by rw [hF72 84 1 (by decide) (by decide)]; exact e41
        have e78 : V69 87 2 = 89 := by rw [hF72 87 2 (by decide) (by decide)]; exact e45
        have e79 : V69 87 1 = 88 := by rw [hF72 87 1 (by decide) (by decide)]; exact e52
        have e80 : V69 84 2 = 86 := by rw [hF72 84 2 (by decide) (by decide)]; exact e56
        refine pm_aload_n hC 0 (by decide) dX4_compareExactly_71 rfl ?_
        refine pm_getf (v := 79) hC 78 fl_X4_10 rfl rfl (by decide) rfl e75 dX4_compareExactly_72 ?_
        refine pm_aload_n hC 2 (by decide) dX4_compareExactly_75 rfl ?_
        refine pm_getf (v := 89) hC 87 fl_X4_55 rfl rfl (by decide) rfl e78 dX4_compareExactly_76 ?_
        refine pm_iload hC 4 dX4_compareExactly_79 rfl ?_
        obtain ⟨y81, e82⟩ : ∃ y, V69 89 (x20 : Int).toNat = y := ⟨_, rfl⟩
        have b83 := hV71.get 89 (x20 : Int).toNat (lo := (-9223372036854775808)) (hi := 9223372036854775807) (by decide) (show _ < 60 by exact ow_79f_4 h0 c34) rfl
        rw [e82] at b83
        refine pm_laload (len := 60) (v := y81) hC 89 rfl rfl (by decide) ⟨by exact ow_79f_5 b21, by exact ow_79f_6 h0 c34⟩ (by decide) e82 dX4_compareExactly_81 ?_
        refine pm_callV (ci := 1) (as := [(1, y81)]) (st := []) hC 79 (uD_X1_times_79 y81 ⟨by exact ow_79f_17 b83, by exact ow_79f_18 b83⟩) lm_X4_65 li_X1_times (by decide) (by decide) rfl rfl rfl (by decide) rfl rfl (Nat.le_of_ble_eq_true rfl) ⟨Nat.le_refl _, Or.inl rfl⟩ dX4_compareExactly_82 ⟨rfl, hV71⟩ (fun r84 V85 hp86 => ?_)
        obtain ⟨rfl, hV87, hF88⟩ := hp86
        change pm_J X 85 [(0, (3, 78)), (1, (3, 84)), (2, (3, 87)), (3, (0, a1)), (4, (0, x20))] [] 118 V85
        have hF90 := pm_ff.tr hF74 hF88 (by decide) (by decide)
        have e91 : V85 78 0 = 79 := by rw [hF88 78 0 (by decide) (by decide)]; exact e75
        have e92 : V85 78 1 = 81 := by rw [hF88 78 1 (by decide) (by decide)]; exact e76
        have e93 : V85 84 1 = 85 := by rw [hF88 84 1 (by decide) (by decide)]; exact e77
        have e94 : V85 87 2 = 89 := by rw [hF88 87 2 (by decide) (by decide)]; exact e78
        have e95 : V85 87 1 = 88 := by rw [hF88 87 1 (by decide) (by decide)]; exact e79
        have e96 : V85 84 2 = 86 := by rw [hF88 84 2 (by decide) (by decide)]; exact e80
        refine pm_aload_n hC 0 (by decide) dX4_compareExactly_85 rfl ?_
        refine pm_getf (v := 81) hC 78 fl_X4_16 rfl rfl (by decide) rfl e92 dX4_compareExactly_86 ?_
        refine pm_aload_n hC 2 (by decide) dX4_compareExactly_89 rfl ?_
        refine pm_getf (v := 88) hC 87 fl_X4_51 rfl rfl (by decide) rfl e95 dX4_compareExactly_90 ?_
        refine pm_iload hC 4 dX4_compareExactly_93 rfl ?_
        obtain ⟨y97, e98⟩ : ∃ y, V85 88 (x20 : Int).toNat = y := ⟨_, rfl⟩
        have b99 := hV87.get 88 (x20 : Int).toNat (lo := (-9223372036854775808)) (hi := 9223372036854775807) (by decide) (show _ < 60 by exact ow_79f_4 h0 c34) rfl
        rw [e98] at b99
        refine pm_laload (len := 60) (v := y97) hC 88 rfl rfl (by decide) ⟨by exact ow_79f_5 b21, by exact ow_79f_6 h0 c34⟩ (by decide) e98 dX4_compareExactly_95 ?_
        refine pm_callV (ci := 1) (as := [(1, y97)]) (st := []) hC 81 (uD_X1_times_81 y97 ⟨by exact ow_79f_17 b99, by exact ow_79f_18 b99⟩) lm_X4_65 li_X1_times (by decide) (by decide) rfl rfl rfl (by decide) rfl rfl (Nat.le_of_ble_eq_true rfl) ⟨Nat.le_refl _, Or.inl rfl⟩ dX4_compareExactly_96 ⟨rfl, hV87⟩ (fun r100 V101 hp102 => ?_)
        obtain ⟨rfl, hV103, hF104⟩ := hp102
        change pm_J X 99 [(0, (3, 78)), (1, (3, 84)), (2, (3, 87)), (3, (0, a1)), (4, (0, x20))] [] 118 V101
        have hF106 := pm_ff.tr hF90 hF104 (by decide) (by decide)
        have e107 : V101 78 0 = 79 := by rw [hF104 78 0 (by decide) (by decide)]; exact e91
        have e108 : V101 78 1 = 81 := by rw [hF104 78 1 (by decide) (by decide)]; exact e92
        have e109 : V101 84 1 = 85 := by rw [hF104 84 1 (by decide) (by decide)]; exact e93
        have e110 : V101 87 2 = 89 := by rw [hF104 87 2 (by decide) (by decide)]; exact e94
        have e111 : V101 87 1 = 88 := by rw [hF104 87 1 (by decide) (by decide)]; exact e95
        have e112 : V101 84 2 = 86 := by rw [hF104 84 2 (by decide) (by decide)]; exact e96
        refine pm_aload_n hC 0 (by decide) dX4_compareExactly_99 rfl ?_
        refine pm_getf (v := 81) hC 78 fl_X4_16 rfl rfl (by decide) rfl e108 dX4_compareExactly_100 ?_
        refine pm_aload_n hC 1 (by decide) dX4_compareExactly_103 rfl ?_
        refine pm_getf (v := 86) hC 84 fl_X4_55 rfl rfl (by decide) rfl e112 dX4_compareExactly_104 ?_
        refine pm_iload hC 4 dX4_compareExactly_107 rfl ?_
        obtain ⟨y113, e114⟩ : ∃ y, V101 86 (x20 : Int).toNat = y := ⟨_, rfl⟩
        have b115 := hV103.get 86 (x20 : Int).toNat (lo := (-9223372036854775808)) (hi := 9223372036854775807) (by decide) (show _ < 60 by exact ow_79f_4 h0 c34) rfl
        rw [e114] at b115
        refine pm_laload (len := 60) (v := y113) hC 86 rfl rfl (by decide) ⟨by exact ow_79f_5 b21, by exact ow_79f_6 h0 c34⟩ (by decide) e114 dX4_compareExactly_109 ?_
        refine pm_callV (ci := 1) (as := [(1, y113)]) (st := []) hC 81 (uD_X1_times_81 y113 ⟨by exact ow_79f_17 b115, by exact ow_79f_18 b115⟩) lm_X4_65 li_X1_times (by decide) (by decide) rfl rfl rfl (by decide) rfl rfl (Nat.le_of_ble_eq_true rfl) ⟨Nat.le_refl _, Or.inl rfl⟩ dX4_compareExactly_110 ⟨rfl, hV103⟩ (fun r116 V117 hp118 => ?_)
        obtain ⟨rfl, hV119, hF120⟩ := hp118
        change pm_J X 113 [(0, (3, 78)), (1, (3, 84)), (2, (3, 87)), (3, (0, a1)), (4, (0, x20))] [] 118 V117
        have hF122 := pm_ff.tr hF106 hF120 (by decide) (by decide)
        have e123 : V117 78 0 = 79 := by rw [hF120 78 0 (by decide) (by decide)]; exact e107
        have e124 : V117 78 1 = 81 := by rw [hF120 78 1 (by decide) (by decide)]; exact e108
        have e125 : V117 84 1 = 85 := by rw [hF120 84 1 (by decide) (by decide)]; exact e109
        have e126 : V117 87 2 = 89 := by rw [hF120 87 2 (by decide) (by decide)]; exact e110
        have e127 : V117 87 1 = 88 := by rw [hF120 87 1 (by decide) (by decide)]; exact e111
        have e128 : V117 84 2 = 86 := by rw [hF120 84 2 (by decide) (by decide)]; exact e112
        obtain ⟨x129, ei130⟩ : ∃ y : Int, x20 + 1 = y := ⟨_, rfl⟩
        refine pm_iinc (y := x129) (lv' := [(4, (0, x129)), (0, (3, 78)), (1, (3, 84)), (2, (3, 87)), (3, (0, a1))]) hC 4 dX4_compareExactly_113 (by decide) rfl ei130 rfl ?_
        refine pm_goto (tgt := 17) hC dX4_compareExactly_116 (by decide) ?_
        refine pm_lvsub [1, 2, 3, 4, 0] (lv' := [(0, (3, 78)), (1, (3, 84)), (2, (3, 87)), (3, (0, a1)), (4, (0, x129))]) rfl ?_
        exact ih33 _ (by exact ow_79f_87 h0 hm31 c34 ei130) x129 V117 ⟨by exact ow_79f_20 b21 ei130, by exact ow_79f_21 h0 c34 ei130⟩ hV119 hF122 e123 e124 rfl
  refine pm_lvsub [1, 2, 3, 4, 0] (lv' := [(0, (3, 78)), (1, (3, 84)), (2, (3, 87)), (3, (0, a1)), (4, (0, 0))]) rfl ?_
  exact L30 _ 0 V12 ⟨by decide, by decide⟩ hV14 hF17 e18 e19 rfl
set_option maxHeartbeats 4000000 in
set_option maxRecDepth 100000 in
theorem uD_X4_compareProducts_78_84_87  : pm_K 3 yX4_compareProducts cX4_compareProducts 8 (some .int) (fun av V => av = [(3, 78), (3, 84), (3, 87)] ∧ pm_ok 0 90 V) (fun _ V r V' => ∃ y, r = some (0, y) ∧ ((-1) ≤ y ∧ y ≤ 1) ∧ pm_ok 0 90 V' ∧ pm_ff [80, 82] [(79, 1), (81, 1)] V V') := by
  refine pm_MT.of (by decide) ⟨Nat.le_refl _, by decide⟩ (fun av V h => by rw [h.1]; exact (by decide : pm_words [(3, 0), (3, 0), (3, 0)] ≤ 8)) ?_
  rintro X av V0 hC - hR ⟨rfl, hV0⟩
  change pm_J X 0 [(0, (3, 78)), (1, (3, 84)), (2, (3, 87))] [] 118 V0
  refine pm_aload_n hC 1 (by decide) dX4_compareProducts_0 rfl ?_
  refine pm_callV (ci := 0) (as := []) (st := []) hC 84 uD_X0_isNever_84 lm_X4_19 li_X0_isNever (by decide) (by decide) rfl rfl rfl (by decide) rfl rfl (Nat.le_of_ble_eq_true rfl) ⟨Nat.le_refl _, Or.inl rfl⟩ dX4_compareProducts_1 ⟨rfl, hV0⟩ (fun r1 V2 hp3 => ?_)
  obtain ⟨y4, rfl, b5, rfl⟩ := hp3
  change pm_J X 4 [(0, (3, 78)), (1, (3, 84)), (2, (3, 87))] [(0, y4)] 118 V0
  refine pm_istore_n (lv' := [(3, (0, y4)), (0, (3, 78)), (1, (3, 84)), (2, (3, 87))]) hC dX4_compareProducts_4 (by decide) rfl ?_
  refine pm_aload_n hC 3 (by decide) dX4_compareProducts_5 rfl ?_
  refine pm_callV (ci := 0) (as := []) (st := []) hC 87 uD_X0_isNever_87 lm_X4_19 li_X0_isNever (by decide) (by decide) rfl rfl rfl (by decide) rfl rfl (Nat.le_of_ble_eq_true rfl) ⟨Nat.le_refl _, Or.inl rfl⟩ dX4_compareProducts_6 ⟨rfl, hV0⟩ (fun r7 V8 hp9 => ?_)
  obtain ⟨y10, rfl, b11, rfl⟩ := hp9
  change pm_J X 9 [(3, (0, y4)), (0, (3, 78)), (1, (3, 84)), (2, (3, 87))] [(0, y10)] 118 V0
  refine pm_istore (lv' := [(4, (0, y10)), (3, (0, y4)), (0, (3, 78)), (1, (3, 84)), (2, (3, 87))]) hC dX4_compareProducts_9 (by decide) rfl ?_
  refine pm_iload_n hC 1 dX4_compareProducts_11 rfl ?_
  refine pm_if_ne (tgt := 20) hC ⟨by exact ow_79f_88 b5, by exact ow_79f_89 b5⟩ dX4_compareProducts_12 (by decide) (fun c13 => ?_) (fun c13 => ?_)
  · skip
    refine pm_iload hC 0 dX4_compareProducts_20 rfl ?_
    refine pm_if_eq (tgt := 29) hC ⟨by exact ow_79f_88 b11, by exact ow_79f_89 b11⟩ dX4_compareProducts_22 (by decide) (fun c14 => ?_) (fun c14 => ?_)
    · skip
      refine pm_iconst (v := 0) hC dX4_compareProducts_29 ?_
      refine pm_iload_n hC 1 dX4_compareProducts_30 rfl ?_
      refine pm_if_eq (tgt := 38) hC ⟨by exact ow_79f_88 b5, by exact ow_79f_89 b5⟩ dX4_compareProducts_31 (by decide) (fun c15 => ?_) (fun c15 => ?_)
      · skip
        exfalso; exact ow_79f_90 b5 c13 c15
      · skip
        refine pm_iconst (v := 1) hC dX4_compareProducts_34 ?_
        refine pm_goto (tgt := 39) hC dX4_compareProducts_35 (by decide) ?_
        refine pm_isub hC dX4_compareProducts_39 ?_
        change pm_J X 40 [(4, (0, y10)), (3, (0, y4)), (0, (3, 78)), (1, (3, 84)), (2, (3, 87))] [(0, (-1))] 118 V0
        exact pm_iret hC hR pm_nar0 ⟨(-1), rfl, ⟨by exact ow_79f_91, by exact ow_79f_92⟩, hV0, (pm_ff.rf (cs := [80, 82]) (fs := [(79, 1), (81, 1)]) (V := V0))⟩ dX4_compareProducts_40
    · skip
      refine pm_iconst (v := 1) hC dX4_compareProducts_25 ?_
      refine pm_goto (tgt := 30) hC dX4_compareProducts_26 (by decide) ?_
      refine pm_iload_n hC 1 dX4_compareProducts_30 rfl ?_
      refine pm_if_eq (tgt := 38) hC ⟨by exact ow_79f_88 b5, by exact ow_79f_89 b5⟩ dX4_compareProducts_31 (by decide) (fun c16 => ?_) (fun c16 => ?_)
      · skip
        exfalso; exact ow_79f_90 b5 c13 c16
      · skip
        refine pm_iconst (v := 1) hC dX4_compareProducts_34 ?_
        refine pm_goto (tgt := 39) hC dX4_compareProducts_35 (by decide) ?_
        refine pm_isub hC dX4_compareProducts_39 ?_
        change pm_J X 40 [(4, (0, y10)), (3, (0, y4)), (0, (3, 78)), (1, (3, 84)), (2, (3, 87))] [(0, 0)] 118 V0
        exact pm_iret hC hR pm_nar0 ⟨0, rfl, ⟨by exact ow_79f_93, by exact ow_79f_28⟩, hV0, (pm_ff.rf (cs := [80, 82]) (fs := [(79, 1), (81, 1)]) (V := V0))⟩ dX4_compareProducts_40
  · skip
    refine pm_iload hC 0 dX4_compareProducts_15 rfl ?_
    refine pm_if_eq (tgt := 41) hC ⟨by exact ow_79f_88 b11, by exact ow_79f_89 b11⟩ dX4_compareProducts_17 (by decide) (fun c17 => ?_) (fun c17 => ?_)
    · skip
      refine pm_aload_n hC 3 (by decide) dX4_compareProducts_41 rfl ?_
      obtain ⟨y18, e19⟩ : ∃ y, V0 84 0 = y := ⟨_, rfl⟩
      have b20 := hV0.get 84 0 (lo := 0) (hi := 60) (by decide) (by decide) rfl
      rw [e19] at b20
      refine pm_getf (v := y18) hC 84 fl_X4_25 rfl rfl (by decide) rfl e19 dX4_compareProducts_42 ?_
      refine pm_aload_n hC 4 (by decide) dX4_compareProducts_45 rfl ?_
      obtain ⟨y21, e22⟩ : ∃ y, V0 87 0 = y := ⟨_, rfl⟩
      have b23 := hV0.get 87 0 (lo := 0) (hi := 60) (by decide) (by decide) rfl
      rw [e22] at b23
      refine pm_getf (v := y21) hC 87 fl_X4_25 rfl rfl (by decide) rfl e22 dX4_compareProducts_46 ?_
      refine pm_mmin hC 4159 4160 1018 4161 ⟨by exact ow_79f_0 b20, by exact ow_79f_1 b20⟩ ⟨by exact ow_79f_0 b23, by exact ow_79f_1 b23⟩ (by decide) wL_X4_29 wS_mmin wI_math wC_mmin (Nat.le_of_ble_eq_true rfl) dX4_compareProducts_49 (fun y24 b25 => ?_)
      have he26 : pm_mn y18 y21 = y24 := pm_mn_of b25
      replace b25 : 0 ≤ y24 ∧ y24 ≤ 60 ∧ y24 ≤ y18 ∧ y24 ≤ y21 := ⟨by exact ow_79f_94 b20 b23 b25, by exact ow_79f_95 b20 b25, b25.1, b25.2.1⟩
      refine pm_istore (lv' := [(5, (0, y24)), (4, (0, y10)), (3, (0, y4)), (0, (3, 78)), (1, (3, 84)), (2, (3, 87))]) hC dX4_compareProducts_52 (by decide) rfl ?_
      refine pm_aload_n hC 4 (by decide) dX4_compareProducts_54 rfl ?_
      refine pm_aload_n hC 5 (by decide) dX4_compareProducts_55 rfl ?_
      refine pm_iload hC 0 dX4_compareProducts_56 rfl ?_
      refine pm_callS (as := [(3, 84), (3, 87), (0, y24)]) (st := []) hC (uD_X4_roughQuotient_84_87 y24 ⟨by exact ow_79f_96 b25, by exact ow_79f_97 b25⟩) lm_X4_35 ls_X4_roughQuotient (by decide) (by decide) rfl rfl (Nat.le_of_ble_eq_true rfl) ⟨Nat.le_refl _, Or.inl rfl⟩ dX4_compareProducts_58 ⟨rfl, hV0⟩ (fun r27 V28 hp29 => ?_)
      obtain ⟨y30, rfl, b31, rfl⟩ := hp29
      change pm_J X 61 [(5, (0, y24)), (4, (0, y10)), (3, (0, y4)), (0, (3, 78)), (1, (3, 84)), (2, (3, 87))] [(2, y30)] 118 V0
      refine pm_dstore (lv' := [(6, (2, y30)), (5, (0, y24)), (4, (0, y10)), (3, (0, y4)), (0, (3, 78)), (1, (3, 84)), (2, (3, 87))]) hC dX4_compareProducts_61 (by decide) rfl ?_
      refine pm_dload hC 0 dX4_compareProducts_63 rfl ?_
      refine pm_ldc2d (v := 4607182418804521008) hC 4171 dX4_compareProducts_65 (by decide +kernel) (fun r33 => ?_)
      refine pm_dcmp hC dX4_compareProducts_68 (fun y34 b35 => ?_)
      have b35 := And.intro b35.1 b35.2
      refine pm_if_le (tgt := 74) hC ⟨by exact ow_79f_2 b35, by exact ow_79f_3 b35⟩ dX4_compareProducts_69 (by decide) (fun c36 => ?_) (fun c36 => ?_)
      · skip
        refine pm_dload hC 0 dX4_compareProducts_74 rfl ?_
        refine pm_ldc2d (v := 4607182418791010209) hC 4172 dX4_compareProducts_76 (by decide +kernel) (fun r37 => ?_)
        refine pm_dcmp hC dX4_compareProducts_79 (fun y38 b39 => ?_)
        have b39 := And.intro b39.1 b39.2
        refine pm_if_ge (tgt := 85) hC ⟨by exact ow_79f_2 b39, by exact ow_79f_3 b39⟩ dX4_compareProducts_80 (by decide) (fun c40 => ?_) (fun c40 => ?_)
        · skip
          refine pm_aload_n hC 4 (by decide) dX4_compareProducts_85 rfl ?_
          refine pm_aload_n hC 5 (by decide) dX4_compareProducts_86 rfl ?_
          refine pm_aload_n hC 6 (by decide) dX4_compareProducts_87 rfl ?_
          refine pm_iload hC 1 dX4_compareProducts_88 rfl ?_
          refine pm_callV (ci := 4) (as := [(3, 84), (3, 87), (0, y24)]) (st := []) hC 78 (uD_X4_compareExactly_78_84_87 y24 ⟨by exact ow_79f_96 b25, by exact ow_79f_97 b25⟩) lm_X4_43 li_X4_compareExactly (by decide) (by decide) rfl rfl rfl (by decide) rfl rfl (Nat.le_of_ble_eq_true rfl) ⟨Nat.le_refl _, Or.inl rfl⟩ dX4_compareProducts_90 ⟨rfl, hV0⟩ (fun r41 V42 hp43 => ?_)
          obtain ⟨y44, rfl, b45, hV46, hF47⟩ := hp43
          change pm_J X 93 [(6, (2, y30)), (5, (0, y24)), (4, (0, y10)), (3, (0, y4)), (0, (3, 78)), (1, (3, 84)), (2, (3, 87))] [(0, y44)] 118 V42
          have hF49 := pm_ff.tr (pm_ff.rf (cs := [80, 82]) (fs := [(79, 1), (81, 1)]) (V := V0)) hF47 (by decide) (by decide)
          have e50 : V42 84 0 = y18 := by rw [hF47 84 0 (by decide) (by decide)]; exact e19
          have e51 : V42 87 0 = y21 := by rw [hF47 87 0 (by decide) (by decide)]; exact e22
          exact pm_iret hC hR pm_nar0 ⟨y44, rfl, ⟨by exact ow_79f_83 b45, by exact ow_79f_84 b45⟩, hV46, hF49⟩ dX4_compareProducts_93
        · skip
          refine pm_iconst (v := (-1)) hC dX4_compareProducts_83 ?_
          exact pm_iret hC hR pm_nar0 ⟨(-1), rfl, ⟨by exact ow_79f_91, by exact ow_79f_92⟩, hV0, (pm_ff.rf (cs := [80, 82]) (fs := [(79, 1), (81, 1)]) (V := V0))⟩ dX4_compareProducts_84
      · skip
        refine pm_iconst (v := 1) hC dX4_compareProducts_72 ?_
        exact pm_iret hC hR pm_nar0 ⟨1, rfl, ⟨by exact ow_79f_92, by exact ow_79f_32⟩, hV0, (pm_ff.rf (cs := [80, 82]) (fs := [(79, 1), (81, 1)]) (V := V0))⟩ dX4_compareProducts_73
    · skip
      refine pm_iload hC 0 dX4_compareProducts_20 rfl ?_
      refine pm_if_eq (tgt := 29) hC ⟨by exact ow_79f_88 b11, by exact ow_79f_89 b11⟩ dX4_compareProducts_22 (by decide) (fun c52 => ?_) (fun c52 => ?_)
      · skip
        exfalso; exact ow_79f_90 b11 c17 c52
      · skip
        refine pm_iconst (v := 1) hC dX4_compareProducts_25 ?_
        refine pm_goto (tgt := 30) hC dX4_compareProducts_26 (by decide) ?_
        refine pm_iload_n hC 1 dX4_compareProducts_30 rfl ?_
        refine pm_if_eq (tgt := 38) hC ⟨by exact ow_79f_88 b5, by exact ow_79f_98 c13⟩ dX4_compareProducts_31 (by decide) (fun c53 => ?_) (fun c53 => ?_)
        · skip
          refine pm_iconst (v := 0) hC dX4_compareProducts_38 ?_
          refine pm_isub hC dX4_compareProducts_39 ?_
          change pm_J X 40 [(4, (0, y10)), (3, (0, y4)), (0, (3, 78)), (1, (3, 84)), (2, (3, 87))] [(0, 1)] 118 V0
          exact pm_iret hC hR pm_nar0 ⟨1, rfl, ⟨by exact ow_79f_92, by exact ow_79f_32⟩, hV0, (pm_ff.rf (cs := [80, 82]) (fs := [(79, 1), (81, 1)]) (V := V0))⟩ dX4_compareProducts_40
        · skip
          exfalso; exact ow_79f_99 b5 c13 c53
set_option maxHeartbeats 4000000 in
set_option maxRecDepth 100000 in
theorem uD_X4_roughQuotient_87_84 (a1 : Int) (h0 : 0 ≤ a1 ∧ a1 ≤ 60) : pm_K 2 yX4_roughQuotient cX4_roughQuotient 9 (some .double) (fun av V => av = [(3, 87), (3, 84), (0, a1)] ∧ pm_ok 0 90 V) (fun _ V r V' => ∃ y, r = some (2, y) ∧ True ∧ V = V') := by
  refine pm_MT.of (by decide) ⟨Nat.le_refl _, by decide⟩ (fun av V h => by rw [h.1]; exact (by decide : pm_words [(3, 0), (3, 0), (0, 0)] ≤ 9)) ?_
  rintro X av V0 hC - hR ⟨rfl, hV0⟩
  change pm_J X 0 [(0, (3, 87)), (1, (3, 84)), (2, (0, a1))] [] 118 V0
  refine pm_dconst1 hC dX4_roughQuotient_0 (fun r1 => ?_)
  refine pm_dstore_n (lv' := [(3, (2, r1)), (0, (3, 87)), (1, (3, 84)), (2, (0, a1))]) hC dX4_roughQuotient_1 (by decide) rfl ?_
  refine pm_iconst (v := 0) hC dX4_roughQuotient_2 ?_
  refine pm_istore (lv' := [(5, (0, 0)), (3, (2, r1)), (0, (3, 87)), (1, (3, 84)), (2, (0, a1))]) hC dX4_roughQuotient_3 (by decide) rfl ?_
  refine pm_iconst (v := 0) hC dX4_roughQuotient_5 ?_
  refine pm_istore (lv' := [(6, (0, 0)), (5, (0, 0)), (3, (2, r1)), (0, (3, 87)), (1, (3, 84)), (2, (0, a1))]) hC dX4_roughQuotient_6 (by decide) rfl ?_
  refine pm_iconst (v := 0) hC dX4_roughQuotient_8 ?_
  refine pm_istore (lv' := [(7, (0, 0)), (6, (0, 0)), (5, (0, 0)), (3, (2, r1)), (0, (3, 87)), (1, (3, 84)), (2, (0, a1))]) hC dX4_roughQuotient_9 (by decide) rfl ?_
  have L15 : ∀ (N17 : Nat) (x2 : Int) (x3 : Int) (x5 : Int) (x7 : Int), (0 ≤ x3 ∧ x3 ≤ 120) → (0 ≤ x5 ∧ x5 ≤ 120) → (0 ≤ x7 ∧ x7 ≤ 240) → (x3 + x5 = x7) → (x3 ≤ 2 * a1) → (x5 ≤ 2 * a1) → (Int.toNat (240 - x7)) = N17 → pm_J X 11 [(0, (3, 87)), (1, (3, 84)), (2, (0, a1)), (3, (2, x2)), (5, (0, x3)), (6, (0, x5)), (7, (0, x7))] [] 118 V0 := by
    intro N17
    induction N17 using Nat.strongRecOn with
    | _ N17 ih18 =>
    intro x2 x3 x5 x7 b4 b6 b8 b9 b10 b11 hm16
    refine pm_iload hC 6 dX4_roughQuotient_11 rfl ?_
    refine pm_iconst (v := 4) hC dX4_roughQuotient_13 ?_
    refine pm_iload_n hC 2 dX4_roughQuotient_14 rfl ?_
    refine pm_imul hC dX4_roughQuotient_15 ?_
    refine pm_icmp_ge (tgt := 90) hC ⟨by exact ow_79f_48 b8, by exact ow_79f_49 b8⟩ ⟨by exact ow_79f_50 b4 b10, by exact ow_79f_51 h0⟩ dX4_roughQuotient_16 (by decide) (fun c19 => ?_) (fun c19 => ?_)
    · skip
      refine pm_dload_n hC 3 dX4_roughQuotient_90 rfl ?_
      exact pm_dret hC hR ⟨x2, rfl, trivial, rfl⟩ dX4_roughQuotient_91
    · skip
      refine pm_iload hC 5 dX4_roughQuotient_19 rfl ?_
      refine pm_iconst (v := 2) hC dX4_roughQuotient_21 ?_
      refine pm_iload_n hC 2 dX4_roughQuotient_22 rfl ?_
      refine pm_imul hC dX4_roughQuotient_23 ?_
      refine pm_icmp_ge (tgt := 41) hC ⟨by exact ow_79f_52 b6, by exact ow_79f_53 b6⟩ ⟨by exact ow_79f_54 b8 c19, by exact ow_79f_55 h0⟩ dX4_roughQuotient_24 (by decide) (fun c20 => ?_) (fun c20 => ?_)
      · skip
        refine pm_iconst (v := 1) hC dX4_roughQuotient_41 ?_
        refine pm_goto (tgt := 46) hC dX4_roughQuotient_42 (by decide) ?_
        refine pm_istore (lv' := [(8, (0, 1)), (0, (3, 87)), (1, (3, 84)), (2, (0, a1)), (3, (2, x2)), (5, (0, x3)), (6, (0, x5)), (7, (0, x7))]) hC dX4_roughQuotient_46 (by decide) rfl ?_
        refine pm_iload hC 0 dX4_roughQuotient_48 rfl ?_
        refine pm_if_eq (tgt := 70) hC ⟨by decide, by decide⟩ dX4_roughQuotient_50 (by decide) (fun c21 => ?_) (fun c21 => ?_)
        · skip
          exfalso; exact ow_79f_56 c21
        · skip
          refine pm_dload_n hC 4 dX4_roughQuotient_53 rfl ?_
          refine pm_aload_n hC 1 (by decide) dX4_roughQuotient_54 rfl ?_
          refine pm_aload_n hC 2 (by decide) dX4_roughQuotient_55 rfl ?_
          refine pm_iload hC 5 dX4_roughQuotient_56 rfl ?_
          refine pm_callS (as := [(3, 87), (3, 84), (0, x3)]) (st := [(2, x2)]) hC (uD_X4_factorOf_87_84 x3 ⟨by exact ow_79f_57 b4, by exact ow_79f_58 b6 b9 c19 c20⟩) lm_X4_47 ls_X4_factorOf (by decide) (by decide) rfl rfl (Nat.le_of_ble_eq_true rfl) ⟨Nat.le_refl _, Or.inl rfl⟩ dX4_roughQuotient_58 ⟨rfl, hV0⟩ (fun r22 V23 hp24 => ?_)
          obtain ⟨y25, rfl, b26, rfl⟩ := hp24
          change pm_J X 61 [(8, (0, 1)), (0, (3, 87)), (1, (3, 84)), (2, (0, a1)), (3, (2, x2)), (5, (0, x3)), (6, (0, x5)), (7, (0, x7))] [(1, y25), (2, x2)] 118 V0
          refine pm_l2d hC dX4_roughQuotient_61 (fun r28 => ?_)
          refine pm_dmul hC dX4_roughQuotient_62 (fun r29 => ?_)
          refine pm_dstore_n (lv' := [(3, (2, r29)), (8, (0, 1)), (0, (3, 87)), (1, (3, 84)), (2, (0, a1)), (5, (0, x3)), (6, (0, x5)), (7, (0, x7))]) hC dX4_roughQuotient_63 (by decide) rfl ?_
          obtain ⟨x30, ei31⟩ : ∃ y : Int, x3 + 1 = y := ⟨_, rfl⟩
          refine pm_iinc (y := x30) (lv' := [(5, (0, x30)), (3, (2, r29)), (8, (0, 1)), (0, (3, 87)), (1, (3, 84)), (2, (0, a1)), (6, (0, x5)), (7, (0, x7))]) hC 5 dX4_roughQuotient_64 (by decide) rfl ei31 rfl ?_
          refine pm_goto (tgt := 84) hC dX4_roughQuotient_67 (by decide) ?_
          obtain ⟨x32, ei33⟩ : ∃ y : Int, x7 + 1 = y := ⟨_, rfl⟩
          refine pm_iinc (y := x32) (lv' := [(7, (0, x32)), (5, (0, x30)), (3, (2, r29)), (8, (0, 1)), (0, (3, 87)), (1, (3, 84)), (2, (0, a1)), (6, (0, x5))]) hC 7 dX4_roughQuotient_84 (by decide) rfl ei33 rfl ?_
          refine pm_goto (tgt := 11) hC dX4_roughQuotient_87 (by decide) ?_
          refine pm_lvsub [4, 5, 6, 2, 1, 7, 0] (lv' := [(0, (3, 87)), (1, (3, 84)), (2, (0, a1)), (3, (2, r29)), (5, (0, x30)), (6, (0, x5)), (7, (0, x32))]) rfl ?_
          exact ih18 _ (by exact ow_79f_59 b6 hm16 c19 c20 ei33) r29 x30 x5 x32 ⟨by exact ow_79f_60 b4 ei31, by exact ow_79f_61 h0 b9 c19 c20 ei31⟩ ⟨by exact ow_79f_62 b8 c19 c20, by exact ow_79f_63 b6⟩ ⟨by exact ow_79f_64 b8 ei33, by exact ow_79f_65 b6 c19 c20 ei33⟩ (by exact ow_79f_66 b9 ei31 ei33) (by exact ow_79f_67 b9 c19 c20 ei31) (by exact ow_79f_68 b11) rfl
      · skip
        refine pm_iload hC 4 dX4_roughQuotient_27 rfl ?_
        refine pm_iconst (v := 2) hC dX4_roughQuotient_29 ?_
        refine pm_iload_n hC 2 dX4_roughQuotient_30 rfl ?_
        refine pm_imul hC dX4_roughQuotient_31 ?_
        refine pm_icmp_ge (tgt := 45) hC ⟨by exact ow_79f_52 b4, by exact ow_79f_53 b4⟩ ⟨by exact ow_79f_54 b8 c19, by exact ow_79f_55 h0⟩ dX4_roughQuotient_32 (by decide) (fun c34 => ?_) (fun c34 => ?_)
        · skip
          refine pm_iconst (v := 0) hC dX4_roughQuotient_45 ?_
          refine pm_istore (lv' := [(8, (0, 0)), (0, (3, 87)), (1, (3, 84)), (2, (0, a1)), (3, (2, x2)), (5, (0, x3)), (6, (0, x5)), (7, (0, x7))]) hC dX4_roughQuotient_46 (by decide) rfl ?_
          refine pm_iload hC 0 dX4_roughQuotient_48 rfl ?_
          refine pm_if_eq (tgt := 70) hC ⟨by decide, by decide⟩ dX4_roughQuotient_50 (by decide) (fun c35 => ?_) (fun c35 => ?_)
          · skip
            refine pm_dload_n hC 4 dX4_roughQuotient_70 rfl ?_
            refine pm_aload_n hC 2 (by decide) dX4_roughQuotient_71 rfl ?_
            refine pm_aload_n hC 1 (by decide) dX4_roughQuotient_72 rfl ?_
            refine pm_iload hC 6 dX4_roughQuotient_73 rfl ?_
            refine pm_callS (as := [(3, 84), (3, 87), (0, x5)]) (st := [(2, x2)]) hC (uD_X4_factorOf_84_87 x5 ⟨by exact ow_79f_57 b6, by exact ow_79f_69 b4 c20 c34⟩) lm_X4_47 ls_X4_factorOf (by decide) (by decide) rfl rfl (Nat.le_of_ble_eq_true rfl) ⟨Nat.le_refl _, Or.inl rfl⟩ dX4_roughQuotient_75 ⟨rfl, hV0⟩ (fun r36 V37 hp38 => ?_)
            obtain ⟨y39, rfl, b40, rfl⟩ := hp38
            change pm_J X 78 [(8, (0, 0)), (0, (3, 87)), (1, (3, 84)), (2, (0, a1)), (3, (2, x2)), (5, (0, x3)), (6, (0, x5)), (7, (0, x7))] [(1, y39), (2, x2)] 118 V0
            refine pm_l2d hC dX4_roughQuotient_78 (fun r42 => ?_)
            refine pm_ddiv hC dX4_roughQuotient_79 (fun r43 => ?_)
            refine pm_dstore_n (lv' := [(3, (2, r43)), (8, (0, 0)), (0, (3, 87)), (1, (3, 84)), (2, (0, a1)), (5, (0, x3)), (6, (0, x5)), (7, (0, x7))]) hC dX4_roughQuotient_80 (by decide) rfl ?_
            obtain ⟨x44, ei45⟩ : ∃ y : Int, x5 + 1 = y := ⟨_, rfl⟩
            refine pm_iinc (y := x44) (lv' := [(6, (0, x44)), (3, (2, r43)), (8, (0, 0)), (0, (3, 87)), (1, (3, 84)), (2, (0, a1)), (5, (0, x3)), (7, (0, x7))]) hC 6 dX4_roughQuotient_81 (by decide) rfl ei45 rfl ?_
            obtain ⟨x46, ei47⟩ : ∃ y : Int, x7 + 1 = y := ⟨_, rfl⟩
            refine pm_iinc (y := x46) (lv' := [(7, (0, x46)), (6, (0, x44)), (3, (2, r43)), (8, (0, 0)), (0, (3, 87)), (1, (3, 84)), (2, (0, a1)), (5, (0, x3))]) hC 7 dX4_roughQuotient_84 (by decide) rfl ei47 rfl ?_
            refine pm_goto (tgt := 11) hC dX4_roughQuotient_87 (by decide) ?_
            refine pm_lvsub [4, 5, 6, 2, 7, 1, 0] (lv' := [(0, (3, 87)), (1, (3, 84)), (2, (0, a1)), (3, (2, r43)), (5, (0, x3)), (6, (0, x44)), (7, (0, x46))]) rfl ?_
            exact ih18 _ (by exact ow_79f_59 b4 hm16 c19 c34 ei47) r43 x3 x44 x46 ⟨by exact ow_79f_70 b8 b9 c20 c34, by exact ow_79f_63 b4⟩ ⟨by exact ow_79f_60 b6 ei45, by exact ow_79f_71 b4 c20 c34 ei45⟩ ⟨by exact ow_79f_64 b8 ei47, by exact ow_79f_65 b4 c19 c34 ei47⟩ (by exact ow_79f_72 b9 ei45 ei47) (by exact ow_79f_68 b10) (by exact ow_79f_73 c20 ei45) rfl
          · skip
            exfalso; exact ow_79f_74 c35
        · skip
          refine pm_dload_n hC 3 dX4_roughQuotient_35 rfl ?_
          refine pm_dconst1 hC dX4_roughQuotient_36 (fun r48 => ?_)
          refine pm_dcmp hC dX4_roughQuotient_37 (fun y49 b50 => ?_)
          have b50 := And.intro b50.1 b50.2
          refine pm_if_gt (tgt := 45) hC ⟨by exact ow_79f_2 b50, by exact ow_79f_3 b50⟩ dX4_roughQuotient_38 (by decide) (fun c51 => ?_) (fun c51 => ?_)
          · skip
            refine pm_iconst (v := 0) hC dX4_roughQuotient_45 ?_
            refine pm_istore (lv' := [(8, (0, 0)), (0, (3, 87)), (1, (3, 84)), (2, (0, a1)), (3, (2, x2)), (5, (0, x3)), (6, (0, x5)), (7, (0, x7))]) hC dX4_roughQuotient_46 (by decide) rfl ?_
            refine pm_iload hC 0 dX4_roughQuotient_48 rfl ?_
            refine pm_if_eq (tgt := 70) hC ⟨by decide, by decide⟩ dX4_roughQuotient_50 (by decide) (fun c52 => ?_) (fun c52 => ?_)
            · skip
              refine pm_dload_n hC 4 dX4_roughQuotient_70 rfl ?_
              refine pm_aload_n hC 2 (by decide) dX4_roughQuotient_71 rfl ?_
              refine pm_aload_n hC 1 (by decide) dX4_roughQuotient_72 rfl ?_
              refine pm_iload hC 6 dX4_roughQuotient_73 rfl ?_
              refine pm_callS (as := [(3, 84), (3, 87), (0, x5)]) (st := [(2, x2)]) hC (uD_X4_factorOf_84_87 x5 ⟨by exact ow_79f_57 b6, by exact ow_79f_75 h0 c20⟩) lm_X4_47 ls_X4_factorOf (by decide) (by decide) rfl rfl (Nat.le_of_ble_eq_true rfl) ⟨Nat.le_refl _, Or.inl rfl⟩ dX4_roughQuotient_75 ⟨rfl, hV0⟩ (fun r53 V54 hp55 => ?_)
              obtain ⟨y56, rfl, b57, rfl⟩ := hp55
              change pm_J X 78 [(8, (0, 0)), (0, (3, 87)), (1, (3, 84)), (2, (0, a1)), (3, (2, x2)), (5, (0, x3)), (6, (0, x5)), (7, (0, x7))] [(1, y56), (2, x2)] 118 V0
              refine pm_l2d hC dX4_roughQuotient_78 (fun r59 => ?_)
              refine pm_ddiv hC dX4_roughQuotient_79 (fun r60 => ?_)
              refine pm_dstore_n (lv' := [(3, (2, r60)), (8, (0, 0)), (0, (3, 87)), (1, (3, 84)), (2, (0, a1)), (5, (0, x3)), (6, (0, x5)), (7, (0, x7))]) hC dX4_roughQuotient_80 (by decide) rfl ?_
              obtain ⟨x61, ei62⟩ : ∃ y : Int, x5 + 1 = y := ⟨_, rfl⟩
              refine pm_iinc (y := x61) (lv' := [(6, (0, x61)), (3, (2, r60)), (8, (0, 0)), (0, (3, 87)), (1, (3, 84)), (2, (0, a1)), (5, (0, x3)), (7, (0, x7))]) hC 6 dX4_roughQuotient_81 (by decide) rfl ei62 rfl ?_
              obtain ⟨x63, ei64⟩ : ∃ y : Int, x7 + 1 = y := ⟨_, rfl⟩
              refine pm_iinc (y := x63) (lv' := [(7, (0, x63)), (6, (0, x61)), (3, (2, r60)), (8, (0, 0)), (0, (3, 87)), (1, (3, 84)), (2, (0, a1)), (5, (0, x3))]) hC 7 dX4_roughQuotient_84 (by decide) rfl ei64 rfl ?_
              refine pm_goto (tgt := 11) hC dX4_roughQuotient_87 (by decide) ?_
              refine pm_lvsub [4, 5, 6, 2, 7, 1, 0] (lv' := [(0, (3, 87)), (1, (3, 84)), (2, (0, a1)), (3, (2, r60)), (5, (0, x3)), (6, (0, x61)), (7, (0, x63))]) rfl ?_
              exact ih18 _ (by exact ow_79f_76 h0 b9 hm16 c20 c34 ei64) r60 x3 x61 x63 ⟨by exact ow_79f_57 b4, by exact ow_79f_77 h0 c34⟩ ⟨by exact ow_79f_60 b6 ei62, by exact ow_79f_78 h0 c20 ei62⟩ ⟨by exact ow_79f_64 b8 ei64, by exact ow_79f_79 h0 b9 c20 c34 ei64⟩ (by exact ow_79f_72 b9 ei62 ei64) (by exact ow_79f_80 c34) (by exact ow_79f_73 c20 ei62) rfl
            · skip
              exfalso; exact ow_79f_74 c52
          · skip
            refine pm_iconst (v := 1) hC dX4_roughQuotient_41 ?_
            refine pm_goto (tgt := 46) hC dX4_roughQuotient_42 (by decide) ?_
            refine pm_istore (lv' := [(8, (0, 1)), (0, (3, 87)), (1, (3, 84)), (2, (0, a1)), (3, (2, x2)), (5, (0, x3)), (6, (0, x5)), (7, (0, x7))]) hC dX4_roughQuotient_46 (by decide) rfl ?_
            refine pm_iload hC 0 dX4_roughQuotient_48 rfl ?_
            refine pm_if_eq (tgt := 70) hC ⟨by decide, by decide⟩ dX4_roughQuotient_50 (by decide) (fun c65 => ?_) (fun c65 => ?_)
            · skip
              exfalso; exact ow_79f_56 c65
            · skip
              refine pm_dload_n hC 4 dX4_roughQuotient_53 rfl ?_
              refine pm_aload_n hC 1 (by decide) dX4_roughQuotient_54 rfl ?_
              refine pm_aload_n hC 2 (by decide) dX4_roughQuotient_55 rfl ?_
              refine pm_iload hC 5 dX4_roughQuotient_56 rfl ?_
              refine pm_callS (as := [(3, 87), (3, 84), (0, x3)]) (st := [(2, x2)]) hC (uD_X4_factorOf_87_84 x3 ⟨by exact ow_79f_57 b4, by exact ow_79f_75 h0 c34⟩) lm_X4_47 ls_X4_factorOf (by decide) (by decide) rfl rfl (Nat.le_of_ble_eq_true rfl) ⟨Nat.le_refl _, Or.inl rfl⟩ dX4_roughQuotient_58 ⟨rfl, hV0⟩ (fun r66 V67 hp68 => ?_)
              obtain ⟨y69, rfl, b70, rfl⟩ := hp68
              change pm_J X 61 [(8, (0, 1)), (0, (3, 87)), (1, (3, 84)), (2, (0, a1)), (3, (2, x2)), (5, (0, x3)), (6, (0, x5)), (7, (0, x7))] [(1, y69), (2, x2)] 118 V0
              refine pm_l2d hC dX4_roughQuotient_61 (fun r72 => ?_)
              refine pm_dmul hC dX4_roughQuotient_62 (fun r73 => ?_)
              refine pm_dstore_n (lv' := [(3, (2, r73)), (8, (0, 1)), (0, (3, 87)), (1, (3, 84)), (2, (0, a1)), (5, (0, x3)), (6, (0, x5)), (7, (0, x7))]) hC dX4_roughQuotient_63 (by decide) rfl ?_
              obtain ⟨x74, ei75⟩ : ∃ y : Int, x3 + 1 = y := ⟨_, rfl⟩
              refine pm_iinc (y := x74) (lv' := [(5, (0, x74)), (3, (2, r73)), (8, (0, 1)), (0, (3, 87)), (1, (3, 84)), (2, (0, a1)), (6, (0, x5)), (7, (0, x7))]) hC 5 dX4_roughQuotient_64 (by decide) rfl ei75 rfl ?_
              refine pm_goto (tgt := 84) hC dX4_roughQuotient_67 (by decide) ?_
              obtain ⟨x76, ei77⟩ : ∃ y : Int, x7 + 1 = y := ⟨_, rfl⟩
              refine pm_iinc (y := x76) (lv' := [(7, (0, x76)), (5, (0, x74)), (3, (2, r73)), (8, (0, 1)), (0, (3, 87)), (1, (3, 84)), (2, (0, a1)), (6, (0, x5))]) hC 7 dX4_roughQuotient_84 (by decide) rfl ei77 rfl ?_
              refine pm_goto (tgt := 11) hC dX4_roughQuotient_87 (by decide) ?_
              refine pm_lvsub [4, 5, 6, 2, 1, 7, 0] (lv' := [(0, (3, 87)), (1, (3, 84)), (2, (0, a1)), (3, (2, r73)), (5, (0, x74)), (6, (0, x5)), (7, (0, x76))]) rfl ?_
              exact ih18 _ (by exact ow_79f_76 h0 b9 hm16 c20 c34 ei77) r73 x74 x5 x76 ⟨by exact ow_79f_60 b4 ei75, by exact ow_79f_78 h0 c34 ei75⟩ ⟨by exact ow_79f_57 b6, by exact ow_79f_77 h0 c20⟩ ⟨by exact ow_79f_64 b8 ei77, by exact ow_79f_79 h0 b9 c20 c34 ei77⟩ (by exact ow_79f_66 b9 ei75 ei77) (by exact ow_79f_73 c34 ei75) (by exact ow_79f_80 c20) rfl
  refine pm_lvsub [4, 5, 6, 3, 2, 1, 0] (lv' := [(0, (3, 87)), (1, (3, 84)), (2, (0, a1)), (3, (2, r1)), (5, (0, 0)), (6, (0, 0)), (7, (0, 0))]) rfl ?_
  exact L15 _ r1 0 0 0 ⟨by decide, by decide⟩ ⟨by decide, by decide⟩ ⟨by decide, by decide⟩ (by exact ow_79f_81) (by exact ow_79f_82 h0) (by exact ow_79f_82 h0) rfl
set_option maxHeartbeats 4000000 in
set_option maxRecDepth 100000 in
theorem uD_X4_compareExactly_78_87_84 (a1 : Int) (h0 : 0 ≤ a1 ∧ a1 ≤ 60) : pm_K 2 yX4_compareExactly cX4_compareExactly 5 (some .int) (fun av V => av = [(3, 78), (3, 87), (3, 84), (0, a1)] ∧ pm_ok 0 90 V) (fun _ V r V' => ∃ y, r = some (0, y) ∧ ((-1) ≤ y ∧ y ≤ 1) ∧ pm_ok 0 90 V' ∧ pm_ff [80, 82] [(79, 1), (81, 1)] V V') := by
  refine pm_MT.of (by decide) ⟨Nat.le_refl _, by decide⟩ (fun av V h => by rw [h.1]; exact (by decide : pm_words [(3, 0), (3, 0), (3, 0), (0, 0)] ≤ 5)) ?_
  rintro X av V0 hC - hR ⟨rfl, hV0⟩
  change pm_J X 0 [(0, (3, 78)), (1, (3, 87)), (2, (3, 84)), (3, (0, a1))] [] 118 V0
  refine pm_aload_n hC 0 (by decide) dX4_compareExactly_0 rfl ?_
  have e1 : V0 78 0 = 79 := hV0.one 78 0 (by decide) (by decide) rfl
  refine pm_getf (v := 79) hC 78 fl_X4_10 rfl rfl (by decide) rfl e1 dX4_compareExactly_1 ?_
  refine pm_callV (ci := 1) (as := []) (st := []) hC 79 uD_X1_begin_79 lm_X4_62 li_X1_begin (by decide) (by decide) rfl rfl rfl (by decide) rfl rfl (Nat.le_of_ble_eq_true rfl) ⟨Nat.le_refl _, Or.inl rfl⟩ dX4_compareExactly_4 ⟨rfl, hV0⟩ (fun r2 V3 hp4 => ?_)
  obtain ⟨rfl, hV5, hF6⟩ := hp4
  change pm_J X 7 [(0, (3, 78)), (1, (3, 87)), (2, (3, 84)), (3, (0, a1))] [] 118 V3
  have hF8 := pm_ff.tr (pm_ff.rf (cs := [80, 82]) (fs := [(79, 1), (81, 1)]) (V := V0)) hF6 (by decide) (by decide)
  have e9 : V3 78 0 = 79 := by rw [hF6 78 0 (by decide) (by decide)]; exact e1
  refine pm_aload_n hC 0 (by decide) dX4_compareExactly_7 rfl ?_
  have e10 : V3 78 1 = 81 := hV5.one 78 1 (by decide) (by decide) rfl
  refine pm_getf (v := 81) hC 78 fl_X4_16 rfl rfl (by decide) rfl e10 dX4_compareExactly_8 ?_
  refine pm_callV (ci := 1) (as := []) (st := []) hC 81 uD_X1_begin_81 lm_X4_62 li_X1_begin (by decide) (by decide) rfl rfl rfl (by decide) rfl rfl (Nat.le_of_ble_eq_true rfl) ⟨Nat.le_refl _, Or.inl rfl⟩ dX4_compareExactly_11 ⟨rfl, hV5⟩ (fun r11 V12 hp13 => ?_)
  obtain ⟨rfl, hV14, hF15⟩ := hp13
  change pm_J X 14 [(0, (3, 78)), (1, (3, 87)), (2, (3, 84)), (3, (0, a1))] [] 118 V12
  have hF17 := pm_ff.tr hF8 hF15 (by decide) (by decide)
  have e18 : V12 78 0 = 79 := by rw [hF15 78 0 (by decide) (by decide)]; exact e9
  have e19 : V12 78 1 = 81 := by rw [hF15 78 1 (by decide) (by decide)]; exact e10
  refine pm_iconst (v := 0) hC dX4_compareExactly_14 ?_
  refine pm_istore (lv' := [(4, (0, 0)), (0, (3, 78)), (1, (3, 87)), (2, (3, 84)), (3, (0, a1))]) hC dX4_compareExactly_15 (by decide) rfl ?_
  have L30 : ∀ (N32 : Nat) (x20 : Int) (V22 : pm_M), (0 ≤ x20 ∧ x20 ≤ 60) → pm_ok 0 90 V22 → pm_ff [80, 82] [(79, 1), (81, 1)] V0 V22 → V22 78 0 = 79 → V22 78 1 = 81 → (Int.toNat (60 - x20)) = N32 → pm_J X 17 [(0, (3, 78)), (1, (3, 87)), (2, (3, 84)), (3, (0, a1)), (4, (0, x20))] [] 118 V22 := by
    intro N32
    induction N32 using Nat.strongRecOn with
    | _ N32 ih33 =>
    intro x20 V22 b21 hV23 hF24 e25 e26 hm31
    refine pm_iload hC 4 dX4_compareExactly_17 rfl ?_
    refine pm_iload_n hC 3 dX4_compareExactly_19 rfl ?_
    refine pm_icmp_ge (tgt := 119) hC ⟨by exact ow_79f_0 b21, by exact ow_79f_1 b21⟩ ⟨by exact ow_79f_0 h0, by exact ow_79f_1 h0⟩ dX4_compareExactly_20 (by decide) (fun c34 => ?_) (fun c34 => ?_)
    · skip
      refine pm_aload_n hC 0 (by decide) dX4_compareExactly_119 rfl ?_
      refine pm_getf (v := 79) hC 78 fl_X4_10 rfl rfl (by decide) rfl e25 dX4_compareExactly_120 ?_
      refine pm_aload_n hC 0 (by decide) dX4_compareExactly_123 rfl ?_
      refine pm_getf (v := 81) hC 78 fl_X4_16 rfl rfl (by decide) rfl e26 dX4_compareExactly_124 ?_
      refine pm_callV (ci := 1) (as := [(3, 81)]) (st := []) hC 79 uD_X1_compareWith_79_81 lm_X4_69 li_X1_compareWith (by decide) (by decide) rfl rfl rfl (by decide) rfl rfl (Nat.le_of_ble_eq_true rfl) ⟨Nat.le_refl _, Or.inl rfl⟩ dX4_compareExactly_127 ⟨rfl, hV23⟩ (fun r35 V36 hp37 => ?_)
      obtain ⟨y38, rfl, b39, rfl⟩ := hp37
      change pm_J X 130 [(0, (3, 78)), (1, (3, 87)), (2, (3, 84)), (3, (0, a1)), (4, (0, x20))] [(0, y38)] 118 V22
      exact pm_iret hC hR pm_nar0 ⟨y38, rfl, ⟨by exact ow_79f_83 b39, by exact ow_79f_84 b39⟩, hV23, hF24⟩ dX4_compareExactly_130
    · skip
      refine pm_aload_n hC 1 (by decide) dX4_compareExactly_23 rfl ?_
      have e41 : V22 87 1 = 88 := hV23.one 87 1 (by decide) (by decide) rfl
      refine pm_getf (v := 88) hC 87 fl_X4_51 rfl rfl (by decide) rfl e41 dX4_compareExactly_24 ?_
      refine pm_iload hC 4 dX4_compareExactly_27 rfl ?_
      obtain ⟨y42, e43⟩ : ∃ y, V22 88 (x20 : Int).toNat = y := ⟨_, rfl⟩
      have b44 := hV23.get 88 (x20 : Int).toNat (lo := (-9223372036854775808)) (hi := 9223372036854775807) (by decide) (show _ < 60 by exact ow_79f_4 h0 c34) rfl
      rw [e43] at b44
      refine pm_laload (len := 60) (v := y42) hC 88 rfl rfl (by decide) ⟨by exact ow_79f_5 b21, by exact ow_79f_6 h0 c34⟩ (by decide) e43 dX4_compareExactly_29 ?_
      refine pm_aload_n hC 2 (by decide) dX4_compareExactly_30 rfl ?_
      have e45 : V22 84 2 = 86 := hV23.one 84 2 (by decide) (by decide) rfl
      refine pm_getf (v := 86) hC 84 fl_X4_55 rfl rfl (by decide) rfl e45 dX4_compareExactly_31 ?_
      refine pm_iload hC 4 dX4_compareExactly_34 rfl ?_
      obtain ⟨y46, e47⟩ : ∃ y, V22 86 (x20 : Int).toNat = y := ⟨_, rfl⟩
      have b48 := hV23.get 86 (x20 : Int).toNat (lo := (-9223372036854775808)) (hi := 9223372036854775807) (by decide) (show _ < 60 by exact ow_79f_4 h0 c34) rfl
      rw [e47] at b48
      refine pm_laload (len := 60) (v := y46) hC 86 rfl rfl (by decide) ⟨by exact ow_79f_5 b21, by exact ow_79f_6 h0 c34⟩ (by decide) e47 dX4_compareExactly_36 ?_
      refine pm_lmul hC dX4_compareExactly_37 ?_
      refine pm_wrL hC (fun y49 hw51 b50 => ?_)
      have b50 := And.intro b50.1 b50.2
      refine pm_aload_n hC 2 (by decide) dX4_compareExactly_38 rfl ?_
      have e52 : V22 84 1 = 85 := hV23.one 84 1 (by decide) (by decide) rfl
      refine pm_getf (v := 85) hC 84 fl_X4_51 rfl rfl (by decide) rfl e52 dX4_compareExactly_39 ?_
      refine pm_iload hC 4 dX4_compareExactly_42 rfl ?_
      obtain ⟨y53, e54⟩ : ∃ y, V22 85 (x20 : Int).toNat = y := ⟨_, rfl⟩
      have b55 := hV23.get 85 (x20 : Int).toNat (lo := (-9223372036854775808)) (hi := 9223372036854775807) (by decide) (show _ < 60 by exact ow_79f_4 h0 c34) rfl
      rw [e54] at b55
      refine pm_laload (len := 60) (v := y53) hC 85 rfl rfl (by decide) ⟨by exact ow_79f_5 b21, by exact ow_79f_6 h0 c34⟩ (by decide) e54 dX4_compareExactly_44 ?_
      refine pm_aload_n hC 1 (by decide) dX4_compareExactly_45 rfl ?_
      have e56 : V22 87 2 = 89 := hV23.one 87 2 (by decide) (by decide) rfl
      refine pm_getf (v := 89) hC 87 fl_X4_55 rfl rfl (by decide) rfl e56 dX4_compareExactly_46 ?_
      refine pm_iload hC 4 dX4_compareExactly_49 rfl ?_
      obtain ⟨y57, e58⟩ : ∃ y, V22 89 (x20 : Int).toNat = y := ⟨_, rfl⟩
      have b59 := hV23.get 89 (x20 : Int).toNat (lo := (-9223372036854775808)) (hi := 9223372036854775807) (by decide) (show _ < 60 by exact ow_79f_4 h0 c34) rfl
      rw [e58] at b59
      refine pm_laload (len := 60) (v := y57) hC 89 rfl rfl (by decide) ⟨by exact ow_79f_5 b21, by exact ow_79f_6 h0 c34⟩ (by decide) e58 dX4_compareExactly_51 ?_
      refine pm_lmul hC dX4_compareExactly_52 ?_
      refine pm_wrL hC (fun y60 hw62 b61 => ?_)
      have b61 := And.intro b61.1 b61.2
      refine pm_lcmp hC ⟨by exact ow_79f_17 b50, by exact ow_79f_18 b50⟩ ⟨by exact ow_79f_17 b61, by exact ow_79f_18 b61⟩ dX4_compareExactly_53 (fun y63 b64 => ?_)
      refine pm_if_eq (tgt := 113) hC ⟨by exact ow_79f_85 b64, by exact ow_79f_86 b64⟩ dX4_compareExactly_54 (by decide) (fun c65 => ?_) (fun c65 => ?_)
      · skip
        obtain ⟨x66, ei67⟩ : ∃ y : Int, x20 + 1 = y := ⟨_, rfl⟩
        refine pm_iinc (y := x66) (lv' := [(4, (0, x66)), (0, (3, 78)), (1, (3, 87)), (2, (3, 84)), (3, (0, a1))]) hC 4 dX4_compareExactly_113 (by decide) rfl ei67 rfl ?_
        refine pm_goto (tgt := 17) hC dX4_compareExactly_116 (by decide) ?_
        refine pm_lvsub [1, 2, 3, 4, 0] (lv' := [(0, (3, 78)), (1, (3, 87)), (2, (3, 84)), (3, (0, a1)), (4, (0, x66))]) rfl ?_
        exact ih33 _ (by exact ow_79f_87 h0 hm31 c34 ei67) x66 V22 ⟨by exact ow_79f_20 b21 ei67, by exact ow_79f_21 h0 c34 ei67⟩ hV23 hF24 e25 e26 rfl
      · skip
        refine pm_aload_n hC 0 (by decide) dX4_compareExactly_57 rfl ?_
        refine pm_getf (v := 79) hC 78 fl_X4_10 rfl rfl (by decide) rfl e25 dX4_compareExactly_58 ?_
        refine pm_aload_n hC 1 (by decide) dX4_compareExactly_61 rfl ?_
        refine pm_getf (v := 88) hC 87 fl_X4_51 rfl rfl (by decide) rfl e41 dX4_compareExactly_62 ?_
        refine pm_iload hC 4 dX4_compareExactly_65 rfl ?_
        refine pm_laload (len := 60) (v := y42) hC 88 rfl rfl (by decide) ⟨by exact ow_79f_5 b21, by exact ow_79f_6 h0 c34⟩ (by decide) e43 dX4_compareExactly_67 ?_
        refine pm_callV (ci := 1) (as := [(1, y42)]) (st := []) hC 79 (uD_X1_times_79 y42 ⟨by exact ow_79f_17 b44, by exact ow_79f_18 b44⟩) lm_X4_65 li_X1_times (by decide) (by decide) rfl rfl rfl (by decide) rfl rfl (Nat.le_of_ble_eq_true rfl) ⟨Nat.le_refl _, Or.inl rfl⟩ dX4_compareExactly_68 ⟨rfl, hV23⟩ (fun r68 V69 hp70 => ?_)
        obtain ⟨rfl, hV71, hF72⟩ := hp70
        change pm_J X 71 [(0, (3, 78)), (1, (3, 87)), (2, (3, 84)), (3, (0, a1)), (4, (0, x20))] [] 118 V69
        have hF74 := pm_ff.tr hF24 hF72 (by decide) (by decide)
        have e75 : V69 78 0 = 79 := by rw [hF72 78 0 (by decide) (by decide)]; exact e25
        have e76 : V69 78 1 = 81 := by rw [hF72 78 1 (by decide) (by decide)]; exact e26
        have e77 : V69 87 1 = 88 := by rw [hF72 87 1 (by decide) (by decide)]; exact e41
        have e78 : V69 84 2 = 86 := by rw [hF72 84 2 (by decide) (by decide)]; exact e45
        have e79 : V69 84 1 = 85 := by rw [hF72 84 1 (by decide) (by decide)]; exact e52
        have e80 : V69 87 2 = 89 := by rw [hF72 87 2 (by decide) (by decide)]; exact e56
        refine pm_aload_n hC 0 (by decide) dX4_compareExactly_71 rfl ?_
        refine pm_getf (v := 79) hC 78 fl_X4_10 rfl rfl (by decide) rfl e75 dX4_compareExactly_72 ?_
        refine pm_aload_n hC 2 (by decide) dX4_compareExactly_75 rfl ?_
        refine pm_getf (v := 86) hC 84 fl_X4_55 rfl rfl (by decide) rfl e78 dX4_compareExactly_76 ?_
        refine pm_iload hC 4 dX4_compareExactly_79 rfl ?_
        obtain ⟨y81, e82⟩ : ∃ y, V69 86 (x20 : Int).toNat = y := ⟨_, rfl⟩
        have b83 := hV71.get 86 (x20 : Int).toNat (lo := (-9223372036854775808)) (hi := 9223372036854775807) (by decide) (show _ < 60 by exact ow_79f_4 h0 c34) rfl
        rw [e82] at b83
        refine pm_laload (len := 60) (v := y81) hC 86 rfl rfl (by decide) ⟨by exact ow_79f_5 b21, by exact ow_79f_6 h0 c34⟩ (by decide) e82 dX4_compareExactly_81 ?_
        refine pm_callV (ci := 1) (as := [(1, y81)]) (st := []) hC 79 (uD_X1_times_79 y81 ⟨by exact ow_79f_17 b83, by exact ow_79f_18 b83⟩) lm_X4_65 li_X1_times (by decide) (by decide) rfl rfl rfl (by decide) rfl rfl (Nat.le_of_ble_eq_true rfl) ⟨Nat.le_refl _, Or.inl rfl⟩ dX4_compareExactly_82 ⟨rfl, hV71⟩ (fun r84 V85 hp86 => ?_)
        obtain ⟨rfl, hV87, hF88⟩ := hp86
        change pm_J X 85 [(0, (3, 78)), (1, (3, 87)), (2, (3, 84)), (3, (0, a1)), (4, (0, x20))] [] 118 V85
        have hF90 := pm_ff.tr hF74 hF88 (by decide) (by decide)
        have e91 : V85 78 0 = 79 := by rw [hF88 78 0 (by decide) (by decide)]; exact e75
        have e92 : V85 78 1 = 81 := by rw [hF88 78 1 (by decide) (by decide)]; exact e76
        have e93 : V85 87 1 = 88 := by rw [hF88 87 1 (by decide) (by decide)]; exact e77
        have e94 : V85 84 2 = 86 := by rw [hF88 84 2 (by decide) (by decide)]; exact e78
        have e95 : V85 84 1 = 85 := by rw [hF88 84 1 (by decide) (by decide)]; exact e79
        have e96 : V85 87 2 = 89 := by rw [hF88 87 2 (by decide) (by decide)]; exact e80
        refine pm_aload_n hC 0 (by decide) dX4_compareExactly_85 rfl ?_
        refine pm_getf (v := 81) hC 78 fl_X4_16 rfl rfl (by decide) rfl e92 dX4_compareExactly_86 ?_
        refine pm_aload_n hC 2 (by decide) dX4_compareExactly_89 rfl ?_
        refine pm_getf (v := 85) hC 84 fl_X4_51 rfl rfl (by decide) rfl e95 dX4_compareExactly_90 ?_
        refine pm_iload hC 4 dX4_compareExactly_93 rfl ?_
        obtain ⟨y97, e98⟩ : ∃ y, V85 85 (x20 : Int).toNat = y := ⟨_, rfl⟩
        have b99 := hV87.get 85 (x20 : Int).toNat (lo := (-9223372036854775808)) (hi := 9223372036854775807) (by decide) (show _ < 60 by exact ow_79f_4 h0 c34) rfl
        rw [e98] at b99
        refine pm_laload (len := 60) (v := y97) hC 85 rfl rfl (by decide) ⟨by exact ow_79f_5 b21, by exact ow_79f_6 h0 c34⟩ (by decide) e98 dX4_compareExactly_95 ?_
        refine pm_callV (ci := 1) (as := [(1, y97)]) (st := []) hC 81 (uD_X1_times_81 y97 ⟨by exact ow_79f_17 b99, by exact ow_79f_18 b99⟩) lm_X4_65 li_X1_times (by decide) (by decide) rfl rfl rfl (by decide) rfl rfl (Nat.le_of_ble_eq_true rfl) ⟨Nat.le_refl _, Or.inl rfl⟩ dX4_compareExactly_96 ⟨rfl, hV87⟩ (fun r100 V101 hp102 => ?_)
        obtain ⟨rfl, hV103, hF104⟩ := hp102
        change pm_J X 99 [(0, (3, 78)), (1, (3, 87)), (2, (3, 84)), (3, (0, a1)), (4, (0, x20))] [] 118 V101
        have hF106 := pm_ff.tr hF90 hF104 (by decide) (by decide)
        have e107 : V101 78 0 = 79 := by rw [hF104 78 0 (by decide) (by decide)]; exact e91
        have e108 : V101 78 1 = 81 := by rw [hF104 78 1 (by decide) (by decide)]; exact e92
        have e109 : V101 87 1 = 88 := by rw [hF104 87 1 (by decide) (by decide)]; exact e93
        have e110 : V101 84 2 = 86 := by rw [hF104 84 2 (by decide) (by decide)]; exact e94
        have e111 : V101 84 1 = 85 := by rw [hF104 84 1 (by decide) (by decide)]; exact e95
        have e112 : V101 87 2 = 89 := by rw [hF104 87 2 (by decide) (by decide)]; exact e96
        refine pm_aload_n hC 0 (by decide) dX4_compareExactly_99 rfl ?_
        refine pm_getf (v := 81) hC 78 fl_X4_16 rfl rfl (by decide) rfl e108 dX4_compareExactly_100 ?_
        refine pm_aload_n hC 1 (by decide) dX4_compareExactly_103 rfl ?_
        refine pm_getf (v := 89) hC 87 fl_X4_55 rfl rfl (by decide) rfl e112 dX4_compareExactly_104 ?_
        refine pm_iload hC 4 dX4_compareExactly_107 rfl ?_
        obtain ⟨y113, e114⟩ : ∃ y, V101 89 (x20 : Int).toNat = y := ⟨_, rfl⟩
        have b115 := hV103.get 89 (x20 : Int).toNat (lo := (-9223372036854775808)) (hi := 9223372036854775807) (by decide) (show _ < 60 by exact ow_79f_4 h0 c34) rfl
        rw [e114] at b115
        refine pm_laload (len := 60) (v := y113) hC 89 rfl rfl (by decide) ⟨by exact ow_79f_5 b21, by exact ow_79f_6 h0 c34⟩ (by decide) e114 dX4_compareExactly_109 ?_
        refine pm_callV (ci := 1) (as := [(1, y113)]) (st := []) hC 81 (uD_X1_times_81 y113 ⟨by exact ow_79f_17 b115, by exact ow_79f_18 b115⟩) lm_X4_65 li_X1_times (by decide) (by decide) rfl rfl rfl (by decide) rfl rfl (Nat.le_of_ble_eq_true rfl) ⟨Nat.le_refl _, Or.inl rfl⟩ dX4_compareExactly_110 ⟨rfl, hV103⟩ (fun r116 V117 hp118 => ?_)
        obtain ⟨rfl, hV119, hF120⟩ := hp118
        change pm_J X 113 [(0, (3, 78)), (1, (3, 87)), (2, (3, 84)), (3, (0, a1)), (4, (0, x20))] [] 118 V117
        have hF122 := pm_ff.tr hF106 hF120 (by decide) (by decide)
        have e123 : V117 78 0 = 79 := by rw [hF120 78 0 (by decide) (by decide)]; exact e107
        have e124 : V117 78 1 = 81 := by rw [hF120 78 1 (by decide) (by decide)]; exact e108
        have e125 : V117 87 1 = 88 := by rw [hF120 87 1 (by decide) (by decide)]; exact e109
        have e126 : V117 84 2 = 86 := by rw [hF120 84 2 (by decide) (by decide)]; exact e110
        have e127 : V117 84 1 = 85 := by rw [hF120 84 1 (by decide) (by decide)]; exact e111
        have e128 : V117 87 2 = 89 := by rw [hF120 87 2 (by decide) (by decide)]; exact e112
        obtain ⟨x129, ei130⟩ : ∃ y : Int, x20 + 1 = y := ⟨_, rfl⟩
        refine pm_iinc (y := x129) (lv' := [(4, (0, x129)), (0, (3, 78)), (1, (3, 87)), (2, (3, 84)), (3, (0, a1))]) hC 4 dX4_compareExactly_113 (by decide) rfl ei130 rfl ?_
        refine pm_goto (tgt := 17) hC dX4_compareExactly_116 (by decide) ?_
        refine pm_lvsub [1, 2, 3, 4, 0] (lv' := [(0, (3, 78)), (1, (3, 87)), (2, (3, 84)), (3, (0, a1)), (4, (0, x129))]) rfl ?_
        exact ih33 _ (by exact ow_79f_87 h0 hm31 c34 ei130) x129 V117 ⟨by exact ow_79f_20 b21 ei130, by exact ow_79f_21 h0 c34 ei130⟩ hV119 hF122 e123 e124 rfl
  refine pm_lvsub [1, 2, 3, 4, 0] (lv' := [(0, (3, 78)), (1, (3, 87)), (2, (3, 84)), (3, (0, a1)), (4, (0, 0))]) rfl ?_
  exact L30 _ 0 V12 ⟨by decide, by decide⟩ hV14 hF17 e18 e19 rfl
set_option maxHeartbeats 4000000 in
set_option maxRecDepth 100000 in
theorem uD_X4_compareProducts_78_87_84  : pm_K 3 yX4_compareProducts cX4_compareProducts 8 (some .int) (fun av V => av = [(3, 78), (3, 87), (3, 84)] ∧ pm_ok 0 90 V) (fun _ V r V' => ∃ y, r = some (0, y) ∧ ((-1) ≤ y ∧ y ≤ 1) ∧ pm_ok 0 90 V' ∧ pm_ff [80, 82] [(79, 1), (81, 1)] V V') := by
  refine pm_MT.of (by decide) ⟨Nat.le_refl _, by decide⟩ (fun av V h => by rw [h.1]; exact (by decide : pm_words [(3, 0), (3, 0), (3, 0)] ≤ 8)) ?_
  rintro X av V0 hC - hR ⟨rfl, hV0⟩
  change pm_J X 0 [(0, (3, 78)), (1, (3, 87)), (2, (3, 84))] [] 118 V0
  refine pm_aload_n hC 1 (by decide) dX4_compareProducts_0 rfl ?_
  refine pm_callV (ci := 0) (as := []) (st := []) hC 87 uD_X0_isNever_87 lm_X4_19 li_X0_isNever (by decide) (by decide) rfl rfl rfl (by decide) rfl rfl (Nat.le_of_ble_eq_true rfl) ⟨Nat.le_refl _, Or.inl rfl⟩ dX4_compareProducts_1 ⟨rfl, hV0⟩ (fun r1 V2 hp3 => ?_)
  obtain ⟨y4, rfl, b5, rfl⟩ := hp3
  change pm_J X 4 [(0, (3, 78)), (1, (3, 87)), (2, (3, 84))] [(0, y4)] 118 V0
  refine pm_istore_n (lv' := [(3, (0, y4)), (0, (3, 78)), (1, (3, 87)), (2, (3, 84))]) hC dX4_compareProducts_4 (by decide) rfl ?_
  refine pm_aload_n hC 3 (by decide) dX4_compareProducts_5 rfl ?_
  refine pm_callV (ci := 0) (as := []) (st := []) hC 84 uD_X0_isNever_84 lm_X4_19 li_X0_isNever (by decide) (by decide) rfl rfl rfl (by decide) rfl rfl (Nat.le_of_ble_eq_true rfl) ⟨Nat.le_refl _, Or.inl rfl⟩ dX4_compareProducts_6 ⟨rfl, hV0⟩ (fun r7 V8 hp9 => ?_)
  obtain ⟨y10, rfl, b11, rfl⟩ := hp9
  change pm_J X 9 [(3, (0, y4)), (0, (3, 78)), (1, (3, 87)), (2, (3, 84))] [(0, y10)] 118 V0
  refine pm_istore (lv' := [(4, (0, y10)), (3, (0, y4)), (0, (3, 78)), (1, (3, 87)), (2, (3, 84))]) hC dX4_compareProducts_9 (by decide) rfl ?_
  refine pm_iload_n hC 1 dX4_compareProducts_11 rfl ?_
  refine pm_if_ne (tgt := 20) hC ⟨by exact ow_79f_88 b5, by exact ow_79f_89 b5⟩ dX4_compareProducts_12 (by decide) (fun c13 => ?_) (fun c13 => ?_)
  · skip
    refine pm_iload hC 0 dX4_compareProducts_20 rfl ?_
    refine pm_if_eq (tgt := 29) hC ⟨by exact ow_79f_88 b11, by exact ow_79f_89 b11⟩ dX4_compareProducts_22 (by decide) (fun c14 => ?_) (fun c14 => ?_)
    · skip
      refine pm_iconst (v := 0) hC dX4_compareProducts_29 ?_
      refine pm_iload_n hC 1 dX4_compareProducts_30 rfl ?_
      refine pm_if_eq (tgt := 38) hC ⟨by exact ow_79f_88 b5, by exact ow_79f_89 b5⟩ dX4_compareProducts_31 (by decide) (fun c15 => ?_) (fun c15 => ?_)
      · skip
        exfalso; exact ow_79f_90 b5 c13 c15
      · skip
        refine pm_iconst (v := 1) hC dX4_compareProducts_34 ?_
        refine pm_goto (tgt := 39) hC dX4_compareProducts_35 (by decide) ?_
        refine pm_isub hC dX4_compareProducts_39 ?_
        change pm_J X 40 [(4, (0, y10)), (3, (0, y4)), (0, (3, 78)), (1, (3, 87)), (2, (3, 84))] [(0, (-1))] 118 V0
        exact pm_iret hC hR pm_nar0 ⟨(-1), rfl, ⟨by exact ow_79f_91, by exact ow_79f_92⟩, hV0, (pm_ff.rf (cs := [80, 82]) (fs := [(79, 1), (81, 1)]) (V := V0))⟩ dX4_compareProducts_40
    · skip
      refine pm_iconst (v := 1) hC dX4_compareProducts_25 ?_
      refine pm_goto (tgt := 30) hC dX4_compareProducts_26 (by decide) ?_
      refine pm_iload_n hC 1 dX4_compareProducts_30 rfl ?_
      refine pm_if_eq (tgt := 38) hC ⟨by exact ow_79f_88 b5, by exact ow_79f_89 b5⟩ dX4_compareProducts_31 (by decide) (fun c16 => ?_) (fun c16 => ?_)
      · skip
        exfalso; exact ow_79f_90 b5 c13 c16
      · skip
        refine pm_iconst (v := 1) hC dX4_compareProducts_34 ?_
        refine pm_goto (tgt := 39) hC dX4_compareProducts_35 (by decide) ?_
        refine pm_isub hC dX4_compareProducts_39 ?_
        change pm_J X 40 [(4, (0, y10)), (3, (0, y4)), (0, (3, 78)), (1, (3, 87)), (2, (3, 84))] [(0, 0)] 118 V0
        exact pm_iret hC hR pm_nar0 ⟨0, rfl, ⟨by exact ow_79f_93, by exact ow_79f_28⟩, hV0, (pm_ff.rf (cs := [80, 82]) (fs := [(79, 1), (81, 1)]) (V := V0))⟩ dX4_compareProducts_40
  · skip
    refine pm_iload hC 0 dX4_compareProducts_15 rfl ?_
    refine pm_if_eq (tgt := 41) hC ⟨by exact ow_79f_88 b11, by exact ow_79f_89 b11⟩ dX4_compareProducts_17 (by decide) (fun c17 => ?_) (fun c17 => ?_)
    · skip
      refine pm_aload_n hC 3 (by decide) dX4_compareProducts_41 rfl ?_
      obtain ⟨y18, e19⟩ : ∃ y, V0 87 0 = y := ⟨_, rfl⟩
      have b20 := hV0.get 87 0 (lo := 0) (hi := 60) (by decide) (by decide) rfl
      rw [e19] at b20
      refine pm_getf (v := y18) hC 87 fl_X4_25 rfl rfl (by decide) rfl e19 dX4_compareProducts_42 ?_
      refine pm_aload_n hC 4 (by decide) dX4_compareProducts_45 rfl ?_
      obtain ⟨y21, e22⟩ : ∃ y, V0 84 0 = y := ⟨_, rfl⟩
      have b23 := hV0.get 84 0 (lo := 0) (hi := 60) (by decide) (by decide) rfl
      rw [e22] at b23
      refine pm_getf (v := y21) hC 84 fl_X4_25 rfl rfl (by decide) rfl e22 dX4_compareProducts_46 ?_
      refine pm_mmin hC 4159 4160 1018 4161 ⟨by exact ow_79f_0 b20, by exact ow_79f_1 b20⟩ ⟨by exact ow_79f_0 b23, by exact ow_79f_1 b23⟩ (by decide) wL_X4_29 wS_mmin wI_math wC_mmin (Nat.le_of_ble_eq_true rfl) dX4_compareProducts_49 (fun y24 b25 => ?_)
      have he26 : pm_mn y18 y21 = y24 := pm_mn_of b25
      replace b25 : 0 ≤ y24 ∧ y24 ≤ 60 ∧ y24 ≤ y18 ∧ y24 ≤ y21 := ⟨by exact ow_79f_94 b20 b23 b25, by exact ow_79f_95 b20 b25, b25.1, b25.2.1⟩
      refine pm_istore (lv' := [(5, (0, y24)), (4, (0, y10)), (3, (0, y4)), (0, (3, 78)), (1, (3, 87)), (2, (3, 84))]) hC dX4_compareProducts_52 (by decide) rfl ?_
      refine pm_aload_n hC 4 (by decide) dX4_compareProducts_54 rfl ?_
      refine pm_aload_n hC 5 (by decide) dX4_compareProducts_55 rfl ?_
      refine pm_iload hC 0 dX4_compareProducts_56 rfl ?_
      refine pm_callS (as := [(3, 87), (3, 84), (0, y24)]) (st := []) hC (uD_X4_roughQuotient_87_84 y24 ⟨by exact ow_79f_96 b25, by exact ow_79f_97 b25⟩) lm_X4_35 ls_X4_roughQuotient (by decide) (by decide) rfl rfl (Nat.le_of_ble_eq_true rfl) ⟨Nat.le_refl _, Or.inl rfl⟩ dX4_compareProducts_58 ⟨rfl, hV0⟩ (fun r27 V28 hp29 => ?_)
      obtain ⟨y30, rfl, b31, rfl⟩ := hp29
      change pm_J X 61 [(5, (0, y24)), (4, (0, y10)), (3, (0, y4)), (0, (3, 78)), (1, (3, 87)), (2, (3, 84))] [(2, y30)] 118 V0
      refine pm_dstore (lv' := [(6, (2, y30)), (5, (0, y24)), (4, (0, y10)), (3, (0, y4)), (0, (3, 78)), (1, (3, 87)), (2, (3, 84))]) hC dX4_compareProducts_61 (by decide) rfl ?_
      refine pm_dload hC 0 dX4_compareProducts_63 rfl ?_
      refine pm_ldc2d (v := 4607182418804521008) hC 4171 dX4_compareProducts_65 (by decide +kernel) (fun r33 => ?_)
      refine pm_dcmp hC dX4_compareProducts_68 (fun y34 b35 => ?_)
      have b35 := And.intro b35.1 b35.2
      refine pm_if_le (tgt := 74) hC ⟨by exact ow_79f_2 b35, by exact ow_79f_3 b35⟩ dX4_compareProducts_69 (by decide) (fun c36 => ?_) (fun c36 => ?_)
      · skip
        refine pm_dload hC 0 dX4_compareProducts_74 rfl ?_
        refine pm_ldc2d (v := 4607182418791010209) hC 4172 dX4_compareProducts_76 (by decide +kernel) (fun r37 => ?_)
        refine pm_dcmp hC dX4_compareProducts_79 (fun y38 b39 => ?_)
        have b39 := And.intro b39.1 b39.2
        refine pm_if_ge (tgt := 85) hC ⟨by exact ow_79f_2 b39, by exact ow_79f_3 b39⟩ dX4_compareProducts_80 (by decide) (fun c40 => ?_) (fun c40 => ?_)
        · skip
          refine pm_aload_n hC 4 (by decide) dX4_compareProducts_85 rfl ?_
          refine pm_aload_n hC 5 (by decide) dX4_compareProducts_86 rfl ?_
          refine pm_aload_n hC 6 (by decide) dX4_compareProducts_87 rfl ?_
          refine pm_iload hC 1 dX4_compareProducts_88 rfl ?_
          refine pm_callV (ci := 4) (as := [(3, 87), (3, 84), (0, y24)]) (st := []) hC 78 (uD_X4_compareExactly_78_87_84 y24 ⟨by exact ow_79f_96 b25, by exact ow_79f_97 b25⟩) lm_X4_43 li_X4_compareExactly (by decide) (by decide) rfl rfl rfl (by decide) rfl rfl (Nat.le_of_ble_eq_true rfl) ⟨Nat.le_refl _, Or.inl rfl⟩ dX4_compareProducts_90 ⟨rfl, hV0⟩ (fun r41 V42 hp43 => ?_)
          obtain ⟨y44, rfl, b45, hV46, hF47⟩ := hp43
          change pm_J X 93 [(6, (2, y30)), (5, (0, y24)), (4, (0, y10)), (3, (0, y4)), (0, (3, 78)), (1, (3, 87)), (2, (3, 84))] [(0, y44)] 118 V42
          have hF49 := pm_ff.tr (pm_ff.rf (cs := [80, 82]) (fs := [(79, 1), (81, 1)]) (V := V0)) hF47 (by decide) (by decide)
          have e50 : V42 87 0 = y18 := by rw [hF47 87 0 (by decide) (by decide)]; exact e19
          have e51 : V42 84 0 = y21 := by rw [hF47 84 0 (by decide) (by decide)]; exact e22
          exact pm_iret hC hR pm_nar0 ⟨y44, rfl, ⟨by exact ow_79f_83 b45, by exact ow_79f_84 b45⟩, hV46, hF49⟩ dX4_compareProducts_93
        · skip
          refine pm_iconst (v := (-1)) hC dX4_compareProducts_83 ?_
          exact pm_iret hC hR pm_nar0 ⟨(-1), rfl, ⟨by exact ow_79f_91, by exact ow_79f_92⟩, hV0, (pm_ff.rf (cs := [80, 82]) (fs := [(79, 1), (81, 1)]) (V := V0))⟩ dX4_compareProducts_84
      · skip
        refine pm_iconst (v := 1) hC dX4_compareProducts_72 ?_
        exact pm_iret hC hR pm_nar0 ⟨1, rfl, ⟨by exact ow_79f_92, by exact ow_79f_32⟩, hV0, (pm_ff.rf (cs := [80, 82]) (fs := [(79, 1), (81, 1)]) (V := V0))⟩ dX4_compareProducts_73
    · skip
      refine pm_iload hC 0 dX4_compareProducts_20 rfl ?_
      refine pm_if_eq (tgt := 29) hC ⟨by exact ow_79f_88 b11, by exact ow_79f_89 b11⟩ dX4_compareProducts_22 (by decide) (fun c52 => ?_) (fun c52 => ?_)
      · skip
        exfalso; exact ow_79f_90 b11 c17 c52
      · skip
        refine pm_iconst (v := 1) hC dX4_compareProducts_25 ?_
        refine pm_goto (tgt := 30) hC dX4_compareProducts_26 (by decide) ?_
        refine pm_iload_n hC 1 dX4_compareProducts_30 rfl ?_
        refine pm_if_eq (tgt := 38) hC ⟨by exact ow_79f_88 b5, by exact ow_79f_98 c13⟩ dX4_compareProducts_31 (by decide) (fun c53 => ?_) (fun c53 => ?_)
        · skip
          refine pm_iconst (v := 0) hC dX4_compareProducts_38 ?_
          refine pm_isub hC dX4_compareProducts_39 ?_
          change pm_J X 40 [(4, (0, y10)), (3, (0, y4)), (0, (3, 78)), (1, (3, 87)), (2, (3, 84))] [(0, 1)] 118 V0
          exact pm_iret hC hR pm_nar0 ⟨1, rfl, ⟨by exact ow_79f_92, by exact ow_79f_32⟩, hV0, (pm_ff.rf (cs := [80, 82]) (fs := [(79, 1), (81, 1)]) (V := V0))⟩ dX4_compareProducts_40
        · skip
          exfalso; exact ow_79f_99 b5 c13 c53
set_option maxHeartbeats 4000000 in
set_option maxRecDepth 100000 in
theorem uD_X4_factorOf_87_87 (a1 : Int) (h0 : 0 ≤ a1 ∧ a1 ≤ 119) : pm_K 1 yX4_factorOf cX4_factorOf 6 (some .long) (fun av V => av = [(3, 87), (3, 87), (0, a1)] ∧ pm_ok 0 90 V) (fun _ V r V' => ∃ y, r = some (1, y) ∧ (1 ≤ y ∧ y ≤ 9223372036854775807) ∧ V = V') := by
  refine pm_MT.of (by decide) ⟨Nat.le_refl _, by decide⟩ (fun av V h => by rw [h.1]; exact (by decide : pm_words [(3, 0), (3, 0), (0, 0)] ≤ 6)) ?_
  rintro X av V0 hC - hR ⟨rfl, hV0⟩
  change pm_J X 0 [(0, (3, 87)), (1, (3, 87)), (2, (0, a1))] [] 118 V0
  refine pm_iload_n hC 2 dX4_factorOf_0 rfl ?_
  refine pm_iconst (v := 2) hC dX4_factorOf_1 ?_
  refine pm_idiv hC ⟨by exact ow_79f_33 h0, by exact ow_79f_34 h0, by exact ow_79f_35 h0⟩ ⟨by decide, by decide, by decide⟩ dX4_factorOf_2 ?_
  refine pm_istore_n (lv' := [(3, (0, (a1 / 2))), (0, (3, 87)), (1, (3, 87)), (2, (0, a1))]) hC dX4_factorOf_3 (by decide) rfl ?_
  refine pm_iload_n hC 3 dX4_factorOf_4 rfl ?_
  refine pm_iconst (v := 2) hC dX4_factorOf_5 ?_
  refine pm_irem hC ⟨by exact ow_79f_33 h0, by exact ow_79f_34 h0, by exact ow_79f_35 h0⟩ ⟨by decide, by decide, by decide⟩ dX4_factorOf_6 ?_
  refine pm_if_ne (tgt := 19) hC ⟨by exact ow_79f_36, by exact ow_79f_37⟩ dX4_factorOf_7 (by decide) (fun c1 => ?_) (fun c1 => ?_)
  · skip
    refine pm_aload_n hC 2 (by decide) dX4_factorOf_19 rfl ?_
    have e2 : V0 87 2 = 89 := hV0.one 87 2 (by decide) (by decide) rfl
    refine pm_getf (v := 89) hC 87 fl_X4_55 rfl rfl (by decide) rfl e2 dX4_factorOf_20 ?_
    refine pm_iload_n hC 0 dX4_factorOf_23 rfl ?_
    obtain ⟨y3, e4⟩ : ∃ y, V0 89 ((a1 / 2) : Int).toNat = y := ⟨_, rfl⟩
    have b5 := hV0.get 89 ((a1 / 2) : Int).toNat (lo := (-9223372036854775808)) (hi := 9223372036854775807) (by decide) (show _ < 60 by exact ow_79f_38 h0) rfl
    rw [e4] at b5
    refine pm_laload (len := 60) (v := y3) hC 89 rfl rfl (by decide) ⟨by exact ow_79f_39 h0, by exact ow_79f_40 h0⟩ (by decide) e4 dX4_factorOf_24 ?_
    refine pm_lstore (lv' := [(4, (1, y3)), (3, (0, (a1 / 2))), (0, (3, 87)), (1, (3, 87)), (2, (0, a1))]) hC dX4_factorOf_25 (by decide) rfl ?_
    refine pm_lconst (x := 1) hC dX4_factorOf_27 rfl ?_
    refine pm_lload hC 0 dX4_factorOf_28 rfl ?_
    refine pm_mmaxL hC 4168 4169 1018 4170 ⟨by decide, by decide⟩ ⟨by exact ow_79f_17 b5, by exact ow_79f_18 b5⟩ (by decide) wL_X4_58 wS_mmaxL wI_math wC_mmaxL (Nat.le_of_ble_eq_true rfl) dX4_factorOf_30 (fun y6 b7 => ?_)
    have he8 : pm_mx 1 y3 = y6 := pm_mx_of b7
    replace b7 : 1 ≤ y6 ∧ y6 ≤ 9223372036854775807 ∧ 1 ≤ y6 ∧ y3 ≤ y6 := ⟨by exact ow_79f_41 b7, by exact ow_79f_42 b5 b7, b7.1, b7.2.1⟩
    exact pm_lret hC hR ⟨y6, rfl, ⟨by exact ow_79f_43 b7, by exact ow_79f_44 b7⟩, rfl⟩ dX4_factorOf_33
  · skip
    refine pm_aload_n hC 1 (by decide) dX4_factorOf_10 rfl ?_
    have e9 : V0 87 1 = 88 := hV0.one 87 1 (by decide) (by decide) rfl
    refine pm_getf (v := 88) hC 87 fl_X4_51 rfl rfl (by decide) rfl e9 dX4_factorOf_11 ?_
    refine pm_iload_n hC 0 dX4_factorOf_14 rfl ?_
    obtain ⟨y10, e11⟩ : ∃ y, V0 88 ((a1 / 2) : Int).toNat = y := ⟨_, rfl⟩
    have b12 := hV0.get 88 ((a1 / 2) : Int).toNat (lo := (-9223372036854775808)) (hi := 9223372036854775807) (by decide) (show _ < 60 by exact ow_79f_45 h0 c1) rfl
    rw [e11] at b12
    refine pm_laload (len := 60) (v := y10) hC 88 rfl rfl (by decide) ⟨by exact ow_79f_46 h0 c1, by exact ow_79f_47 h0 c1⟩ (by decide) e11 dX4_factorOf_15 ?_
    refine pm_goto (tgt := 25) hC dX4_factorOf_16 (by decide) ?_
    refine pm_lstore (lv' := [(4, (1, y10)), (3, (0, (a1 / 2))), (0, (3, 87)), (1, (3, 87)), (2, (0, a1))]) hC dX4_factorOf_25 (by decide) rfl ?_
    refine pm_lconst (x := 1) hC dX4_factorOf_27 rfl ?_
    refine pm_lload hC 0 dX4_factorOf_28 rfl ?_
    refine pm_mmaxL hC 4168 4169 1018 4170 ⟨by decide, by decide⟩ ⟨by exact ow_79f_17 b12, by exact ow_79f_18 b12⟩ (by decide) wL_X4_58 wS_mmaxL wI_math wC_mmaxL (Nat.le_of_ble_eq_true rfl) dX4_factorOf_30 (fun y13 b14 => ?_)
    have he15 : pm_mx 1 y10 = y13 := pm_mx_of b14
    replace b14 : 1 ≤ y13 ∧ y13 ≤ 9223372036854775807 ∧ 1 ≤ y13 ∧ y10 ≤ y13 := ⟨by exact ow_79f_41 b14, by exact ow_79f_42 b12 b14, b14.1, b14.2.1⟩
    exact pm_lret hC hR ⟨y13, rfl, ⟨by exact ow_79f_43 b14, by exact ow_79f_44 b14⟩, rfl⟩ dX4_factorOf_33
set_option maxHeartbeats 4000000 in
set_option maxRecDepth 100000 in
theorem uD_X4_roughQuotient_87_87 (a1 : Int) (h0 : 0 ≤ a1 ∧ a1 ≤ 60) : pm_K 2 yX4_roughQuotient cX4_roughQuotient 9 (some .double) (fun av V => av = [(3, 87), (3, 87), (0, a1)] ∧ pm_ok 0 90 V) (fun _ V r V' => ∃ y, r = some (2, y) ∧ True ∧ V = V') := by
  refine pm_MT.of (by decide) ⟨Nat.le_refl _, by decide⟩ (fun av V h => by rw [h.1]; exact (by decide : pm_words [(3, 0), (3, 0), (0, 0)] ≤ 9)) ?_
  rintro X av V0 hC - hR ⟨rfl, hV0⟩
  change pm_J X 0 [(0, (3, 87)), (1, (3, 87)), (2, (0, a1))] [] 118 V0
  refine pm_dconst1 hC dX4_roughQuotient_0 (fun r1 => ?_)
  refine pm_dstore_n (lv' := [(3, (2, r1)), (0, (3, 87)), (1, (3, 87)), (2, (0, a1))]) hC dX4_roughQuotient_1 (by decide) rfl ?_
  refine pm_iconst (v := 0) hC dX4_roughQuotient_2 ?_
  refine pm_istore (lv' := [(5, (0, 0)), (3, (2, r1)), (0, (3, 87)), (1, (3, 87)), (2, (0, a1))]) hC dX4_roughQuotient_3 (by decide) rfl ?_
  refine pm_iconst (v := 0) hC dX4_roughQuotient_5 ?_
  refine pm_istore (lv' := [(6, (0, 0)), (5, (0, 0)), (3, (2, r1)), (0, (3, 87)), (1, (3, 87)), (2, (0, a1))]) hC dX4_roughQuotient_6 (by decide) rfl ?_
  refine pm_iconst (v := 0) hC dX4_roughQuotient_8 ?_
  refine pm_istore (lv' := [(7, (0, 0)), (6, (0, 0)), (5, (0, 0)), (3, (2, r1)), (0, (3, 87)), (1, (3, 87)), (2, (0, a1))]) hC dX4_roughQuotient_9 (by decide) rfl ?_
  have L15 : ∀ (N17 : Nat) (x2 : Int) (x3 : Int) (x5 : Int) (x7 : Int), (0 ≤ x3 ∧ x3 ≤ 120) → (0 ≤ x5 ∧ x5 ≤ 120) → (0 ≤ x7 ∧ x7 ≤ 240) → (x3 + x5 = x7) → (x3 ≤ 2 * a1) → (x5 ≤ 2 * a1) → (Int.toNat (240 - x7)) = N17 → pm_J X 11 [(0, (3, 87)), (1, (3, 87)), (2, (0, a1)), (3, (2, x2)), (5, (0, x3)), (6, (0, x5)), (7, (0, x7))] [] 118 V0 := by
    intro N17
    induction N17 using Nat.strongRecOn with
    | _ N17 ih18 =>
    intro x2 x3 x5 x7 b4 b6 b8 b9 b10 b11 hm16
    refine pm_iload hC 6 dX4_roughQuotient_11 rfl ?_
    refine pm_iconst (v := 4) hC dX4_roughQuotient_13 ?_
    refine pm_iload_n hC 2 dX4_roughQuotient_14 rfl ?_
    refine pm_imul hC dX4_roughQuotient_15 ?_
    refine pm_icmp_ge (tgt := 90) hC ⟨by exact ow_79f_48 b8, by exact ow_79f_49 b8⟩ ⟨by exact ow_79f_50 b4 b10, by exact ow_79f_51 h0⟩ dX4_roughQuotient_16 (by decide) (fun c19 => ?_) (fun c19 => ?_)
    · skip
      refine pm_dload_n hC 3 dX4_roughQuotient_90 rfl ?_
      exact pm_dret hC hR ⟨x2, rfl, trivial, rfl⟩ dX4_roughQuotient_91
    · skip
      refine pm_iload hC 5 dX4_roughQuotient_19 rfl ?_
      refine pm_iconst (v := 2) hC dX4_roughQuotient_21 ?_
      refine pm_iload_n hC 2 dX4_roughQuotient_22 rfl ?_
      refine pm_imul hC dX4_roughQuotient_23 ?_
      refine pm_icmp_ge (tgt := 41) hC ⟨by exact ow_79f_52 b6, by exact ow_79f_53 b6⟩ ⟨by exact ow_79f_54 b8 c19, by exact ow_79f_55 h0⟩ dX4_roughQuotient_24 (by decide) (fun c20 => ?_) (fun c20 => ?_)
      · skip
        refine pm_iconst (v := 1) hC dX4_roughQuotient_41 ?_
        refine pm_goto (tgt := 46) hC dX4_roughQuotient_42 (by decide) ?_
        refine pm_istore (lv' := [(8, (0, 1)), (0, (3, 87)), (1, (3, 87)), (2, (0, a1)), (3, (2, x2)), (5, (0, x3)), (6, (0, x5)), (7, (0, x7))]) hC dX4_roughQuotient_46 (by decide) rfl ?_
        refine pm_iload hC 0 dX4_roughQuotient_48 rfl ?_
        refine pm_if_eq (tgt := 70) hC ⟨by decide, by decide⟩ dX4_roughQuotient_50 (by decide) (fun c21 => ?_) (fun c21 => ?_)
        · skip
          exfalso; exact ow_79f_56 c21
        · skip
          refine pm_dload_n hC 4 dX4_roughQuotient_53 rfl ?_
          refine pm_aload_n hC 1 (by decide) dX4_roughQuotient_54 rfl ?_
          refine pm_aload_n hC 2 (by decide) dX4_roughQuotient_55 rfl ?_
          refine pm_iload hC 5 dX4_roughQuotient_56 rfl ?_
          refine pm_callS (as := [(3, 87), (3, 87), (0, x3)]) (st := [(2, x2)]) hC (uD_X4_factorOf_87_87 x3 ⟨by exact ow_79f_57 b4, by exact ow_79f_58 b6 b9 c19 c20⟩) lm_X4_47 ls_X4_factorOf (by decide) (by decide) rfl rfl (Nat.le_of_ble_eq_true rfl) ⟨Nat.le_refl _, Or.inl rfl⟩ dX4_roughQuotient_58 ⟨rfl, hV0⟩ (fun r22 V23 hp24 => ?_)
          obtain ⟨y25, rfl, b26, rfl⟩ := hp24
          change pm_J X 61 [(8, (0, 1)), (0, (3, 87)), (1, (3, 87)), (2, (0, a1)), (3, (2, x2)), (5, (0, x3)), (6, (0, x5)), (7, (0, x7))] [(1, y25), (2, x2)] 118 V0
          refine pm_l2d hC dX4_roughQuotient_61 (fun r28 => ?_)
          refine pm_dmul hC dX4_roughQuotient_62 (fun r29 => ?_)
          refine pm_dstore_n (lv' := [(3, (2, r29)), (8, (0, 1)), (0, (3, 87)), (1, (3, 87)), (2, (0, a1)), (5, (0, x3)), (6, (0, x5)), (7, (0, x7))]) hC dX4_roughQuotient_63 (by decide) rfl ?_
          obtain ⟨x30, ei31⟩ : ∃ y : Int, x3 + 1 = y := ⟨_, rfl⟩
          refine pm_iinc (y := x30) (lv' := [(5, (0, x30)), (3, (2, r29)), (8, (0, 1)), (0, (3, 87)), (1, (3, 87)), (2, (0, a1)), (6, (0, x5)), (7, (0, x7))]) hC 5 dX4_roughQuotient_64 (by decide) rfl ei31 rfl ?_
          refine pm_goto (tgt := 84) hC dX4_roughQuotient_67 (by decide) ?_
          obtain ⟨x32, ei33⟩ : ∃ y : Int, x7 + 1 = y := ⟨_, rfl⟩
          refine pm_iinc (y := x32) (lv' := [(7, (0, x32)), (5, (0, x30)), (3, (2, r29)), (8, (0, 1)), (0, (3, 87)), (1, (3, 87)), (2, (0, a1)), (6, (0, x5))]) hC 7 dX4_roughQuotient_84 (by decide) rfl ei33 rfl ?_
          refine pm_goto (tgt := 11) hC dX4_roughQuotient_87 (by decide) ?_
          refine pm_lvsub [4, 5, 6, 2, 1, 7, 0] (lv' := [(0, (3, 87)), (1, (3, 87)), (2, (0, a1)), (3, (2, r29)), (5, (0, x30)), (6, (0, x5)), (7, (0, x32))]) rfl ?_
          exact ih18 _ (by exact ow_79f_59 b6 hm16 c19 c20 ei33) r29 x30 x5 x32 ⟨by exact ow_79f_60 b4 ei31, by exact ow_79f_61 h0 b9 c19 c20 ei31⟩ ⟨by exact ow_79f_62 b8 c19 c20, by exact ow_79f_63 b6⟩ ⟨by exact ow_79f_64 b8 ei33, by exact ow_79f_65 b6 c19 c20 ei33⟩ (by exact ow_79f_66 b9 ei31 ei33) (by exact ow_79f_67 b9 c19 c20 ei31) (by exact ow_79f_68 b11) rfl
      · skip
        refine pm_iload hC 4 dX4_roughQuotient_27 rfl ?_
        refine pm_iconst (v := 2) hC dX4_roughQuotient_29 ?_
        refine pm_iload_n hC 2 dX4_roughQuotient_30 rfl ?_
        refine pm_imul hC dX4_roughQuotient_31 ?_
        refine pm_icmp_ge (tgt := 45) hC ⟨by exact ow_79f_52 b4, by exact ow_79f_53 b4⟩ ⟨by exact ow_79f_54 b8 c19, by exact ow_79f_55 h0⟩ dX4_roughQuotient_32 (by decide) (fun c34 => ?_) (fun c34 => ?_)
        · skip
          refine pm_iconst (v := 0) hC dX4_roughQuotient_45 ?_
          refine pm_istore (lv' := [(8, (0, 0)), (0, (3, 87)), (1, (3, 87)), (2, (0, a1)), (3, (2, x2)), (5, (0, x3)), (6, (0, x5)), (7, (0, x7))]) hC dX4_roughQuotient_46 (by decide) rfl ?_
          refine pm_iload hC 0 dX4_roughQuotient_48 rfl ?_
          refine pm_if_eq (tgt := 70) hC ⟨by decide, by decide⟩ dX4_roughQuotient_50 (by decide) (fun c35 => ?_) (fun c35 => ?_)
          · skip
            refine pm_dload_n hC 4 dX4_roughQuotient_70 rfl ?_
            refine pm_aload_n hC 2 (by decide) dX4_roughQuotient_71 rfl ?_
            refine pm_aload_n hC 1 (by decide) dX4_roughQuotient_72 rfl ?_
            refine pm_iload hC 6 dX4_roughQuotient_73 rfl ?_
            refine pm_callS (as := [(3, 87), (3, 87), (0, x5)]) (st := [(2, x2)]) hC (uD_X4_factorOf_87_87 x5 ⟨by exact ow_79f_57 b6, by exact ow_79f_69 b4 c20 c34⟩) lm_X4_47 ls_X4_factorOf (by decide) (by decide) rfl rfl (Nat.le_of_ble_eq_true rfl) ⟨Nat.le_refl _, Or.inl rfl⟩ dX4_roughQuotient_75 ⟨rfl, hV0⟩ (fun r36 V37 hp38 => ?_)
            obtain ⟨y39, rfl, b40, rfl⟩ := hp38
            change pm_J X 78 [(8, (0, 0)), (0, (3, 87)), (1, (3, 87)), (2, (0, a1)), (3, (2, x2)), (5, (0, x3)), (6, (0, x5)), (7, (0, x7))] [(1, y39), (2, x2)] 118 V0
            refine pm_l2d hC dX4_roughQuotient_78 (fun r42 => ?_)
            refine pm_ddiv hC dX4_roughQuotient_79 (fun r43 => ?_)
            refine pm_dstore_n (lv' := [(3, (2, r43)), (8, (0, 0)), (0, (3, 87)), (1, (3, 87)), (2, (0, a1)), (5, (0, x3)), (6, (0, x5)), (7, (0, x7))]) hC dX4_roughQuotient_80 (by decide) rfl ?_
            obtain ⟨x44, ei45⟩ : ∃ y : Int, x5 + 1 = y := ⟨_, rfl⟩
            refine pm_iinc (y := x44) (lv' := [(6, (0, x44)), (3, (2, r43)), (8, (0, 0)), (0, (3, 87)), (1, (3, 87)), (2, (0, a1)), (5, (0, x3)), (7, (0, x7))]) hC 6 dX4_roughQuotient_81 (by decide) rfl ei45 rfl ?_
            obtain ⟨x46, ei47⟩ : ∃ y : Int, x7 + 1 = y := ⟨_, rfl⟩
            refine pm_iinc (y := x46) (lv' := [(7, (0, x46)), (6, (0, x44)), (3, (2, r43)), (8, (0, 0)), (0, (3, 87)), (1, (3, 87)), (2, (0, a1)), (5, (0, x3))]) hC 7 dX4_roughQuotient_84 (by decide) rfl ei47 rfl ?_
            refine pm_goto (tgt := 11) hC dX4_roughQuotient_87 (by decide) ?_
            refine pm_lvsub [4, 5, 6, 2, 7, 1, 0] (lv' := [(0, (3, 87)), (1, (3, 87)), (2, (0, a1)), (3, (2, r43)), (5, (0, x3)), (6, (0, x44)), (7, (0, x46))]) rfl ?_
            exact ih18 _ (by exact ow_79f_59 b4 hm16 c19 c34 ei47) r43 x3 x44 x46 ⟨by exact ow_79f_70 b8 b9 c20 c34, by exact ow_79f_63 b4⟩ ⟨by exact ow_79f_60 b6 ei45, by exact ow_79f_71 b4 c20 c34 ei45⟩ ⟨by exact ow_79f_64 b8 ei47, by exact ow_79f_65 b4 c19 c34 ei47⟩ (by exact ow_79f_72 b9 ei45 ei47) (by exact ow_79f_68 b10) (by exact ow_79f_73 c20 ei45) rfl
          · skip
            exfalso; exact ow_79f_74 c35
        · skip
          refine pm_dload_n hC 3 dX4_roughQuotient_35 rfl ?_
          refine pm_dconst1 hC dX4_roughQuotient_36 (fun r48 => ?_)
          refine pm_dcmp hC dX4_roughQuotient_37 (fun y49 b50 => ?_)
          have b50 := And.intro b50.1 b50.2
          refine pm_if_gt (tgt := 45) hC ⟨by exact ow_79f_2 b50, by exact ow_79f_3 b50⟩ dX4_roughQuotient_38 (by decide) (fun c51 => ?_) (fun c51 => ?_)
          · skip
            refine pm_iconst (v := 0) hC dX4_roughQuotient_45 ?_
            refine pm_istore (lv' := [(8, (0, 0)), (0, (3, 87)), (1, (3, 87)), (2, (0, a1)), (3, (2, x2)), (5, (0, x3)), (6, (0, x5)), (7, (0, x7))]) hC dX4_roughQuotient_46 (by decide) rfl ?_
            refine pm_iload hC 0 dX4_roughQuotient_48 rfl ?_
            refine pm_if_eq (tgt := 70) hC ⟨by decide, by decide⟩ dX4_roughQuotient_50 (by decide) (fun c52 => ?_) (fun c52 => ?_)
            · skip
              refine pm_dload_n hC 4 dX4_roughQuotient_70 rfl ?_
              refine pm_aload_n hC 2 (by decide) dX4_roughQuotient_71 rfl ?_
              refine pm_aload_n hC 1 (by decide) dX4_roughQuotient_72 rfl ?_
              refine pm_iload hC 6 dX4_roughQuotient_73 rfl ?_
              refine pm_callS (as := [(3, 87), (3, 87), (0, x5)]) (st := [(2, x2)]) hC (uD_X4_factorOf_87_87 x5 ⟨by exact ow_79f_57 b6, by exact ow_79f_75 h0 c20⟩) lm_X4_47 ls_X4_factorOf (by decide) (by decide) rfl rfl (Nat.le_of_ble_eq_true rfl) ⟨Nat.le_refl _, Or.inl rfl⟩ dX4_roughQuotient_75 ⟨rfl, hV0⟩ (fun r53 V54 hp55 => ?_)
              obtain ⟨y56, rfl, b57, rfl⟩ := hp55
              change pm_J X 78 [(8, (0, 0)), (0, (3, 87)), (1, (3, 87)), (2, (0, a1)), (3, (2, x2)), (5, (0, x3)), (6, (0, x5)), (7, (0, x7))] [(1, y56), (2, x2)] 118 V0
              refine pm_l2d hC dX4_roughQuotient_78 (fun r59 => ?_)
              refine pm_ddiv hC dX4_roughQuotient_79 (fun r60 => ?_)
              refine pm_dstore_n (lv' := [(3, (2, r60)), (8, (0, 0)), (0, (3, 87)), (1, (3, 87)), (2, (0, a1)), (5, (0, x3)), (6, (0, x5)), (7, (0, x7))]) hC dX4_roughQuotient_80 (by decide) rfl ?_
              obtain ⟨x61, ei62⟩ : ∃ y : Int, x5 + 1 = y := ⟨_, rfl⟩
              refine pm_iinc (y := x61) (lv' := [(6, (0, x61)), (3, (2, r60)), (8, (0, 0)), (0, (3, 87)), (1, (3, 87)), (2, (0, a1)), (5, (0, x3)), (7, (0, x7))]) hC 6 dX4_roughQuotient_81 (by decide) rfl ei62 rfl ?_
              obtain ⟨x63, ei64⟩ : ∃ y : Int, x7 + 1 = y := ⟨_, rfl⟩
              refine pm_iinc (y := x63) (lv' := [(7, (0, x63)), (6, (0, x61)), (3, (2, r60)), (8, (0, 0)), (0, (3, 87)), (1, (3, 87)), (2, (0, a1)), (5, (0, x3))]) hC 7 dX4_roughQuotient_84 (by decide) rfl ei64 rfl ?_
              refine pm_goto (tgt := 11) hC dX4_roughQuotient_87 (by decide) ?_
              refine pm_lvsub [4, 5, 6, 2, 7, 1, 0] (lv' := [(0, (3, 87)), (1, (3, 87)), (2, (0, a1)), (3, (2, r60)), (5, (0, x3)), (6, (0, x61)), (7, (0, x63))]) rfl ?_
              exact ih18 _ (by exact ow_79f_76 h0 b9 hm16 c20 c34 ei64) r60 x3 x61 x63 ⟨by exact ow_79f_57 b4, by exact ow_79f_77 h0 c34⟩ ⟨by exact ow_79f_60 b6 ei62, by exact ow_79f_78 h0 c20 ei62⟩ ⟨by exact ow_79f_64 b8 ei64, by exact ow_79f_79 h0 b9 c20 c34 ei64⟩ (by exact ow_79f_72 b9 ei62 ei64) (by exact ow_79f_80 c34) (by exact ow_79f_73 c20 ei62) rfl
            · skip
              exfalso; exact ow_79f_74 c52
          · skip
            refine pm_iconst (v := 1) hC dX4_roughQuotient_41 ?_
            refine pm_goto (tgt := 46) hC dX4_roughQuotient_42 (by decide) ?_
            refine pm_istore (lv' := [(8, (0, 1)), (0, (3, 87)), (1, (3, 87)), (2, (0, a1)), (3, (2, x2)), (5, (0, x3)), (6, (0, x5)), (7, (0, x7))]) hC dX4_roughQuotient_46 (by decide) rfl ?_
            refine pm_iload hC 0 dX4_roughQuotient_48 rfl ?_
            refine pm_if_eq (tgt := 70) hC ⟨by decide, by decide⟩ dX4_roughQuotient_50 (by decide) (fun c65 => ?_) (fun c65 => ?_)
            · skip
              exfalso; exact ow_79f_56 c65
            · skip
              refine pm_dload_n hC 4 dX4_roughQuotient_53 rfl ?_
              refine pm_aload_n hC 1 (by decide) dX4_roughQuotient_54 rfl ?_
              refine pm_aload_n hC 2 (by decide) dX4_roughQuotient_55 rfl ?_
              refine pm_iload hC 5 dX4_roughQuotient_56 rfl ?_
              refine pm_callS (as := [(3, 87), (3, 87), (0, x3)]) (st := [(2, x2)]) hC (uD_X4_factorOf_87_87 x3 ⟨by exact ow_79f_57 b4, by exact ow_79f_75 h0 c34⟩) lm_X4_47 ls_X4_factorOf (by decide) (by decide) rfl rfl (Nat.le_of_ble_eq_true rfl) ⟨Nat.le_refl _, Or.inl rfl⟩ dX4_roughQuotient_58 ⟨rfl, hV0⟩ (fun r66 V67 hp68 => ?_)
              obtain ⟨y69, rfl, b70, rfl⟩ := hp68
              change pm_J X 61 [(8, (0, 1)), (0, (3, 87)), (1, (3, 87)), (2, (0, a1)), (3, (2, x2)), (5, (0, x3)), (6, (0, x5)), (7, (0, x7))] [(1, y69), (2, x2)] 118 V0
              refine pm_l2d hC dX4_roughQuotient_61 (fun r72 => ?_)
              refine pm_dmul hC dX4_roughQuotient_62 (fun r73 => ?_)
              refine pm_dstore_n (lv' := [(3, (2, r73)), (8, (0, 1)), (0, (3, 87)), (1, (3, 87)), (2, (0, a1)), (5, (0, x3)), (6, (0, x5)), (7, (0, x7))]) hC dX4_roughQuotient_63 (by decide) rfl ?_
              obtain ⟨x74, ei75⟩ : ∃ y : Int, x3 + 1 = y := ⟨_, rfl⟩
              refine pm_iinc (y := x74) (lv' := [(5, (0, x74)), (3, (2, r73)), (8, (0, 1)), (0, (3, 87)), (1, (3, 87)), (2, (0, a1)), (6, (0, x5)), (7, (0, x7))]) hC 5 dX4_roughQuotient_64 (by decide) rfl ei75 rfl ?_
              refine pm_goto (tgt := 84) hC dX4_roughQuotient_67 (by decide) ?_
              obtain ⟨x76, ei77⟩ : ∃ y : Int, x7 + 1 = y := ⟨_, rfl⟩
              refine pm_iinc (y := x76) (lv' := [(7, (0, x76)), (5, (0, x74)), (3, (2, r73)), (8, (0, 1)), (0, (3, 87)), (1, (3, 87)), (2, (0, a1)), (6, (0, x5))]) hC 7 dX4_roughQuotient_84 (by decide) rfl ei77 rfl ?_
              refine pm_goto (tgt := 11) hC dX4_roughQuotient_87 (by decide) ?_
              refine pm_lvsub [4, 5, 6, 2, 1, 7, 0] (lv' := [(0, (3, 87)), (1, (3, 87)), (2, (0, a1)), (3, (2, r73)), (5, (0, x74)), (6, (0, x5)), (7, (0, x76))]) rfl ?_
              exact ih18 _ (by exact ow_79f_76 h0 b9 hm16 c20 c34 ei77) r73 x74 x5 x76 ⟨by exact ow_79f_60 b4 ei75, by exact ow_79f_78 h0 c34 ei75⟩ ⟨by exact ow_79f_57 b6, by exact ow_79f_77 h0 c20⟩ ⟨by exact ow_79f_64 b8 ei77, by exact ow_79f_79 h0 b9 c20 c34 ei77⟩ (by exact ow_79f_66 b9 ei75 ei77) (by exact ow_79f_73 c34 ei75) (by exact ow_79f_80 c20) rfl
  refine pm_lvsub [4, 5, 6, 3, 2, 1, 0] (lv' := [(0, (3, 87)), (1, (3, 87)), (2, (0, a1)), (3, (2, r1)), (5, (0, 0)), (6, (0, 0)), (7, (0, 0))]) rfl ?_
  exact L15 _ r1 0 0 0 ⟨by decide, by decide⟩ ⟨by decide, by decide⟩ ⟨by decide, by decide⟩ (by exact ow_79f_81) (by exact ow_79f_82 h0) (by exact ow_79f_82 h0) rfl
set_option maxHeartbeats 4000000 in
set_option maxRecDepth 100000 in
theorem uD_X4_compareExactly_78_87_87 (a1 : Int) (h0 : 0 ≤ a1 ∧ a1 ≤ 60) : pm_K 2 yX4_compareExactly cX4_compareExactly 5 (some .int) (fun av V => av = [(3, 78), (3, 87), (3, 87), (0, a1)] ∧ pm_ok 0 90 V) (fun _ V r V' => ∃ y, r = some (0, y) ∧ ((-1) ≤ y ∧ y ≤ 1) ∧ pm_ok 0 90 V' ∧ pm_ff [80, 82] [(79, 1), (81, 1)] V V') := by
  refine pm_MT.of (by decide) ⟨Nat.le_refl _, by decide⟩ (fun av V h => by rw [h.1]; exact (by decide : pm_words [(3, 0), (3, 0), (3, 0), (0, 0)] ≤ 5)) ?_
  rintro X av V0 hC - hR ⟨rfl, hV0⟩
  change pm_J X 0 [(0, (3, 78)), (1, (3, 87)), (2, (3, 87)), (3, (0, a1))] [] 118 V0
  refine pm_aload_n hC 0 (by decide) dX4_compareExactly_0 rfl ?_
  have e1 : V0 78 0 = 79 := hV0.one 78 0 (by decide) (by decide) rfl
  refine pm_getf (v := 79) hC 78 fl_X4_10 rfl rfl (by decide) rfl e1 dX4_compareExactly_1 ?_
  refine pm_callV (ci := 1) (as := []) (st := []) hC 79 uD_X1_begin_79 lm_X4_62 li_X1_begin (by decide) (by decide) rfl rfl rfl (by decide) rfl rfl (Nat.le_of_ble_eq_true rfl) ⟨Nat.le_refl _, Or.inl rfl⟩ dX4_compareExactly_4 ⟨rfl, hV0⟩ (fun r2 V3 hp4 => ?_)
  obtain ⟨rfl, hV5, hF6⟩ := hp4
  change pm_J X 7 [(0, (3, 78)), (1, (3, 87)), (2, (3, 87)), (3, (0, a1))] [] 118 V3
  have hF8 := pm_ff.tr (pm_ff.rf (cs := [80, 82]) (fs := [(79, 1), (81, 1)]) (V := V0)) hF6 (by decide) (by decide)
  have e9 : V3 78 0 = 79 := by rw [hF6 78 0 (by decide) (by decide)]; exact e1
  refine pm_aload_n hC 0 (by decide) dX4_compareExactly_7 rfl ?_
  have e10 : V3 78 1 = 81 := hV5.one 78 1 (by decide) (by decide) rfl
  refine pm_getf (v := 81) hC 78 fl_X4_16 rfl rfl (by decide) rfl e10 dX4_compareExactly_8 ?_
  refine pm_callV (ci := 1) (as := []) (st := []) hC 81 uD_X1_begin_81 lm_X4_62 li_X1_begin (by decide) (by decide) rfl rfl rfl (by decide) rfl rfl (Nat.le_of_ble_eq_true rfl) ⟨Nat.le_refl _, Or.inl rfl⟩ dX4_compareExactly_11 ⟨rfl, hV5⟩ (fun r11 V12 hp13 => ?_)
  obtain ⟨rfl, hV14, hF15⟩ := hp13
  change pm_J X 14 [(0, (3, 78)), (1, (3, 87)), (2, (3, 87)), (3, (0, a1))] [] 118 V12
  have hF17 := pm_ff.tr hF8 hF15 (by decide) (by decide)
  have e18 : V12 78 0 = 79 := by rw [hF15 78 0 (by decide) (by decide)]; exact e9
  have e19 : V12 78 1 = 81 := by rw [hF15 78 1 (by decide) (by decide)]; exact e10
  refine pm_iconst (v := 0) hC dX4_compareExactly_14 ?_
  refine pm_istore (lv' := [(4, (0, 0)), (0, (3, 78)), (1, (3, 87)), (2, (3, 87)), (3, (0, a1))]) hC dX4_compareExactly_15 (by decide) rfl ?_
  have L30 : ∀ (N32 : Nat) (x20 : Int) (V22 : pm_M), (0 ≤ x20 ∧ x20 ≤ 60) → pm_ok 0 90 V22 → pm_ff [80, 82] [(79, 1), (81, 1)] V0 V22 → V22 78 0 = 79 → V22 78 1 = 81 → (Int.toNat (60 - x20)) = N32 → pm_J X 17 [(0, (3, 78)), (1, (3, 87)), (2, (3, 87)), (3, (0, a1)), (4, (0, x20))] [] 118 V22 := by
    intro N32
    induction N32 using Nat.strongRecOn with
    | _ N32 ih33 =>
    intro x20 V22 b21 hV23 hF24 e25 e26 hm31
    refine pm_iload hC 4 dX4_compareExactly_17 rfl ?_
    refine pm_iload_n hC 3 dX4_compareExactly_19 rfl ?_
    refine pm_icmp_ge (tgt := 119) hC ⟨by exact ow_79f_0 b21, by exact ow_79f_1 b21⟩ ⟨by exact ow_79f_0 h0, by exact ow_79f_1 h0⟩ dX4_compareExactly_20 (by decide) (fun c34 => ?_) (fun c34 => ?_)
    · skip
      refine pm_aload_n hC 0 (by decide) dX4_compareExactly_119 rfl ?_
      refine pm_getf (v := 79) hC 78 fl_X4_10 rfl rfl (by decide) rfl e25 dX4_compareExactly_120 ?_
      refine pm_aload_n hC 0 (by decide) dX4_compareExactly_123 rfl ?_
      refine pm_getf (v := 81) hC 78 fl_X4_16 rfl rfl (by decide) rfl e26 dX4_compareExactly_124 ?_
      refine pm_callV (ci := 1) (as := [(3, 81)]) (st := []) hC 79 uD_X1_compareWith_79_81 lm_X4_69 li_X1_compareWith (by decide) (by decide) rfl rfl rfl (by decide) rfl rfl (Nat.le_of_ble_eq_true rfl) ⟨Nat.le_refl _, Or.inl rfl⟩ dX4_compareExactly_127 ⟨rfl, hV23⟩ (fun r35 V36 hp37 => ?_)
      obtain ⟨y38, rfl, b39, rfl⟩ := hp37
      change pm_J X 130 [(0, (3, 78)), (1, (3, 87)), (2, (3, 87)), (3, (0, a1)), (4, (0, x20))] [(0, y38)] 118 V22
      exact pm_iret hC hR pm_nar0 ⟨y38, rfl, ⟨by exact ow_79f_83 b39, by exact ow_79f_84 b39⟩, hV23, hF24⟩ dX4_compareExactly_130
    · skip
      refine pm_aload_n hC 1 (by decide) dX4_compareExactly_23 rfl ?_
      have e41 : V22 87 1 = 88 := hV23.one 87 1 (by decide) (by decide) rfl
      refine pm_getf (v := 88) hC 87 fl_X4_51 rfl rfl (by decide) rfl e41 dX4_compareExactly_24 ?_
      refine pm_iload hC 4 dX4_compareExactly_27 rfl ?_
      obtain ⟨y42, e43⟩ : ∃ y, V22 88 (x20 : Int).toNat = y := ⟨_, rfl⟩
      have b44 := hV23.get 88 (x20 : Int).toNat (lo := (-9223372036854775808)) (hi := 9223372036854775807) (by decide) (show _ < 60 by exact ow_79f_4 h0 c34) rfl
      rw [e43] at b44
      refine pm_laload (len := 60) (v := y42) hC 88 rfl rfl (by decide) ⟨by exact ow_79f_5 b21, by exact ow_79f_6 h0 c34⟩ (by decide) e43 dX4_compareExactly_29 ?_
      refine pm_aload_n hC 2 (by decide) dX4_compareExactly_30 rfl ?_
      have e45 : V22 87 2 = 89 := hV23.one 87 2 (by decide) (by decide) rfl
      refine pm_getf (v := 89) hC 87 fl_X4_55 rfl rfl (by decide) rfl e45 dX4_compareExactly_31 ?_
      refine pm_iload hC 4 dX4_compareExactly_34 rfl ?_
      obtain ⟨y46, e47⟩ : ∃ y, V22 89 (x20 : Int).toNat = y := ⟨_, rfl⟩
      have b48 := hV23.get 89 (x20 : Int).toNat (lo := (-9223372036854775808)) (hi := 9223372036854775807) (by decide) (show _ < 60 by exact ow_79f_4 h0 c34) rfl
      rw [e47] at b48
      refine pm_laload (len := 60) (v := y46) hC 89 rfl rfl (by decide) ⟨by exact ow_79f_5 b21, by exact ow_79f_6 h0 c34⟩ (by decide) e47 dX4_compareExactly_36 ?_
      refine pm_lmul hC dX4_compareExactly_37 ?_
      refine pm_wrL hC (fun y49 hw51 b50 => ?_)
      have b50 := And.intro b50.1 b50.2
      refine pm_aload_n hC 2 (by decide) dX4_compareExactly_38 rfl ?_
      refine pm_getf (v := 88) hC 87 fl_X4_51 rfl rfl (by decide) rfl e41 dX4_compareExactly_39 ?_
      refine pm_iload hC 4 dX4_compareExactly_42 rfl ?_
      refine pm_laload (len := 60) (v := y42) hC 88 rfl rfl (by decide) ⟨by exact ow_79f_5 b21, by exact ow_79f_6 h0 c34⟩ (by decide) e43 dX4_compareExactly_44 ?_
      refine pm_aload_n hC 1 (by decide) dX4_compareExactly_45 rfl ?_
      refine pm_getf (v := 89) hC 87 fl_X4_55 rfl rfl (by decide) rfl e45 dX4_compareExactly_46 ?_
      refine pm_iload hC 4 dX4_compareExactly_49 rfl ?_
      refine pm_laload (len := 60) (v := y46) hC 89 rfl rfl (by decide) ⟨by exact ow_79f_5 b21, by exact ow_79f_6 h0 c34⟩ (by decide) e47 dX4_compareExactly_51 ?_
      refine pm_lmul hC dX4_compareExactly_52 ?_
      refine pm_wrL hC (fun y52 hw54 b53 => ?_)
      have b53 := And.intro b53.1 b53.2
      refine pm_lcmp hC ⟨by exact ow_79f_17 b50, by exact ow_79f_18 b50⟩ ⟨by exact ow_79f_17 b53, by exact ow_79f_18 b53⟩ dX4_compareExactly_53 (fun y55 b56 => ?_)
      refine pm_if_eq (tgt := 113) hC ⟨by exact ow_79f_85 b56, by exact ow_79f_86 b56⟩ dX4_compareExactly_54 (by decide) (fun c57 => ?_) (fun c57 => ?_)
      · skip
        obtain ⟨x58, ei59⟩ : ∃ y : Int, x20 + 1 = y := ⟨_, rfl⟩
        refine pm_iinc (y := x58) (lv' := [(4, (0, x58)), (0, (3, 78)), (1, (3, 87)), (2, (3, 87)), (3, (0, a1))]) hC 4 dX4_compareExactly_113 (by decide) rfl ei59 rfl ?_
        refine pm_goto (tgt := 17) hC dX4_compareExactly_116 (by decide) ?_
        refine pm_lvsub [1, 2, 3, 4, 0] (lv' := [(0, (3, 78)), (1, (3, 87)), (2, (3, 87)), (3, (0, a1)), (4, (0, x58))]) rfl ?_
        exact ih33 _ (by exact ow_79f_87 h0 hm31 c34 ei59) x58 V22 ⟨by exact ow_79f_20 b21 ei59, by exact ow_79f_21 h0 c34 ei59⟩ hV23 hF24 e25 e26 rfl
      · skip
        refine pm_aload_n hC 0 (by decide) dX4_compareExactly_57 rfl ?_
        refine pm_getf (v := 79) hC 78 fl_X4_10 rfl rfl (by decide) rfl e25 dX4_compareExactly_58 ?_
        refine pm_aload_n hC 1 (by decide) dX4_compareExactly_61 rfl ?_
        refine pm_getf (v := 88) hC 87 fl_X4_51 rfl rfl (by decide) rfl e41 dX4_compareExactly_62 ?_
        refine pm_iload hC 4 dX4_compareExactly_65 rfl ?_
        refine pm_laload (len := 60) (v := y42) hC 88 rfl rfl (by decide) ⟨by exact ow_79f_5 b21, by exact ow_79f_6 h0 c34⟩ (by decide) e43 dX4_compareExactly_67 ?_
        refine pm_callV (ci := 1) (as := [(1, y42)]) (st := []) hC 79 (uD_X1_times_79 y42 ⟨by exact ow_79f_17 b44, by exact ow_79f_18 b44⟩) lm_X4_65 li_X1_times (by decide) (by decide) rfl rfl rfl (by decide) rfl rfl (Nat.le_of_ble_eq_true rfl) ⟨Nat.le_refl _, Or.inl rfl⟩ dX4_compareExactly_68 ⟨rfl, hV23⟩ (fun r60 V61 hp62 => ?_)
        obtain ⟨rfl, hV63, hF64⟩ := hp62
        change pm_J X 71 [(0, (3, 78)), (1, (3, 87)), (2, (3, 87)), (3, (0, a1)), (4, (0, x20))] [] 118 V61
        have hF66 := pm_ff.tr hF24 hF64 (by decide) (by decide)
        have e67 : V61 78 0 = 79 := by rw [hF64 78 0 (by decide) (by decide)]; exact e25
        have e68 : V61 78 1 = 81 := by rw [hF64 78 1 (by decide) (by decide)]; exact e26
        have e69 : V61 87 1 = 88 := by rw [hF64 87 1 (by decide) (by decide)]; exact e41
        have e70 : V61 87 2 = 89 := by rw [hF64 87 2 (by decide) (by decide)]; exact e45
        refine pm_aload_n hC 0 (by decide) dX4_compareExactly_71 rfl ?_
        refine pm_getf (v := 79) hC 78 fl_X4_10 rfl rfl (by decide) rfl e67 dX4_compareExactly_72 ?_
        refine pm_aload_n hC 2 (by decide) dX4_compareExactly_75 rfl ?_
        refine pm_getf (v := 89) hC 87 fl_X4_55 rfl rfl (by decide) rfl e70 dX4_compareExactly_76 ?_
        refine pm_iload hC 4 dX4_compareExactly_79 rfl ?_
        obtain ⟨y71, e72⟩ : ∃ y, V61 89 (x20 : Int).toNat = y := ⟨_, rfl⟩
        have b73 := hV63.get 89 (x20 : Int).toNat (lo := (-9223372036854775808)) (hi := 9223372036854775807) (by decide) (show _ < 60 by exact ow_79f_4 h0 c34) rfl
        rw [e72] at b73
        refine pm_laload (len := 60) (v := y71) hC 89 rfl rfl (by decide) ⟨by exact ow_79f_5 b21, by exact ow_79f_6 h0 c34⟩ (by decide) e72 dX4_compareExactly_81 ?_
        refine pm_callV (ci := 1) (as := [(1, y71)]) (st := []) hC 79 (uD_X1_times_79 y71 ⟨by exact ow_79f_17 b73, by exact ow_79f_18 b73⟩) lm_X4_65 li_X1_times (by decide) (by decide) rfl rfl rfl (by decide) rfl rfl (Nat.le_of_ble_eq_true rfl) ⟨Nat.le_refl _, Or.inl rfl⟩ dX4_compareExactly_82 ⟨rfl, hV63⟩ (fun r74 V75 hp76 => ?_)
        obtain ⟨rfl, hV77, hF78⟩ := hp76
        change pm_J X 85 [(0, (3, 78)), (1, (3, 87)), (2, (3, 87)), (3, (0, a1)), (4, (0, x20))] [] 118 V75
        have hF80 := pm_ff.tr hF66 hF78 (by decide) (by decide)
        have e81 : V75 78 0 = 79 := by rw [hF78 78 0 (by decide) (by decide)]; exact e67
        have e82 : V75 78 1 = 81 := by rw [hF78 78 1 (by decide) (by decide)]; exact e68
        have e83 : V75 87 1 = 88 := by rw [hF78 87 1 (by decide) (by decide)]; exact e69
        have e84 : V75 87 2 = 89 := by rw [hF78 87 2 (by decide) (by decide)]; exact e70
        refine pm_aload_n hC 0 (by decide) dX4_compareExactly_85 rfl ?_
        refine pm_getf (v := 81) hC 78 fl_X4_16 rfl rfl (by decide) rfl e82 dX4_compareExactly_86 ?_
        refine pm_aload_n hC 2 (by decide) dX4_compareExactly_89 rfl ?_
        refine pm_getf (v := 88) hC 87 fl_X4_51 rfl rfl (by decide) rfl e83 dX4_compareExactly_90 ?_
        refine pm_iload hC 4 dX4_compareExactly_93 rfl ?_
        obtain ⟨y85, e86⟩ : ∃ y, V75 88 (x20 : Int).toNat = y := ⟨_, rfl⟩
        have b87 := hV77.get 88 (x20 : Int).toNat (lo := (-9223372036854775808)) (hi := 9223372036854775807) (by decide) (show _ < 60 by exact ow_79f_4 h0 c34) rfl
        rw [e86] at b87
        refine pm_laload (len := 60) (v := y85) hC 88 rfl rfl (by decide) ⟨by exact ow_79f_5 b21, by exact ow_79f_6 h0 c34⟩ (by decide) e86 dX4_compareExactly_95 ?_
        refine pm_callV (ci := 1) (as := [(1, y85)]) (st := []) hC 81 (uD_X1_times_81 y85 ⟨by exact ow_79f_17 b87, by exact ow_79f_18 b87⟩) lm_X4_65 li_X1_times (by decide) (by decide) rfl rfl rfl (by decide) rfl rfl (Nat.le_of_ble_eq_true rfl) ⟨Nat.le_refl _, Or.inl rfl⟩ dX4_compareExactly_96 ⟨rfl, hV77⟩ (fun r88 V89 hp90 => ?_)
        obtain ⟨rfl, hV91, hF92⟩ := hp90
        change pm_J X 99 [(0, (3, 78)), (1, (3, 87)), (2, (3, 87)), (3, (0, a1)), (4, (0, x20))] [] 118 V89
        have hF94 := pm_ff.tr hF80 hF92 (by decide) (by decide)
        have e95 : V89 78 0 = 79 := by rw [hF92 78 0 (by decide) (by decide)]; exact e81
        have e96 : V89 78 1 = 81 := by rw [hF92 78 1 (by decide) (by decide)]; exact e82
        have e97 : V89 87 1 = 88 := by rw [hF92 87 1 (by decide) (by decide)]; exact e83
        have e98 : V89 87 2 = 89 := by rw [hF92 87 2 (by decide) (by decide)]; exact e84
        refine pm_aload_n hC 0 (by decide) dX4_compareExactly_99 rfl ?_
        refine pm_getf (v := 81) hC 78 fl_X4_16 rfl rfl (by decide) rfl e96 dX4_compareExactly_100 ?_
        refine pm_aload_n hC 1 (by decide) dX4_compareExactly_103 rfl ?_
        refine pm_getf (v := 89) hC 87 fl_X4_55 rfl rfl (by decide) rfl e98 dX4_compareExactly_104 ?_
        refine pm_iload hC 4 dX4_compareExactly_107 rfl ?_
        obtain ⟨y99, e100⟩ : ∃ y, V89 89 (x20 : Int).toNat = y := ⟨_, rfl⟩
        have b101 := hV91.get 89 (x20 : Int).toNat (lo := (-9223372036854775808)) (hi := 9223372036854775807) (by decide) (show _ < 60 by exact ow_79f_4 h0 c34) rfl
        rw [e100] at b101
        refine pm_laload (len := 60) (v := y99) hC 89 rfl rfl (by decide) ⟨by exact ow_79f_5 b21, by exact ow_79f_6 h0 c34⟩ (by decide) e100 dX4_compareExactly_109 ?_
        refine pm_callV (ci := 1) (as := [(1, y99)]) (st := []) hC 81 (uD_X1_times_81 y99 ⟨by exact ow_79f_17 b101, by exact ow_79f_18 b101⟩) lm_X4_65 li_X1_times (by decide) (by decide) rfl rfl rfl (by decide) rfl rfl (Nat.le_of_ble_eq_true rfl) ⟨Nat.le_refl _, Or.inl rfl⟩ dX4_compareExactly_110 ⟨rfl, hV91⟩ (fun r102 V103 hp104 => ?_)
        obtain ⟨rfl, hV105, hF106⟩ := hp104
        change pm_J X 113 [(0, (3, 78)), (1, (3, 87)), (2, (3, 87)), (3, (0, a1)), (4, (0, x20))] [] 118 V103
        have hF108 := pm_ff.tr hF94 hF106 (by decide) (by decide)
        have e109 : V103 78 0 = 79 := by rw [hF106 78 0 (by decide) (by decide)]; exact e95
        have e110 : V103 78 1 = 81 := by rw [hF106 78 1 (by decide) (by decide)]; exact e96
        have e111 : V103 87 1 = 88 := by rw [hF106 87 1 (by decide) (by decide)]; exact e97
        have e112 : V103 87 2 = 89 := by rw [hF106 87 2 (by decide) (by decide)]; exact e98
        obtain ⟨x113, ei114⟩ : ∃ y : Int, x20 + 1 = y := ⟨_, rfl⟩
        refine pm_iinc (y := x113) (lv' := [(4, (0, x113)), (0, (3, 78)), (1, (3, 87)), (2, (3, 87)), (3, (0, a1))]) hC 4 dX4_compareExactly_113 (by decide) rfl ei114 rfl ?_
        refine pm_goto (tgt := 17) hC dX4_compareExactly_116 (by decide) ?_
        refine pm_lvsub [1, 2, 3, 4, 0] (lv' := [(0, (3, 78)), (1, (3, 87)), (2, (3, 87)), (3, (0, a1)), (4, (0, x113))]) rfl ?_
        exact ih33 _ (by exact ow_79f_87 h0 hm31 c34 ei114) x113 V103 ⟨by exact ow_79f_20 b21 ei114, by exact ow_79f_21 h0 c34 ei114⟩ hV105 hF108 e109 e110 rfl
  refine pm_lvsub [1, 2, 3, 4, 0] (lv' := [(0, (3, 78)), (1, (3, 87)), (2, (3, 87)), (3, (0, a1)), (4, (0, 0))]) rfl ?_
  exact L30 _ 0 V12 ⟨by decide, by decide⟩ hV14 hF17 e18 e19 rfl
set_option maxHeartbeats 4000000 in
set_option maxRecDepth 100000 in
theorem uD_X4_compareProducts_78_87_87  : pm_K 3 yX4_compareProducts cX4_compareProducts 8 (some .int) (fun av V => av = [(3, 78), (3, 87), (3, 87)] ∧ pm_ok 0 90 V) (fun _ V r V' => ∃ y, r = some (0, y) ∧ ((-1) ≤ y ∧ y ≤ 1) ∧ pm_ok 0 90 V' ∧ pm_ff [80, 82] [(79, 1), (81, 1)] V V') := by
  refine pm_MT.of (by decide) ⟨Nat.le_refl _, by decide⟩ (fun av V h => by rw [h.1]; exact (by decide : pm_words [(3, 0), (3, 0), (3, 0)] ≤ 8)) ?_
  rintro X av V0 hC - hR ⟨rfl, hV0⟩
  change pm_J X 0 [(0, (3, 78)), (1, (3, 87)), (2, (3, 87))] [] 118 V0
  refine pm_aload_n hC 1 (by decide) dX4_compareProducts_0 rfl ?_
  refine pm_callV (ci := 0) (as := []) (st := []) hC 87 uD_X0_isNever_87 lm_X4_19 li_X0_isNever (by decide) (by decide) rfl rfl rfl (by decide) rfl rfl (Nat.le_of_ble_eq_true rfl) ⟨Nat.le_refl _, Or.inl rfl⟩ dX4_compareProducts_1 ⟨rfl, hV0⟩ (fun r1 V2 hp3 => ?_)
  obtain ⟨y4, rfl, b5, rfl⟩ := hp3
  change pm_J X 4 [(0, (3, 78)), (1, (3, 87)), (2, (3, 87))] [(0, y4)] 118 V0
  refine pm_istore_n (lv' := [(3, (0, y4)), (0, (3, 78)), (1, (3, 87)), (2, (3, 87))]) hC dX4_compareProducts_4 (by decide) rfl ?_
  refine pm_aload_n hC 3 (by decide) dX4_compareProducts_5 rfl ?_
  refine pm_callV (ci := 0) (as := []) (st := []) hC 87 uD_X0_isNever_87 lm_X4_19 li_X0_isNever (by decide) (by decide) rfl rfl rfl (by decide) rfl rfl (Nat.le_of_ble_eq_true rfl) ⟨Nat.le_refl _, Or.inl rfl⟩ dX4_compareProducts_6 ⟨rfl, hV0⟩ (fun r7 V8 hp9 => ?_)
  obtain ⟨y10, rfl, b11, rfl⟩ := hp9
  change pm_J X 9 [(3, (0, y4)), (0, (3, 78)), (1, (3, 87)), (2, (3, 87))] [(0, y10)] 118 V0
  refine pm_istore (lv' := [(4, (0, y10)), (3, (0, y4)), (0, (3, 78)), (1, (3, 87)), (2, (3, 87))]) hC dX4_compareProducts_9 (by decide) rfl ?_
  refine pm_iload_n hC 1 dX4_compareProducts_11 rfl ?_
  refine pm_if_ne (tgt := 20) hC ⟨by exact ow_79f_88 b5, by exact ow_79f_89 b5⟩ dX4_compareProducts_12 (by decide) (fun c13 => ?_) (fun c13 => ?_)
  · skip
    refine pm_iload hC 0 dX4_compareProducts_20 rfl ?_
    refine pm_if_eq (tgt := 29) hC ⟨by exact ow_79f_88 b11, by exact ow_79f_89 b11⟩ dX4_compareProducts_22 (by decide) (fun c14 => ?_) (fun c14 => ?_)
    · skip
      refine pm_iconst (v := 0) hC dX4_compareProducts_29 ?_
      refine pm_iload_n hC 1 dX4_compareProducts_30 rfl ?_
      refine pm_if_eq (tgt := 38) hC ⟨by exact ow_79f_88 b5, by exact ow_79f_89 b5⟩ dX4_compareProducts_31 (by decide) (fun c15 => ?_) (fun c15 => ?_)
      · skip
        exfalso; exact ow_79f_90 b5 c13 c15
      · skip
        refine pm_iconst (v := 1) hC dX4_compareProducts_34 ?_
        refine pm_goto (tgt := 39) hC dX4_compareProducts_35 (by decide) ?_
        refine pm_isub hC dX4_compareProducts_39 ?_
        change pm_J X 40 [(4, (0, y10)), (3, (0, y4)), (0, (3, 78)), (1, (3, 87)), (2, (3, 87))] [(0, (-1))] 118 V0
        exact pm_iret hC hR pm_nar0 ⟨(-1), rfl, ⟨by exact ow_79f_91, by exact ow_79f_92⟩, hV0, (pm_ff.rf (cs := [80, 82]) (fs := [(79, 1), (81, 1)]) (V := V0))⟩ dX4_compareProducts_40
    · skip
      refine pm_iconst (v := 1) hC dX4_compareProducts_25 ?_
      refine pm_goto (tgt := 30) hC dX4_compareProducts_26 (by decide) ?_
      refine pm_iload_n hC 1 dX4_compareProducts_30 rfl ?_
      refine pm_if_eq (tgt := 38) hC ⟨by exact ow_79f_88 b5, by exact ow_79f_89 b5⟩ dX4_compareProducts_31 (by decide) (fun c16 => ?_) (fun c16 => ?_)
      · skip
        exfalso; exact ow_79f_90 b5 c13 c16
      · skip
        refine pm_iconst (v := 1) hC dX4_compareProducts_34 ?_
        refine pm_goto (tgt := 39) hC dX4_compareProducts_35 (by decide) ?_
        refine pm_isub hC dX4_compareProducts_39 ?_
        change pm_J X 40 [(4, (0, y10)), (3, (0, y4)), (0, (3, 78)), (1, (3, 87)), (2, (3, 87))] [(0, 0)] 118 V0
        exact pm_iret hC hR pm_nar0 ⟨0, rfl, ⟨by exact ow_79f_93, by exact ow_79f_28⟩, hV0, (pm_ff.rf (cs := [80, 82]) (fs := [(79, 1), (81, 1)]) (V := V0))⟩ dX4_compareProducts_40
  · skip
    refine pm_iload hC 0 dX4_compareProducts_15 rfl ?_
    refine pm_if_eq (tgt := 41) hC ⟨by exact ow_79f_88 b11, by exact ow_79f_89 b11⟩ dX4_compareProducts_17 (by decide) (fun c17 => ?_) (fun c17 => ?_)
    · skip
      refine pm_aload_n hC 3 (by decide) dX4_compareProducts_41 rfl ?_
      obtain ⟨y18, e19⟩ : ∃ y, V0 87 0 = y := ⟨_, rfl⟩
      have b20 := hV0.get 87 0 (lo := 0) (hi := 60) (by decide) (by decide) rfl
      rw [e19] at b20
      refine pm_getf (v := y18) hC 87 fl_X4_25 rfl rfl (by decide) rfl e19 dX4_compareProducts_42 ?_
      refine pm_aload_n hC 4 (by decide) dX4_compareProducts_45 rfl ?_
      refine pm_getf (v := y18) hC 87 fl_X4_25 rfl rfl (by decide) rfl e19 dX4_compareProducts_46 ?_
      refine pm_mmin hC 4159 4160 1018 4161 ⟨by exact ow_79f_0 b20, by exact ow_79f_1 b20⟩ ⟨by exact ow_79f_0 b20, by exact ow_79f_1 b20⟩ (by decide) wL_X4_29 wS_mmin wI_math wC_mmin (Nat.le_of_ble_eq_true rfl) dX4_compareProducts_49 (fun y21 b22 => ?_)
      have he23 : pm_mn y18 y18 = y21 := pm_mn_of b22
      replace b22 : 0 ≤ y21 ∧ y21 ≤ 60 ∧ y21 ≤ y18 ∧ y21 ≤ y18 := ⟨by exact ow_79f_100 b20 b22, by exact ow_79f_101 b20 b22, b22.1, b22.2.1⟩
      refine pm_istore (lv' := [(5, (0, y21)), (4, (0, y10)), (3, (0, y4)), (0, (3, 78)), (1, (3, 87)), (2, (3, 87))]) hC dX4_compareProducts_52 (by decide) rfl ?_
      refine pm_aload_n hC 4 (by decide) dX4_compareProducts_54 rfl ?_
      refine pm_aload_n hC 5 (by decide) dX4_compareProducts_55 rfl ?_
      refine pm_iload hC 0 dX4_compareProducts_56 rfl ?_
      refine pm_callS (as := [(3, 87), (3, 87), (0, y21)]) (st := []) hC (uD_X4_roughQuotient_87_87 y21 ⟨by exact ow_79f_102 b22, by exact ow_79f_103 b22⟩) lm_X4_35 ls_X4_roughQuotient (by decide) (by decide) rfl rfl (Nat.le_of_ble_eq_true rfl) ⟨Nat.le_refl _, Or.inl rfl⟩ dX4_compareProducts_58 ⟨rfl, hV0⟩ (fun r24 V25 hp26 => ?_)
      obtain ⟨y27, rfl, b28, rfl⟩ := hp26
      change pm_J X 61 [(5, (0, y21)), (4, (0, y10)), (3, (0, y4)), (0, (3, 78)), (1, (3, 87)), (2, (3, 87))] [(2, y27)] 118 V0
      refine pm_dstore (lv' := [(6, (2, y27)), (5, (0, y21)), (4, (0, y10)), (3, (0, y4)), (0, (3, 78)), (1, (3, 87)), (2, (3, 87))]) hC dX4_compareProducts_61 (by decide) rfl ?_
      refine pm_dload hC 0 dX4_compareProducts_63 rfl ?_
      refine pm_ldc2d (v := 4607182418804521008) hC 4171 dX4_compareProducts_65 (by decide +kernel) (fun r30 => ?_)
      refine pm_dcmp hC dX4_compareProducts_68 (fun y31 b32 => ?_)
      have b32 := And.intro b32.1 b32.2
      refine pm_if_le (tgt := 74) hC ⟨by exact ow_79f_2 b32, by exact ow_79f_3 b32⟩ dX4_compareProducts_69 (by decide) (fun c33 => ?_) (fun c33 => ?_)
      · skip
        refine pm_dload hC 0 dX4_compareProducts_74 rfl ?_
        refine pm_ldc2d (v := 4607182418791010209) hC 4172 dX4_compareProducts_76 (by decide +kernel) (fun r34 => ?_)
        refine pm_dcmp hC dX4_compareProducts_79 (fun y35 b36 => ?_)
        have b36 := And.intro b36.1 b36.2
        refine pm_if_ge (tgt := 85) hC ⟨by exact ow_79f_2 b36, by exact ow_79f_3 b36⟩ dX4_compareProducts_80 (by decide) (fun c37 => ?_) (fun c37 => ?_)
        · skip
          refine pm_aload_n hC 4 (by decide) dX4_compareProducts_85 rfl ?_
          refine pm_aload_n hC 5 (by decide) dX4_compareProducts_86 rfl ?_
          refine pm_aload_n hC 6 (by decide) dX4_compareProducts_87 rfl ?_
          refine pm_iload hC 1 dX4_compareProducts_88 rfl ?_
          refine pm_callV (ci := 4) (as := [(3, 87), (3, 87), (0, y21)]) (st := []) hC 78 (uD_X4_compareExactly_78_87_87 y21 ⟨by exact ow_79f_102 b22, by exact ow_79f_103 b22⟩) lm_X4_43 li_X4_compareExactly (by decide) (by decide) rfl rfl rfl (by decide) rfl rfl (Nat.le_of_ble_eq_true rfl) ⟨Nat.le_refl _, Or.inl rfl⟩ dX4_compareProducts_90 ⟨rfl, hV0⟩ (fun r38 V39 hp40 => ?_)
          obtain ⟨y41, rfl, b42, hV43, hF44⟩ := hp40
          change pm_J X 93 [(6, (2, y27)), (5, (0, y21)), (4, (0, y10)), (3, (0, y4)), (0, (3, 78)), (1, (3, 87)), (2, (3, 87))] [(0, y41)] 118 V39
          have hF46 := pm_ff.tr (pm_ff.rf (cs := [80, 82]) (fs := [(79, 1), (81, 1)]) (V := V0)) hF44 (by decide) (by decide)
          have e47 : V39 87 0 = y18 := by rw [hF44 87 0 (by decide) (by decide)]; exact e19
          exact pm_iret hC hR pm_nar0 ⟨y41, rfl, ⟨by exact ow_79f_83 b42, by exact ow_79f_84 b42⟩, hV43, hF46⟩ dX4_compareProducts_93
        · skip
          refine pm_iconst (v := (-1)) hC dX4_compareProducts_83 ?_
          exact pm_iret hC hR pm_nar0 ⟨(-1), rfl, ⟨by exact ow_79f_91, by exact ow_79f_92⟩, hV0, (pm_ff.rf (cs := [80, 82]) (fs := [(79, 1), (81, 1)]) (V := V0))⟩ dX4_compareProducts_84
      · skip
        refine pm_iconst (v := 1) hC dX4_compareProducts_72 ?_
        exact pm_iret hC hR pm_nar0 ⟨1, rfl, ⟨by exact ow_79f_92, by exact ow_79f_32⟩, hV0, (pm_ff.rf (cs := [80, 82]) (fs := [(79, 1), (81, 1)]) (V := V0))⟩ dX4_compareProducts_73
    · skip
      refine pm_iload hC 0 dX4_compareProducts_20 rfl ?_
      refine pm_if_eq (tgt := 29) hC ⟨by exact ow_79f_88 b11, by exact ow_79f_89 b11⟩ dX4_compareProducts_22 (by decide) (fun c48 => ?_) (fun c48 => ?_)
      · skip
        exfalso; exact ow_79f_90 b11 c17 c48
      · skip
        refine pm_iconst (v := 1) hC dX4_compareProducts_25 ?_
        refine pm_goto (tgt := 30) hC dX4_compareProducts_26 (by decide) ?_
        refine pm_iload_n hC 1 dX4_compareProducts_30 rfl ?_
        refine pm_if_eq (tgt := 38) hC ⟨by exact ow_79f_88 b5, by exact ow_79f_98 c13⟩ dX4_compareProducts_31 (by decide) (fun c49 => ?_) (fun c49 => ?_)
        · skip
          refine pm_iconst (v := 0) hC dX4_compareProducts_38 ?_
          refine pm_isub hC dX4_compareProducts_39 ?_
          change pm_J X 40 [(4, (0, y10)), (3, (0, y4)), (0, (3, 78)), (1, (3, 87)), (2, (3, 87))] [(0, 1)] 118 V0
          exact pm_iret hC hR pm_nar0 ⟨1, rfl, ⟨by exact ow_79f_92, by exact ow_79f_32⟩, hV0, (pm_ff.rf (cs := [80, 82]) (fs := [(79, 1), (81, 1)]) (V := V0))⟩ dX4_compareProducts_40
        · skip
          exfalso; exact ow_79f_99 b5 c13 c49
set_option maxHeartbeats 4000000 in
set_option maxRecDepth 100000 in
theorem uD_X11_more_0 (a1 a2 a3 : Int) (h0 : (-2147483648) ≤ a1 ∧ a1 ≤ 2147483647) (h1 : (-2147483648) ≤ a2 ∧ a2 ≤ 2147483647) (h2 : (-2147483648) ≤ a3 ∧ a3 ≤ 2147483647) : pm_K 6 yX11_more cX11_more 5 (some .int) (fun av V => av = [(3, 0), (0, a1), (0, a2), (0, a3)] ∧ pm_ok 0 90 V) (fun _ V r V' => ∃ y, r = some (0, y) ∧ ((-1) ≤ y ∧ y ≤ 2) ∧ pm_ok 0 90 V' ∧ pm_ff [74, 75, 76, 77, 80, 82, 85, 86, 88, 89] [(73, 0), (73, 1), (73, 2), (73, 3), (73, 4), (73, 5), (73, 6), (73, 7), (73, 10), (73, 11), (73, 12), (73, 14), (79, 1), (81, 1), (84, 0), (87, 0)] V V') := by
  refine pm_MT.of (by decide) ⟨Nat.le_refl _, by decide⟩ (fun av V h => by rw [h.1]; exact (by decide : pm_words [(3, 0), (0, 0), (0, 0), (0, 0)] ≤ 5)) ?_
  rintro X av V0 hC - hR ⟨rfl, hV0⟩
  change pm_J X 0 [(0, (3, 0)), (1, (0, a1)), (2, (0, a2)), (3, (0, a3))] [] 118 V0
  refine pm_iload_n hC 1 dX11_more_0 rfl ?_
  refine pm_callS (as := [(0, a1)]) (st := []) hC (fD_X11_isLaw a1 ⟨by exact ow_79f_2 h0, by exact ow_79f_3 h0⟩) lm_X11_262 ls_X11_isLaw (by decide) (by decide) rfl rfl (Nat.le_of_ble_eq_true rfl) ⟨Nat.le_refl _, Or.inl rfl⟩ dX11_more_1 ⟨rfl, hV0⟩ (fun r1 V2 hp3 => ?_)
  obtain ⟨y4, rfl, b5, rfl, hE6⟩ := hp3
  change pm_J X 4 [(0, (3, 0)), (1, (0, a1)), (2, (0, a2)), (3, (0, a3))] [(0, y4)] 118 V0
  refine pm_if_eq (tgt := 22) hC ⟨by exact ow_79f_104 b5, by exact ow_79f_105 b5⟩ dX11_more_4 (by decide) (fun c7 => ?_) (fun c7 => ?_)
  · skip
    refine pm_iconst (v := (-1)) hC dX11_more_22 ?_
    exact pm_iret hC hR pm_nar0 ⟨(-1), rfl, ⟨by exact ow_79f_91, by exact ow_79f_106⟩, hV0, (pm_ff.rf (cs := [74, 75, 76, 77, 80, 82, 85, 86, 88, 89]) (fs := [(73, 0), (73, 1), (73, 2), (73, 3), (73, 4), (73, 5), (73, 6), (73, 7), (73, 10), (73, 11), (73, 12), (73, 14), (79, 1), (81, 1), (84, 0), (87, 0)]) (V := V0))⟩ dX11_more_23
  · skip
    refine pm_iload_n hC 2 dX11_more_7 rfl ?_
    refine pm_callS (as := [(0, a2)]) (st := []) hC (fD_X11_isLaw a2 ⟨by exact ow_79f_2 h1, by exact ow_79f_3 h1⟩) lm_X11_262 ls_X11_isLaw (by decide) (by decide) rfl rfl (Nat.le_of_ble_eq_true rfl) ⟨Nat.le_refl _, Or.inl rfl⟩ dX11_more_8 ⟨rfl, hV0⟩ (fun r8 V9 hp10 => ?_)
    obtain ⟨y11, rfl, b12, rfl, hE13⟩ := hp10
    change pm_J X 11 [(0, (3, 0)), (1, (0, a1)), (2, (0, a2)), (3, (0, a3))] [(0, y11)] 118 V0
    refine pm_if_eq (tgt := 22) hC ⟨by exact ow_79f_104 b12, by exact ow_79f_105 b12⟩ dX11_more_11 (by decide) (fun c14 => ?_) (fun c14 => ?_)
    · skip
      refine pm_iconst (v := (-1)) hC dX11_more_22 ?_
      exact pm_iret hC hR pm_nar0 ⟨(-1), rfl, ⟨by exact ow_79f_91, by exact ow_79f_106⟩, hV0, (pm_ff.rf (cs := [74, 75, 76, 77, 80, 82, 85, 86, 88, 89]) (fs := [(73, 0), (73, 1), (73, 2), (73, 3), (73, 4), (73, 5), (73, 6), (73, 7), (73, 10), (73, 11), (73, 12), (73, 14), (79, 1), (81, 1), (84, 0), (87, 0)]) (V := V0))⟩ dX11_more_23
    · skip
      refine pm_aload_n hC 0 (by decide) dX11_more_14 rfl ?_
      refine pm_iload_n hC 3 dX11_more_15 rfl ?_
      refine pm_callV (ci := 11) (as := [(0, a3)]) (st := []) hC 0 (fD_X11_isPersonOrAll_0 a3 ⟨by exact ow_79f_2 h2, by exact ow_79f_3 h2⟩) lm_X11_265 li_X11_isPersonOrAll (by decide) (by decide) rfl rfl rfl (by decide) rfl rfl (Nat.le_of_ble_eq_true rfl) ⟨Nat.le_refl _, Or.inl rfl⟩ dX11_more_16 ⟨rfl, hV0⟩ (fun r15 V16 hp17 => ?_)
      obtain ⟨y18, rfl, b19, rfl, hE20⟩ := hp17
      change pm_J X 19 [(0, (3, 0)), (1, (0, a1)), (2, (0, a2)), (3, (0, a3))] [(0, y18)] 118 V0
      refine pm_if_ne (tgt := 24) hC ⟨by exact ow_79f_107 b19, by exact ow_79f_108 b19⟩ dX11_more_19 (by decide) (fun c21 => ?_) (fun c21 => ?_)
      · skip
        refine pm_aload_n hC 0 (by decide) dX11_more_24 rfl ?_
        refine pm_aload_n hC 0 (by decide) dX11_more_25 rfl ?_
        rcases hV0.get2 0 12 (lo := 84) (hi := 87) (by decide) (by decide) rfl with e22 | e22
        · skip
          refine pm_getf (v := 84) hC 0 fl_X11_93 rfl rfl (by decide) rfl e22 dX11_more_26 ?_
          refine pm_iload_n hC 1 dX11_more_29 rfl ?_
          refine pm_iload_n hC 3 dX11_more_30 rfl ?_
          refine pm_callV (ci := 11) (as := [(3, 84), (0, a1), (0, a3)]) (st := []) hC 0 (fD_X11_gather_0_84 a1 a3 ⟨by exact ow_79f_2 h0, by exact ow_79f_3 h0⟩ ⟨by exact ow_79f_2 h2, by exact ow_79f_3 h2⟩) lm_X11_268 li_X11_gather (by decide) (by decide) rfl rfl rfl (by decide) rfl rfl (Nat.le_of_ble_eq_true rfl) ⟨Nat.le_refl _, Or.inl rfl⟩ dX11_more_31 ⟨rfl, hV0⟩ (fun r23 V24 hp25 => ?_)
          obtain ⟨rfl, hV26, hF27, hE28⟩ := hp25
          change pm_J X 34 [(0, (3, 0)), (1, (0, a1)), (2, (0, a2)), (3, (0, a3))] [] 118 V24
          have hF29 := pm_ff.tr (pm_ff.rf (cs := [74, 75, 76, 77, 80, 82, 85, 86, 88, 89]) (fs := [(73, 0), (73, 1), (73, 2), (73, 3), (73, 4), (73, 5), (73, 6), (73, 7), (73, 10), (73, 11), (73, 12), (73, 14), (79, 1), (81, 1), (84, 0), (87, 0)]) (V := V0)) hF27 (by decide) (by decide)
          have e30 : V24 0 12 = 84 := by rw [hF27 0 12 (by decide) (by decide)]; exact e22
          refine pm_aload_n hC 0 (by decide) dX11_more_34 rfl ?_
          refine pm_aload_n hC 0 (by decide) dX11_more_35 rfl ?_
          rcases hV26.get2 0 13 (lo := 84) (hi := 87) (by decide) (by decide) rfl with e31 | e31
          · skip
            refine pm_getf (v := 84) hC 0 fl_X11_97 rfl rfl (by decide) rfl e31 dX11_more_36 ?_
            refine pm_iload_n hC 2 dX11_more_39 rfl ?_
            refine pm_iload_n hC 3 dX11_more_40 rfl ?_
            refine pm_callV (ci := 11) (as := [(3, 84), (0, a2), (0, a3)]) (st := []) hC 0 (fD_X11_gather_0_84 a2 a3 ⟨by exact ow_79f_2 h1, by exact ow_79f_3 h1⟩ ⟨by exact ow_79f_2 h2, by exact ow_79f_3 h2⟩) lm_X11_268 li_X11_gather (by decide) (by decide) rfl rfl rfl (by decide) rfl rfl (Nat.le_of_ble_eq_true rfl) ⟨Nat.le_refl _, Or.inl rfl⟩ dX11_more_41 ⟨rfl, hV26⟩ (fun r32 V33 hp34 => ?_)
            obtain ⟨rfl, hV35, hF36, hE37⟩ := hp34
            change pm_J X 44 [(0, (3, 0)), (1, (0, a1)), (2, (0, a2)), (3, (0, a3))] [] 118 V33
            have hF38 := pm_ff.tr hF29 hF36 (by decide) (by decide)
            have e39 : V33 0 12 = 84 := by rw [hF36 0 12 (by decide) (by decide)]; exact e30
            have e40 : V33 0 13 = 84 := by rw [hF36 0 13 (by decide) (by decide)]; exact e31
            refine pm_aload_n hC 0 (by decide) dX11_more_44 rfl ?_
            have e41 : V33 0 6 = 78 := hV35.one 0 6 (by decide) (by decide) rfl
            refine pm_getf (v := 78) hC 0 fl_X11_82 rfl rfl (by decide) rfl e41 dX11_more_45 ?_
            refine pm_aload_n hC 0 (by decide) dX11_more_48 rfl ?_
            refine pm_getf (v := 84) hC 0 fl_X11_93 rfl rfl (by decide) rfl e39 dX11_more_49 ?_
            refine pm_aload_n hC 0 (by decide) dX11_more_52 rfl ?_
            refine pm_getf (v := 84) hC 0 fl_X11_97 rfl rfl (by decide) rfl e40 dX11_more_53 ?_
            refine pm_callV (ci := 4) (as := [(3, 84), (3, 84)]) (st := []) hC 78 uD_X4_compareProducts_78_84_84 lm_X11_272 li_X4_compareProducts (by decide) (by decide) rfl rfl rfl (by decide) rfl rfl (Nat.le_of_ble_eq_true rfl) ⟨Nat.le_refl _, Or.inl rfl⟩ dX11_more_56 ⟨rfl, hV35⟩ (fun r42 V43 hp44 => ?_)
            obtain ⟨y45, rfl, b46, hV47, hF48⟩ := hp44
            change pm_J X 59 [(0, (3, 0)), (1, (0, a1)), (2, (0, a2)), (3, (0, a3))] [(0, y45)] 118 V43
            have hF50 := pm_ff.tr hF38 hF48 (by decide) (by decide)
            have e51 : V43 0 12 = 84 := by rw [hF48 0 12 (by decide) (by decide)]; exact e39
            have e52 : V43 0 13 = 84 := by rw [hF48 0 13 (by decide) (by decide)]; exact e40
            have e53 : V43 0 6 = 78 := by rw [hF48 0 6 (by decide) (by decide)]; exact e41
            refine pm_istore (lv' := [(4, (0, y45)), (0, (3, 0)), (1, (0, a1)), (2, (0, a2)), (3, (0, a3))]) hC dX11_more_59 (by decide) rfl ?_
            refine pm_iload hC 0 dX11_more_61 rfl ?_
            refine pm_if_ne (tgt := 68) hC ⟨by exact ow_79f_109 b46, by exact ow_79f_110 b46⟩ dX11_more_63 (by decide) (fun c54 => ?_) (fun c54 => ?_)
            · skip
              refine pm_iload hC 0 dX11_more_68 rfl ?_
              refine pm_if_le (tgt := 77) hC ⟨by exact ow_79f_109 b46, by exact ow_79f_110 b46⟩ dX11_more_70 (by decide) (fun c55 => ?_) (fun c55 => ?_)
              · skip
                refine pm_iconst (v := 2) hC dX11_more_77 ?_
                exact pm_iret hC hR pm_nar0 ⟨2, rfl, ⟨by exact ow_79f_106, by exact ow_79f_111⟩, hV47, hF50⟩ dX11_more_78
              · skip
                refine pm_iconst (v := 1) hC dX11_more_73 ?_
                refine pm_goto (tgt := 78) hC dX11_more_74 (by decide) ?_
                exact pm_iret hC hR pm_nar0 ⟨1, rfl, ⟨by exact ow_79f_92, by exact ow_79f_112⟩, hV47, hF50⟩ dX11_more_78
            · skip
              refine pm_iconst (v := 0) hC dX11_more_66 ?_
              exact pm_iret hC hR pm_nar0 ⟨0, rfl, ⟨by exact ow_79f_93, by exact ow_79f_113⟩, hV47, hF50⟩ dX11_more_67
          · skip
            refine pm_getf (v := 87) hC 0 fl_X11_97 rfl rfl (by decide) rfl e31 dX11_more_36 ?_
            refine pm_iload_n hC 2 dX11_more_39 rfl ?_
            refine pm_iload_n hC 3 dX11_more_40 rfl ?_
            refine pm_callV (ci := 11) (as := [(3, 87), (0, a2), (0, a3)]) (st := []) hC 0 (fD_X11_gather_0_87 a2 a3 ⟨by exact ow_79f_2 h1, by exact ow_79f_3 h1⟩ ⟨by exact ow_79f_2 h2, by exact ow_79f_3 h2⟩) lm_X11_268 li_X11_gather (by decide) (by decide) rfl rfl rfl (by decide) rfl rfl (Nat.le_of_ble_eq_true rfl) ⟨Nat.le_refl _, Or.inl rfl⟩ dX11_more_41 ⟨rfl, hV26⟩ (fun r56 V57 hp58 => ?_)
            obtain ⟨rfl, hV59, hF60, hE61⟩ := hp58
            change pm_J X 44 [(0, (3, 0)), (1, (0, a1)), (2, (0, a2)), (3, (0, a3))] [] 118 V57
            have hF62 := pm_ff.tr hF29 hF60 (by decide) (by decide)
            have e63 : V57 0 12 = 84 := by rw [hF60 0 12 (by decide) (by decide)]; exact e30
            have e64 : V57 0 13 = 87 := by rw [hF60 0 13 (by decide) (by decide)]; exact e31
            refine pm_aload_n hC 0 (by decide) dX11_more_44 rfl ?_
            have e65 : V57 0 6 = 78 := hV59.one 0 6 (by decide) (by decide) rfl
            refine pm_getf (v := 78) hC 0 fl_X11_82 rfl rfl (by decide) rfl e65 dX11_more_45 ?_
            refine pm_aload_n hC 0 (by decide) dX11_more_48 rfl ?_
            refine pm_getf (v := 84) hC 0 fl_X11_93 rfl rfl (by decide) rfl e63 dX11_more_49 ?_
            refine pm_aload_n hC 0 (by decide) dX11_more_52 rfl ?_
            refine pm_getf (v := 87) hC 0 fl_X11_97 rfl rfl (by decide) rfl e64 dX11_more_53 ?_
            refine pm_callV (ci := 4) (as := [(3, 84), (3, 87)]) (st := []) hC 78 uD_X4_compareProducts_78_84_87 lm_X11_272 li_X4_compareProducts (by decide) (by decide) rfl rfl rfl (by decide) rfl rfl (Nat.le_of_ble_eq_true rfl) ⟨Nat.le_refl _, Or.inl rfl⟩ dX11_more_56 ⟨rfl, hV59⟩ (fun r66 V67 hp68 => ?_)
            obtain ⟨y69, rfl, b70, hV71, hF72⟩ := hp68
            change pm_J X 59 [(0, (3, 0)), (1, (0, a1)), (2, (0, a2)), (3, (0, a3))] [(0, y69)] 118 V67
            have hF74 := pm_ff.tr hF62 hF72 (by decide) (by decide)
            have e75 : V67 0 12 = 84 := by rw [hF72 0 12 (by decide) (by decide)]; exact e63
            have e76 : V67 0 13 = 87 := by rw [hF72 0 13 (by decide) (by decide)]; exact e64
            have e77 : V67 0 6 = 78 := by rw [hF72 0 6 (by decide) (by decide)]; exact e65
            refine pm_istore (lv' := [(4, (0, y69)), (0, (3, 0)), (1, (0, a1)), (2, (0, a2)), (3, (0, a3))]) hC dX11_more_59 (by decide) rfl ?_
            refine pm_iload hC 0 dX11_more_61 rfl ?_
            refine pm_if_ne (tgt := 68) hC ⟨by exact ow_79f_109 b70, by exact ow_79f_110 b70⟩ dX11_more_63 (by decide) (fun c78 => ?_) (fun c78 => ?_)
            · skip
              refine pm_iload hC 0 dX11_more_68 rfl ?_
              refine pm_if_le (tgt := 77) hC ⟨by exact ow_79f_109 b70, by exact ow_79f_110 b70⟩ dX11_more_70 (by decide) (fun c79 => ?_) (fun c79 => ?_)
              · skip
                refine pm_iconst (v := 2) hC dX11_more_77 ?_
                exact pm_iret hC hR pm_nar0 ⟨2, rfl, ⟨by exact ow_79f_106, by exact ow_79f_111⟩, hV71, hF74⟩ dX11_more_78
              · skip
                refine pm_iconst (v := 1) hC dX11_more_73 ?_
                refine pm_goto (tgt := 78) hC dX11_more_74 (by decide) ?_
                exact pm_iret hC hR pm_nar0 ⟨1, rfl, ⟨by exact ow_79f_92, by exact ow_79f_112⟩, hV71, hF74⟩ dX11_more_78
            · skip
              refine pm_iconst (v := 0) hC dX11_more_66 ?_
              exact pm_iret hC hR pm_nar0 ⟨0, rfl, ⟨by exact ow_79f_93, by exact ow_79f_113⟩, hV71, hF74⟩ dX11_more_67
        · skip
          refine pm_getf (v := 87) hC 0 fl_X11_93 rfl rfl (by decide) rfl e22 dX11_more_26 ?_
          refine pm_iload_n hC 1 dX11_more_29 rfl ?_
          refine pm_iload_n hC 3 dX11_more_30 rfl ?_
          refine pm_callV (ci := 11) (as := [(3, 87), (0, a1), (0, a3)]) (st := []) hC 0 (fD_X11_gather_0_87 a1 a3 ⟨by exact ow_79f_2 h0, by exact ow_79f_3 h0⟩ ⟨by exact ow_79f_2 h2, by exact ow_79f_3 h2⟩) lm_X11_268 li_X11_gather (by decide) (by decide) rfl rfl rfl (by decide) rfl rfl (Nat.le_of_ble_eq_true rfl) ⟨Nat.le_refl _, Or.inl rfl⟩ dX11_more_31 ⟨rfl, hV0⟩ (fun r80 V81 hp82 => ?_)
          obtain ⟨rfl, hV83, hF84, hE85⟩ := hp82
          change pm_J X 34 [(0, (3, 0)), (1, (0, a1)), (2, (0, a2)), (3, (0, a3))] [] 118 V81
          have hF86 := pm_ff.tr (pm_ff.rf (cs := [74, 75, 76, 77, 80, 82, 85, 86, 88, 89]) (fs := [(73, 0), (73, 1), (73, 2), (73, 3), (73, 4), (73, 5), (73, 6), (73, 7), (73, 10), (73, 11), (73, 12), (73, 14), (79, 1), (81, 1), (84, 0), (87, 0)]) (V := V0)) hF84 (by decide) (by decide)
          have e87 : V81 0 12 = 87 := by rw [hF84 0 12 (by decide) (by decide)]; exact e22
          refine pm_aload_n hC 0 (by decide) dX11_more_34 rfl ?_
          refine pm_aload_n hC 0 (by decide) dX11_more_35 rfl ?_
          rcases hV83.get2 0 13 (lo := 84) (hi := 87) (by decide) (by decide) rfl with e88 | e88
          · skip
            refine pm_getf (v := 84) hC 0 fl_X11_97 rfl rfl (by decide) rfl e88 dX11_more_36 ?_
            refine pm_iload_n hC 2 dX11_more_39 rfl ?_
            refine pm_iload_n hC 3 dX11_more_40 rfl ?_
            refine pm_callV (ci := 11) (as := [(3, 84), (0, a2), (0, a3)]) (st := []) hC 0 (fD_X11_gather_0_84 a2 a3 ⟨by exact ow_79f_2 h1, by exact ow_79f_3 h1⟩ ⟨by exact ow_79f_2 h2, by exact ow_79f_3 h2⟩) lm_X11_268 li_X11_gather (by decide) (by decide) rfl rfl rfl (by decide) rfl rfl (Nat.le_of_ble_eq_true rfl) ⟨Nat.le_refl _, Or.inl rfl⟩ dX11_more_41 ⟨rfl, hV83⟩ (fun r89 V90 hp91 => ?_)
            obtain ⟨rfl, hV92, hF93, hE94⟩ := hp91
            change pm_J X 44 [(0, (3, 0)), (1, (0, a1)), (2, (0, a2)), (3, (0, a3))] [] 118 V90
            have hF95 := pm_ff.tr hF86 hF93 (by decide) (by decide)
            have e96 : V90 0 12 = 87 := by rw [hF93 0 12 (by decide) (by decide)]; exact e87
            have e97 : V90 0 13 = 84 := by rw [hF93 0 13 (by decide) (by decide)]; exact e88
            refine pm_aload_n hC 0 (by decide) dX11_more_44 rfl ?_
            have e98 : V90 0 6 = 78 := hV92.one 0 6 (by decide) (by decide) rfl
            refine pm_getf (v := 78) hC 0 fl_X11_82 rfl rfl (by decide) rfl e98 dX11_more_45 ?_
            refine pm_aload_n hC 0 (by decide) dX11_more_48 rfl ?_
            refine pm_getf (v := 87) hC 0 fl_X11_93 rfl rfl (by decide) rfl e96 dX11_more_49 ?_
            refine pm_aload_n hC 0 (by decide) dX11_more_52 rfl ?_
            refine pm_getf (v := 84) hC 0 fl_X11_97 rfl rfl (by decide) rfl e97 dX11_more_53 ?_
            refine pm_callV (ci := 4) (as := [(3, 87), (3, 84)]) (st := []) hC 78 uD_X4_compareProducts_78_87_84 lm_X11_272 li_X4_compareProducts (by decide) (by decide) rfl rfl rfl (by decide) rfl rfl (Nat.le_of_ble_eq_true rfl) ⟨Nat.le_refl _, Or.inl rfl⟩ dX11_more_56 ⟨rfl, hV92⟩ (fun r99 V100 hp101 => ?_)
            obtain ⟨y102, rfl, b103, hV104, hF105⟩ := hp101
            change pm_J X 59 [(0, (3, 0)), (1, (0, a1)), (2, (0, a2)), (3, (0, a3))] [(0, y102)] 118 V100
            have hF107 := pm_ff.tr hF95 hF105 (by decide) (by decide)
            have e108 : V100 0 12 = 87 := by rw [hF105 0 12 (by decide) (by decide)]; exact e96
            have e109 : V100 0 13 = 84 := by rw [hF105 0 13 (by decide) (by decide)]; exact e97
            have e110 : V100 0 6 = 78 := by rw [hF105 0 6 (by decide) (by decide)]; exact e98
            refine pm_istore (lv' := [(4, (0, y102)), (0, (3, 0)), (1, (0, a1)), (2, (0, a2)), (3, (0, a3))]) hC dX11_more_59 (by decide) rfl ?_
            refine pm_iload hC 0 dX11_more_61 rfl ?_
            refine pm_if_ne (tgt := 68) hC ⟨by exact ow_79f_109 b103, by exact ow_79f_110 b103⟩ dX11_more_63 (by decide) (fun c111 => ?_) (fun c111 => ?_)
            · skip
              refine pm_iload hC 0 dX11_more_68 rfl ?_
              refine pm_if_le (tgt := 77) hC ⟨by exact ow_79f_109 b103, by exact ow_79f_110 b103⟩ dX11_more_70 (by decide) (fun c112 => ?_) (fun c112 => ?_)
              · skip
                refine pm_iconst (v := 2) hC dX11_more_77 ?_
                exact pm_iret hC hR pm_nar0 ⟨2, rfl, ⟨by exact ow_79f_106, by exact ow_79f_111⟩, hV104, hF107⟩ dX11_more_78
              · skip
                refine pm_iconst (v := 1) hC dX11_more_73 ?_
                refine pm_goto (tgt := 78) hC dX11_more_74 (by decide) ?_
                exact pm_iret hC hR pm_nar0 ⟨1, rfl, ⟨by exact ow_79f_92, by exact ow_79f_112⟩, hV104, hF107⟩ dX11_more_78
            · skip
              refine pm_iconst (v := 0) hC dX11_more_66 ?_
              exact pm_iret hC hR pm_nar0 ⟨0, rfl, ⟨by exact ow_79f_93, by exact ow_79f_113⟩, hV104, hF107⟩ dX11_more_67
          · skip
            refine pm_getf (v := 87) hC 0 fl_X11_97 rfl rfl (by decide) rfl e88 dX11_more_36 ?_
            refine pm_iload_n hC 2 dX11_more_39 rfl ?_
            refine pm_iload_n hC 3 dX11_more_40 rfl ?_
            refine pm_callV (ci := 11) (as := [(3, 87), (0, a2), (0, a3)]) (st := []) hC 0 (fD_X11_gather_0_87 a2 a3 ⟨by exact ow_79f_2 h1, by exact ow_79f_3 h1⟩ ⟨by exact ow_79f_2 h2, by exact ow_79f_3 h2⟩) lm_X11_268 li_X11_gather (by decide) (by decide) rfl rfl rfl (by decide) rfl rfl (Nat.le_of_ble_eq_true rfl) ⟨Nat.le_refl _, Or.inl rfl⟩ dX11_more_41 ⟨rfl, hV83⟩ (fun r113 V114 hp115 => ?_)
            obtain ⟨rfl, hV116, hF117, hE118⟩ := hp115
            change pm_J X 44 [(0, (3, 0)), (1, (0, a1)), (2, (0, a2)), (3, (0, a3))] [] 118 V114
            have hF119 := pm_ff.tr hF86 hF117 (by decide) (by decide)
            have e120 : V114 0 12 = 87 := by rw [hF117 0 12 (by decide) (by decide)]; exact e87
            have e121 : V114 0 13 = 87 := by rw [hF117 0 13 (by decide) (by decide)]; exact e88
            refine pm_aload_n hC 0 (by decide) dX11_more_44 rfl ?_
            have e122 : V114 0 6 = 78 := hV116.one 0 6 (by decide) (by decide) rfl
            refine pm_getf (v := 78) hC 0 fl_X11_82 rfl rfl (by decide) rfl e122 dX11_more_45 ?_
            refine pm_aload_n hC 0 (by decide) dX11_more_48 rfl ?_
            refine pm_getf (v := 87) hC 0 fl_X11_93 rfl rfl (by decide) rfl e120 dX11_more_49 ?_
            refine pm_aload_n hC 0 (by decide) dX11_more_52 rfl ?_
            refine pm_getf (v := 87) hC 0 fl_X11_97 rfl rfl (by decide) rfl e121 dX11_more_53 ?_
            refine pm_callV (ci := 4) (as := [(3, 87), (3, 87)]) (st := []) hC 78 uD_X4_compareProducts_78_87_87 lm_X11_272 li_X4_compareProducts (by decide) (by decide) rfl rfl rfl (by decide) rfl rfl (Nat.le_of_ble_eq_true rfl) ⟨Nat.le_refl _, Or.inl rfl⟩ dX11_more_56 ⟨rfl, hV116⟩ (fun r123 V124 hp125 => ?_)
            obtain ⟨y126, rfl, b127, hV128, hF129⟩ := hp125
            change pm_J X 59 [(0, (3, 0)), (1, (0, a1)), (2, (0, a2)), (3, (0, a3))] [(0, y126)] 118 V124
            have hF131 := pm_ff.tr hF119 hF129 (by decide) (by decide)
            have e132 : V124 0 12 = 87 := by rw [hF129 0 12 (by decide) (by decide)]; exact e120
            have e133 : V124 0 13 = 87 := by rw [hF129 0 13 (by decide) (by decide)]; exact e121
            have e134 : V124 0 6 = 78 := by rw [hF129 0 6 (by decide) (by decide)]; exact e122
            refine pm_istore (lv' := [(4, (0, y126)), (0, (3, 0)), (1, (0, a1)), (2, (0, a2)), (3, (0, a3))]) hC dX11_more_59 (by decide) rfl ?_
            refine pm_iload hC 0 dX11_more_61 rfl ?_
            refine pm_if_ne (tgt := 68) hC ⟨by exact ow_79f_109 b127, by exact ow_79f_110 b127⟩ dX11_more_63 (by decide) (fun c135 => ?_) (fun c135 => ?_)
            · skip
              refine pm_iload hC 0 dX11_more_68 rfl ?_
              refine pm_if_le (tgt := 77) hC ⟨by exact ow_79f_109 b127, by exact ow_79f_110 b127⟩ dX11_more_70 (by decide) (fun c136 => ?_) (fun c136 => ?_)
              · skip
                refine pm_iconst (v := 2) hC dX11_more_77 ?_
                exact pm_iret hC hR pm_nar0 ⟨2, rfl, ⟨by exact ow_79f_106, by exact ow_79f_111⟩, hV128, hF131⟩ dX11_more_78
              · skip
                refine pm_iconst (v := 1) hC dX11_more_73 ?_
                refine pm_goto (tgt := 78) hC dX11_more_74 (by decide) ?_
                exact pm_iret hC hR pm_nar0 ⟨1, rfl, ⟨by exact ow_79f_92, by exact ow_79f_112⟩, hV128, hF131⟩ dX11_more_78
            · skip
              refine pm_iconst (v := 0) hC dX11_more_66 ?_
              exact pm_iret hC hR pm_nar0 ⟨0, rfl, ⟨by exact ow_79f_93, by exact ow_79f_113⟩, hV128, hF131⟩ dX11_more_67
      · skip
        refine pm_iconst (v := (-1)) hC dX11_more_22 ?_
        exact pm_iret hC hR pm_nar0 ⟨(-1), rfl, ⟨by exact ow_79f_91, by exact ow_79f_106⟩, hV0, (pm_ff.rf (cs := [74, 75, 76, 77, 80, 82, 85, 86, 88, 89]) (fs := [(73, 0), (73, 1), (73, 2), (73, 3), (73, 4), (73, 5), (73, 6), (73, 7), (73, 10), (73, 11), (73, 12), (73, 14), (79, 1), (81, 1), (84, 0), (87, 0)]) (V := V0))⟩ dX11_more_23
