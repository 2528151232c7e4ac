theorem ow_82_0 {a0 : Int} (h0 : ((0 ≤ (a0 : Int)) ∧ (a0 ≤ (9 : Int)))) : ((-2147483648) ≤ (a0 : Int)) := by omega
theorem ow_82_1 {a0 : Int} (h0 : ((0 ≤ (a0 : Int)) ∧ (a0 ≤ (9 : Int)))) : (a0 ≤ (2147483647 : Int)) := by omega
theorem ow_82_2 {a0 : Int} (h0 : ((2 ≤ (a0 : Int)) ∧ (a0 ≤ (9 : Int)))) : ((-2147483648) ≤ (a0 : Int)) := by omega
theorem ow_82_3 {a0 : Int} (h0 : ((2 ≤ (a0 : Int)) ∧ (a0 ≤ (9 : Int)))) : (a0 ≤ (2147483647 : Int)) := by omega
theorem ow_82_4 {a0 a1 a2 a3 a4 : Int} (h0 : ((2 ≤ (a0 : Int)) ∧ (a0 ≤ (9 : Int)))) (h1 : ((0 ≤ (a1 : Int)) ∧ ((a1 < (a0 : Int)) ∧ ((0 ≤ (a2 : Int)) ∧ ((a2 < (a0 : Int)) ∧ ((1 ≤ (a3 : Int)) ∧ (1 ≤ (a4 : Int)))))))) : ((((a1 : Int).toNat : Nat) : Int) < (a0 : Int)) := by omega
theorem ow_82_5 {a0 a1 a2 a3 a4 a5 : Int} (h0 : (a0 ≤ (a1 : Int))) (h1 : ((0 ≤ (a2 : Int)) ∧ ((a2 < (a0 : Int)) ∧ ((0 ≤ (a3 : Int)) ∧ ((a3 < (a0 : Int)) ∧ ((1 ≤ (a4 : Int)) ∧ (1 ≤ (a5 : Int)))))))) : (a2 < (a1 : Int)) := by omega
theorem ow_82_6 {a0 a1 : Int} (h0 : ((2 ≤ (a0 : Int)) ∧ (a0 ≤ (9 : Int)))) (h1 : (a1 < (a0 : Int))) : ((a1 : Int).toNat < (9 : Nat)) := by omega
theorem ow_82_7 {a0 : Int} (h0 : ((0 ≤ (a0 : Int)) ∧ (a0 ≤ (9 : Int)))) : (0 ≤ (a0 : Int)) := by omega
theorem ow_82_8 {a0 a1 : Int} (h0 : ((2 ≤ (a0 : Int)) ∧ (a0 ≤ (9 : Int)))) (h1 : (a1 < (a0 : Int))) : (a1 < (((9 : Nat) : Int) : Int)) := by omega
theorem ow_82_9 {a0 : Int} (h0 : ((0 ≤ (a0 : Int)) ∧ (a0 ≤ (1539 : Int)))) : ((-2147483648) ≤ (a0 : Int)) := by omega
theorem ow_82_10 {a0 : Int} (h0 : ((0 ≤ (a0 : Int)) ∧ (a0 ≤ (1539 : Int)))) : (a0 ≤ (2147483647 : Int)) := by omega
theorem ow_82_11 {a0 a1 a2 a3 a4 a5 a6 : Int} (h0 : (a0 = (a1 : Int))) (h1 : (a0 = (a2 : Int))) (h2 : ((0 ≤ (a3 : Int)) ∧ ((a3 < (a4 : Int)) ∧ ((0 ≤ (a5 : Int)) ∧ ((a5 < (a4 : Int)) ∧ ((1 ≤ (a2 : Int)) ∧ (1 ≤ (a6 : Int)))))))) : (1 ≤ (a1 : Int)) := by omega
theorem ow_82_12 {a0 a2 a3 : Int} {k1 : Nat} (h0 : (((9 - a0) : Int).toNat = (k1 : Nat))) (h1 : ((2 ≤ (a2 : Int)) ∧ (a2 ≤ (9 : Int)))) (h2 : (a0 < (a2 : Int))) (h3 : ((a0 + 1) = (a3 : Int))) : (((9 - a3) : Int).toNat < (k1 : Nat)) := by omega
theorem ow_82_13 {a0 a1 : Int} (h0 : ((0 ≤ (a0 : Int)) ∧ (a0 ≤ (9 : Int)))) (h1 : ((a0 + 1) = (a1 : Int))) : (0 ≤ (a1 : Int)) := by omega
theorem ow_82_14 {a0 a1 a2 : Int} (h0 : ((2 ≤ (a0 : Int)) ∧ (a0 ≤ (9 : Int)))) (h1 : (a1 < (a0 : Int))) (h2 : ((a1 + 1) = (a2 : Int))) : (a2 ≤ (9 : Int)) := by omega
theorem ow_82_15 {a0 : Int} (h0 : ((0 ≤ (a0 : Int)) ∧ (a0 ≤ (1539 : Int)))) : (0 ≤ (a0 : Int)) := by omega
theorem ow_82_16 {a0 : Int} (h0 : ((0 ≤ (a0 : Int)) ∧ (a0 ≤ (1539 : Int)))) : (a0 ≤ (80000000 : Int)) := by omega
theorem ow_82_17 {a0 : Int} (h0 : ((0 ≤ (a0 : Int)) ∧ (a0 ≤ (8 : Int)))) : (0 ≤ (a0 : Int)) := by omega
theorem ow_82_18 {a0 a1 a2 : Int} (h0 : ((a0 + 1) = (a1 : Int))) (h1 : (a2 < (a1 : Int))) (h2 : (a2 ≠ (a0 : Int))) : (a2 < (a0 : Int)) := by omega
theorem ow_82_19 {a0 : Int} (h0 : ((0 ≤ (a0 : Int)) ∧ (a0 ≤ (8 : Int)))) (h1 : (a0 < (0 : Int))) : ¬((a0 < (0 : Int))) := by omega
theorem ow_82_20 {a0 a1 a2 a3 a4 : Int} (h0 : ((2 ≤ (a0 : Int)) ∧ (a0 ≤ (9 : Int)))) (h1 : ((0 ≤ (a1 : Int)) ∧ ((a1 < (a0 : Int)) ∧ ((0 ≤ (a2 : Int)) ∧ ((a2 < (a0 : Int)) ∧ ((1 ≤ (a3 : Int)) ∧ (1 ≤ (a4 : Int)))))))) : ((((a2 : Int).toNat : Nat) : Int) < (a0 : Int)) := by omega
theorem ow_82_21 {a0 a1 a2 a3 a4 a5 : Int} (h0 : (a0 ≤ (a1 : Int))) (h1 : ((0 ≤ (a2 : Int)) ∧ ((a2 < (a0 : Int)) ∧ ((0 ≤ (a3 : Int)) ∧ ((a3 < (a0 : Int)) ∧ ((1 ≤ (a4 : Int)) ∧ (1 ≤ (a5 : Int)))))))) : (a3 < (a1 : Int)) := by omega
theorem ow_82_22 {a0 a1 : Int} (h0 : ((2 ≤ (a0 : Int)) ∧ (a0 ≤ (9 : Int)))) (h1 : (a1 < (a0 : Int))) : ((((3 * a1) + 2) : Int).toNat < (27 : Nat)) := by omega
theorem ow_82_23 {a0 : Int} (h0 : ((0 ≤ (a0 : Int)) ∧ (a0 ≤ (9 : Int)))) : (0 ≤ (((3 * a0) + 2) : Int)) := by omega
theorem ow_82_24 {a0 a1 : Int} (h0 : ((2 ≤ (a0 : Int)) ∧ (a0 ≤ (9 : Int)))) (h1 : (a1 < (a0 : Int))) : (((3 * a1) + 2) < (((27 : Nat) : Int) : Int)) := by omega
theorem ow_82_25 {a0 : Int} (h0 : ((0 ≤ (a0 : Int)) ∧ (a0 ≤ (171 : Int)))) : ((-2147483648) ≤ (a0 : Int)) := by omega
theorem ow_82_26 {a0 : Int} (h0 : ((0 ≤ (a0 : Int)) ∧ (a0 ≤ (171 : Int)))) : (a0 ≤ (2147483647 : Int)) := by omega
theorem ow_82_27 {a0 : Int} (h0 : ((0 ≤ (a0 : Int)) ∧ (a0 ≤ (171 : Int)))) : (0 ≤ (a0 : Int)) := by omega
theorem ow_82_28 {a0 : Int} (h0 : ((0 ≤ (a0 : Int)) ∧ (a0 ≤ (9 : Int)))) : (a0 ≤ (9 : Int)) := by omega
theorem ow_82_29 {a0 : Int} (h0 : ((0 ≤ (a0 : Int)) ∧ (a0 ≤ (171 : Int)))) : (a0 ≤ (171 : Int)) := by omega
theorem ow_82_30 {a0 a1 a2 : Int} (h0 : (a0 = (a1 : Int))) (h1 : (a2 < (a1 : Int))) : (a2 < (a0 : Int)) := by omega
theorem ow_82_31 {a0 a1 : Int} (h0 : (a0 = (a1 : Int))) (h1 : (1 ≤ (a0 : Int))) : (1 ≤ (a1 : Int)) := by omega
theorem ow_82_32 {a0 a1 a2 a3 a4 a5 a6 : Int} (h0 : (a0 = (a1 : Int))) (h1 : (a0 = (a2 : Int))) (h2 : ((0 ≤ (a3 : Int)) ∧ ((a3 < (a4 : Int)) ∧ ((0 ≤ (a5 : Int)) ∧ ((a5 < (a4 : Int)) ∧ ((1 ≤ (a6 : Int)) ∧ (1 ≤ (a2 : Int)))))))) : (1 ≤ (a1 : Int)) := by omega
theorem ow_82_33 {a0 : Int} (h0 : ((0 ≤ (a0 : Int)) ∧ (a0 ≤ (720000000 : Int)))) : ((-9223372036854775808) ≤ (a0 : Int)) := by omega
theorem ow_82_34 {a0 : Int} (h0 : ((0 ≤ (a0 : Int)) ∧ (a0 ≤ (720000000 : Int)))) : (a0 ≤ (9223372036854775807 : Int)) := by omega
theorem ow_82_35 {a0 a1 : Int} (h0 : (((a0 = (1 : Int)) ∧ (0 < (a1 : Int))) ∨ (((a0 = (0 : Int)) ∧ (a1 = (0 : Int))) ∨ ((a0 = ((-1) : Int)) ∧ (a1 < (0 : Int)))))) : ((-2147483648) ≤ (a0 : Int)) := by omega
theorem ow_82_36 {a0 a1 : Int} (h0 : (((a0 = (1 : Int)) ∧ (0 < (a1 : Int))) ∨ (((a0 = (0 : Int)) ∧ (a1 = (0 : Int))) ∨ ((a0 = ((-1) : Int)) ∧ (a1 < (0 : Int)))))) : (a0 ≤ (2147483647 : Int)) := by omega
theorem ow_82_37 {a0 a1 : Int} (h0 : ((0 ≤ (a0 : Int)) ∧ (a0 ≤ (720000000 : Int)))) (h1 : (((a1 = (1 : Int)) ∧ (0 < (a0 : Int))) ∨ (((a1 = (0 : Int)) ∧ (a0 = (0 : Int))) ∨ ((a1 = ((-1) : Int)) ∧ (a0 < (0 : Int)))))) (h2 : ¬((a1 = (0 : Int)))) : (1 ≤ (a0 : Int)) := by omega
theorem ow_82_38 {a0 a1 : Int} {k2 : Nat} (h0 : (a0 ≤ (a1 : Int))) (h1 : (((k2 : Nat) : Int) < (a0 : Int))) : (((k2 : Nat) : Int) < (a1 : Int)) := by omega
theorem ow_82_39 {a0 : Int} (h0 : ((0 ≤ (a0 : Int)) ∧ (a0 ≤ (16 : Int)))) : ((-2147483648) ≤ (a0 : Int)) := by omega
theorem ow_82_40 {a0 : Int} (h0 : ((0 ≤ (a0 : Int)) ∧ (a0 ≤ (16 : Int)))) : (a0 ≤ (2147483647 : Int)) := by omega
theorem ow_82_41 {a0 : Int} (h0 : ((0 ≤ (a0 : Int)) ∧ (a0 ≤ (16 : Int)))) : (0 ≤ (a0 : Int)) := by omega
theorem ow_82_42 {a0 : Int} (h0 : ((2 ≤ (a0 : Int)) ∧ (a0 ≤ (9 : Int)))) : (0 ≤ (a0 : Int)) := by omega
theorem ow_82_43 {a0 : Int} (h0 : ((0 ≤ (a0 : Int)) ∧ (a0 ≤ (16 : Int)))) : (a0 ≤ (16 : Int)) := by omega
theorem ow_82_44 {a0 : Int} (h0 : ((2 ≤ (a0 : Int)) ∧ (a0 ≤ (9 : Int)))) : (a0 ≤ (9 : Int)) := by omega
theorem ow_82_45 {a0 : Int} (h0 : ((0 ≤ (a0 : Int)) ∧ (a0 ≤ (144 : Int)))) : (0 ≤ (a0 : Int)) := by omega
theorem ow_82_46 {a0 : Int} (h0 : ((0 ≤ (a0 : Int)) ∧ (a0 ≤ (144 : Int)))) : (a0 ≤ (144 : Int)) := by omega
theorem ow_82_47 {a0 : Int} (h0 : ((0 ≤ (a0 : Int)) ∧ (a0 ≤ (1539 : Int)))) : (a0 ≤ (1539 : Int)) := by omega
theorem ow_82_48 {a0 : Int} (h0 : ((0 ≤ (a0 : Int)) ∧ (a0 ≤ (221616 : Int)))) : (0 ≤ (a0 : Int)) := by omega
theorem ow_82_49 {a0 : Int} (h0 : ((0 ≤ (a0 : Int)) ∧ (a0 ≤ (221616 : Int)))) : (a0 ≤ (221616 : Int)) := by omega
theorem ow_82_50 {a0 : Int} (h0 : ((0 ≤ (a0 : Int)) ∧ (a0 ≤ (16 : Int)))) : ((-2147483648) ≤ ((16 - a0) : Int)) := by omega
theorem ow_82_51 {a0 : Int} (h0 : ((0 ≤ (a0 : Int)) ∧ (a0 ≤ (16 : Int)))) : ((16 - a0) ≤ (2147483647 : Int)) := by omega
theorem ow_82_52 {a0 : Int} (h0 : ((0 ≤ (a0 : Int)) ∧ (a0 ≤ (16 : Int)))) : (0 ≤ ((16 - a0) : Int)) := by omega
theorem ow_82_53 {a0 : Int} (h0 : ((0 ≤ (a0 : Int)) ∧ (a0 ≤ (16 : Int)))) : ((16 - a0) ≤ (16 : Int)) := by omega
theorem ow_82_54 {a0 : Int} (h0 : ((0 ≤ (a0 : Int)) ∧ (a0 ≤ (24624 : Int)))) : (0 ≤ (a0 : Int)) := by omega
theorem ow_82_55 {a0 : Int} (h0 : ((0 ≤ (a0 : Int)) ∧ (a0 ≤ (24624 : Int)))) : (a0 ≤ (24624 : Int)) := by omega
theorem ow_82_56 {a0 a1 : Int} (h0 : ((0 ≤ (a0 : Int)) ∧ (a0 ≤ (37896336 : Int)))) (h1 : ((0 ≤ (a1 : Int)) ∧ (a1 ≤ (37896336 : Int)))) : (0 ≤ ((a0 + a1) : Int)) := by omega
theorem ow_82_57 {a0 a1 : Int} (h0 : ((0 ≤ (a0 : Int)) ∧ (a0 ≤ (37896336 : Int)))) (h1 : ((0 ≤ (a1 : Int)) ∧ (a1 ≤ (37896336 : Int)))) : ((a0 + a1) ≤ (80000000 : Int)) := by omega
theorem ow_82_58 {a0 a1 a3 : Int} {k2 : Nat} (h0 : ((2 ≤ (a0 : Int)) ∧ (a0 ≤ (9 : Int)))) (h1 : (((9 - a1) : Int).toNat = (k2 : Nat))) (h2 : (a1 < (a0 : Int))) (h3 : ((a1 + 1) = (a3 : Int))) : (((9 - a3) : Int).toNat < (k2 : Nat)) := by omega
theorem ow_82_59 {a0 a1 : Int} (h0 : ((0 ≤ (a0 : Int)) ∧ (a0 ≤ (720000000 : Int)))) (h1 : ((0 ≤ (a1 : Int)) ∧ (a1 ≤ (80000000 : Int)))) : (0 ≤ ((a0 + a1) : Int)) := by omega
theorem ow_82_60 {a0 a1 : Int} (h0 : ((0 ≤ (a0 : Int)) ∧ (a0 ≤ (9 : Int)))) (h1 : ((a0 + 1) = (a1 : Int))) : ((((a0 : Int).toNat : Nat) : Int) < (a1 : Int)) := by omega
theorem ow_82_61 {a0 a1 : Int} (h0 : (1 ≤ ((a0 + a1) : Int))) (h1 : ¬((1 ≤ (a1 : Int)))) : (1 ≤ (a0 : Int)) := by omega
theorem ow_82_62 {a0 a1 : Int} {k2 : Nat} (h0 : ((a0 + 1) = (a1 : Int))) (h1 : (((k2 : Nat) : Int) < (a0 : Int))) : (((k2 : Nat) : Int) < (a1 : Int)) := by omega
theorem ow_82_63 {a1 : Int} {k0 : Nat} (h0 : (((k0 : Nat) : Int) < (a1 : Int))) : (k0 ≠ ((a1 : Int).toNat : Nat)) := by omega
theorem ow_82_64 {a0 a1 a2 : Int} (h0 : (a0 < (a1 : Int))) (h1 : ((a0 + 1) = (a2 : Int))) : (a2 ≤ (a1 : Int)) := by omega
theorem ow_82_65 : (0 ≤ ((80000000 * 0) : Int)) := by omega
theorem ow_82_66 : ¬((1 ≤ (0 : Int))) := by omega
theorem ow_82_67 {a0 : Int} (h0 : ((0 ≤ (a0 : Int)) ∧ (a0 ≤ (80000000 : Int)))) : (0 ≤ (a0 : Int)) := by omega
theorem ow_82_68 {a0 : Int} (h0 : ((0 ≤ (a0 : Int)) ∧ (a0 ≤ (13851 : Int)))) : (0 ≤ (a0 : Int)) := by omega
theorem ow_82_69 {a0 : Int} (h0 : ((0 ≤ (a0 : Int)) ∧ (a0 ≤ (80000000 : Int)))) : (a0 ≤ (80000000 : Int)) := by omega
theorem ow_82_70 {a0 : Int} (h0 : ((0 ≤ (a0 : Int)) ∧ (a0 ≤ (13851 : Int)))) : (a0 ≤ (13851 : Int)) := by omega
theorem ow_82_71 {a0 : Int} (h0 : ((0 ≤ (a0 : Int)) ∧ (a0 ≤ (1108080000000 : Int)))) : ((-9223372036854775808) ≤ (a0 : Int)) := by omega
theorem ow_82_72 {a0 : Int} (h0 : ((0 ≤ (a0 : Int)) ∧ (a0 ≤ (1108080000000 : Int)))) : (a0 ≤ (9223372036854775807 : Int)) := by omega
theorem ow_82_73 {a0 : Int} (h0 : (((-9223372036854775808) ≤ (a0 : Int)) ∧ (a0 ≤ (9223372036854775807 : Int)))) : ((-9223372036854775808) ≤ (a0 : Int)) := by omega
theorem ow_82_74 {a0 : Int} (h0 : (((-9223372036854775808) ≤ (a0 : Int)) ∧ (a0 ≤ (9223372036854775807 : Int)))) : (a0 ≤ (9223372036854775807 : Int)) := by omega
theorem ow_82_75 {a0 a1 a2 : Int} (h0 : (((a0 = (1 : Int)) ∧ (a1 < (a2 : Int))) ∨ (((a0 = (0 : Int)) ∧ (a2 = (a1 : Int))) ∨ ((a0 = ((-1) : Int)) ∧ (a2 < (a1 : Int)))))) : ((-2147483648) ≤ (a0 : Int)) := by omega
theorem ow_82_76 {a0 a1 a2 : Int} (h0 : (((a0 = (1 : Int)) ∧ (a1 < (a2 : Int))) ∨ (((a0 = (0 : Int)) ∧ (a2 = (a1 : Int))) ∨ ((a0 = ((-1) : Int)) ∧ (a2 < (a1 : Int)))))) : (a0 ≤ (2147483647 : Int)) := by omega
theorem ow_82_77 {a0 : Int} (h0 : ((0 ≤ (a0 : Int)) ∧ (a0 ≤ (80000000 : Int)))) : ((-9223372036854775808) ≤ (a0 : Int)) := by omega
theorem ow_82_78 {a0 : Int} (h0 : ((0 ≤ (a0 : Int)) ∧ (a0 ≤ (80000000 : Int)))) : (a0 ≤ (9223372036854775807 : Int)) := by omega
theorem ow_82_79 {a0 a1 a2 : Int} (h0 : ((0 ≤ (a0 : Int)) ∧ (a0 ≤ (80000000 : Int)))) (h1 : ((a1 ≤ (a2 : Int)) ∧ ((a0 ≤ (a2 : Int)) ∧ ((a2 = (a1 : Int)) ∨ (a2 = (a0 : Int)))))) : (0 ≤ (a2 : Int)) := by omega
theorem ow_82_80 {a0 a1 a2 : Int} (h0 : ((0 ≤ (a0 : Int)) ∧ (a0 ≤ (80000000 : Int)))) (h1 : ((0 ≤ (a1 : Int)) ∧ (a1 ≤ (80000000 : Int)))) (h2 : ((a0 ≤ (a2 : Int)) ∧ ((a1 ≤ (a2 : Int)) ∧ ((a2 = (a0 : Int)) ∨ (a2 = (a1 : Int)))))) : (a2 ≤ (80000000 : Int)) := by omega
theorem ow_82_81 {a0 : Int} (h0 : ((0 ≤ (a0 : Int)) ∧ (a0 ≤ (1539 : Int)))) : ((-9223372036854775808) ≤ (a0 : Int)) := by omega
theorem ow_82_82 {a0 : Int} (h0 : ((0 ≤ (a0 : Int)) ∧ (a0 ≤ (1539 : Int)))) : (a0 ≤ (9223372036854775807 : Int)) := by omega
theorem ow_82_83 {a0 a1 a2 : Int} (h0 : ((0 ≤ (a0 : Int)) ∧ (a0 ≤ (1539 : Int)))) (h1 : ((a0 ≤ (a1 : Int)) ∧ ((a2 ≤ (a1 : Int)) ∧ ((a1 = (a0 : Int)) ∨ (a1 = (a2 : Int)))))) : (0 ≤ (a1 : Int)) := by omega
theorem ow_82_84 {a0 a1 a2 : Int} (h0 : ((0 ≤ (a0 : Int)) ∧ (a0 ≤ (1539 : Int)))) (h1 : ((0 ≤ (a1 : Int)) ∧ (a1 ≤ (1539 : Int)))) (h2 : ((a0 ≤ (a2 : Int)) ∧ ((a1 ≤ (a2 : Int)) ∧ ((a2 = (a0 : Int)) ∨ (a2 = (a1 : Int)))))) : (a2 ≤ (1539 : Int)) := by omega
theorem ow_82_85 {a0 a1 a2 : Int} (h0 : ((0 ≤ (a0 : Int)) ∧ ((a0 ≤ (80000000 : Int)) ∧ ((a1 ≤ (a0 : Int)) ∧ (a2 ≤ (a0 : Int)))))) : (0 ≤ (a0 : Int)) := by omega
theorem ow_82_86 {a0 a1 a2 : Int} (h0 : ((0 ≤ (a0 : Int)) ∧ ((a0 ≤ (80000000 : Int)) ∧ ((a1 ≤ (a0 : Int)) ∧ (a2 ≤ (a0 : Int)))))) : (a0 ≤ (80000000 : Int)) := by omega
theorem ow_82_87 {a0 a1 a2 : Int} (h0 : ((0 ≤ (a0 : Int)) ∧ ((a0 ≤ (1539 : Int)) ∧ ((a1 ≤ (a0 : Int)) ∧ (a2 ≤ (a0 : Int)))))) : (0 ≤ (a0 : Int)) := by omega
theorem ow_82_88 {a0 a1 a2 : Int} (h0 : ((0 ≤ (a0 : Int)) ∧ ((a0 ≤ (1539 : Int)) ∧ ((a1 ≤ (a0 : Int)) ∧ (a2 ≤ (a0 : Int)))))) : (a0 ≤ (1539 : Int)) := by omega
theorem ow_82_89 {a0 : Int} (h0 : ((0 ≤ (a0 : Int)) ∧ (a0 ≤ (8 : Int)))) : (a0 ≤ (8 : Int)) := by omega
theorem ow_82_90 {a0 a1 : Int} (h0 : ((0 ≤ (a0 : Int)) ∧ ((a0 ≤ (99 : Int)) ∧ (a0 = (a1 : Int))))) : (0 ≤ (a0 : Int)) := by omega
theorem ow_82_91 {a0 : Int} (h0 : ((1 ≤ (a0 : Int)) ∧ (a0 ≤ (171 : Int)))) : (0 ≤ (a0 : Int)) := by omega
theorem ow_82_92 {a0 a1 : Int} (h0 : ((0 ≤ (a0 : Int)) ∧ ((a0 ≤ (99 : Int)) ∧ (a0 = (a1 : Int))))) : (a0 ≤ (99 : Int)) := by omega
theorem ow_82_93 {a0 : Int} (h0 : ((1 ≤ (a0 : Int)) ∧ (a0 ≤ (171 : Int)))) : (a0 ≤ (171 : Int)) := by omega
theorem ow_82_94 {a0 a1 : Int} (h0 : ((0 ≤ (a0 : Int)) ∧ (a0 ≤ (16929 : Int)))) (h1 : ((0 ≤ (a1 : Int)) ∧ (a1 ≤ (16929 : Int)))) : (0 ≤ ((a0 + a1) : Int)) := by omega
theorem ow_82_95 {a0 a1 : Int} (h0 : ((0 ≤ (a0 : Int)) ∧ (a0 ≤ (16929 : Int)))) (h1 : ((0 ≤ (a1 : Int)) ∧ (a1 ≤ (16929 : Int)))) : ((-2147483648) ≤ ((a0 + a1) : Int)) := by omega
theorem ow_82_96 {a0 a1 : Int} (h0 : ((0 ≤ (a0 : Int)) ∧ (a0 ≤ (16929 : Int)))) (h1 : ((0 ≤ (a1 : Int)) ∧ (a1 ≤ (16929 : Int)))) : ((a0 + a1) ≤ (2147483647 : Int)) := by omega
theorem ow_82_97 {a0 a1 : Int} (h0 : ((1 ≤ (a0 : Int)) ∧ (a0 ≤ (171 : Int)))) (h1 : ((1 ≤ (a1 : Int)) ∧ (a1 ≤ (171 : Int)))) : (0 < ((a0 + a1) : Int)) := by omega
theorem ow_82_98 {a0 a1 : Int} (h0 : ((1 ≤ (a0 : Int)) ∧ (a0 ≤ (171 : Int)))) (h1 : ((1 ≤ (a1 : Int)) ∧ (a1 ≤ (171 : Int)))) : ((-2147483648) ≤ ((a0 + a1) : Int)) := by omega
theorem ow_82_99 {a0 a1 : Int} (h0 : ((1 ≤ (a0 : Int)) ∧ (a0 ≤ (171 : Int)))) (h1 : ((1 ≤ (a1 : Int)) ∧ (a1 ≤ (171 : Int)))) : ((a0 + a1) ≤ (2147483647 : Int)) := by omega
theorem ow_82_100 {a0 a1 a2 a3 : Int} (h0 : (a0 = (a1 : Int))) (h1 : ((2 ≤ (a1 : Int)) ∧ (a1 ≤ (9 : Int)))) (h2 : ((a2 = (0 : Int)) ∨ (a2 < (a3 : Int)))) (h3 : (a3 ≤ (a0 : Int))) : ((((a2 : Int).toNat : Nat) : Int) < (a1 : Int)) := by omega
theorem ow_82_101 {a0 a1 a2 a3 a4 : Int} (h0 : (a0 = (a1 : Int))) (h1 : ((2 ≤ (a1 : Int)) ∧ (a1 ≤ (9 : Int)))) (h2 : ((a2 = (0 : Int)) ∨ (a2 < (a3 : Int)))) (h3 : (a3 ≤ (a0 : Int))) (h4 : (a1 ≤ (a4 : Int))) : (a2 < (a4 : Int)) := by omega
theorem ow_82_102 {a0 : Int} (h0 : ((0 ≤ (a0 : Int)) ∧ (a0 ≤ (8 : Int)))) : ((-2147483648) ≤ (a0 : Int)) := by omega
theorem ow_82_103 {a0 : Int} (h0 : ((0 ≤ (a0 : Int)) ∧ (a0 ≤ (8 : Int)))) : (a0 ≤ (2147483647 : Int)) := by omega
theorem ow_82_104 {a0 a1 : Int} (h0 : ¬((a0 = (a1 : Int)))) (h1 : (a1 = (a0 : Int))) : (1 ≤ (0 : Int)) := by omega
theorem ow_82_105 {a0 a1 a2 : Int} (h0 : ¬((a0 = (a1 : Int)))) (h1 : ((a0 + 1) = (a2 : Int))) (h2 : (a1 < (a2 : Int))) : (a1 < (a0 : Int)) := by omega
theorem ow_82_106 : (1 ≤ (1 : Int)) := by omega
theorem ow_82_107 {a0 a1 : Int} (h0 : (a0 = (a1 : Int))) (h1 : (a1 ≠ (a0 : Int))) : (a1 < (a0 : Int)) := by omega
theorem ow_82_108 {a0 a1 : Int} (h0 : ((2 ≤ (a0 : Int)) ∧ (a0 ≤ (9 : Int)))) (h1 : (a1 < (a0 : Int))) : (a1 ≤ (8 : Int)) := by omega
theorem ow_82_109 {a0 a1 a2 a3 a4 : Int} (h0 : ((0 ≤ (a0 : Int)) ∧ (a0 ≤ (16929 : Int)))) (h1 : ((0 ≤ (a1 : Int)) ∧ (a1 ≤ (16929 : Int)))) (h2 : ((0 ≤ (a2 : Int)) ∧ (a2 ≤ ((a0 + a1) : Int)))) (h3 : ((0 ≤ (a3 : Int)) ∧ ((a3 ≤ (99 : Int)) ∧ (a3 = (a4 : Int))))) : ((-2147483647) ≤ ((a3 - a2) : Int)) := by omega
theorem ow_82_110 {a0 a1 a2 a3 a4 : Int} (h0 : ((0 ≤ (a0 : Int)) ∧ (a0 ≤ ((a1 + a2) : Int)))) (h1 : ((0 ≤ (a3 : Int)) ∧ ((a3 ≤ (99 : Int)) ∧ (a3 = (a4 : Int))))) : ((a3 - a0) ≤ (2147483647 : Int)) := by omega
theorem ow_82_111 {a0 a1 a2 a3 : Int} (h0 : ((0 ≤ (a0 : Int)) ∧ ((a0 ≤ (99 : Int)) ∧ (a0 = (a1 : Int))))) (h1 : ((0 ≤ (a2 : Int)) ∧ ((a2 ≤ (99 : Int)) ∧ (a2 = (a3 : Int))))) : ((-2147483647) ≤ ((a0 - a2) : Int)) := by omega
theorem ow_82_112 {a0 a1 a2 a3 : Int} (h0 : ((0 ≤ (a0 : Int)) ∧ ((a0 ≤ (99 : Int)) ∧ (a0 = (a1 : Int))))) (h1 : ((0 ≤ (a2 : Int)) ∧ ((a2 ≤ (99 : Int)) ∧ (a2 = (a3 : Int))))) : ((a0 - a2) ≤ (2147483647 : Int)) := by omega
theorem ow_82_113 {a0 a1 a2 a3 a4 a5 : Int} (h0 : ((0 ≤ (a0 : Int)) ∧ ((a0 ≤ (2147483647 : Int)) ∧ (((0 ≤ ((a1 - a2) : Int)) → (a0 = ((a1 - a2) : Int))) ∧ (((a1 - a2) < (0 : Int)) → (a0 = ((-(a1 - a2)) : Int))))))) (h1 : ((0 ≤ (a3 : Int)) ∧ ((a3 ≤ (2147483647 : Int)) ∧ (((0 ≤ ((a4 - a5) : Int)) → (a3 = ((a4 - a5) : Int))) ∧ (((a4 - a5) < (0 : Int)) → (a3 = ((-(a4 - a5)) : Int))))))) : ((-2147483648) ≤ ((a0 + a3) : Int)) := by omega
theorem ow_82_114 {a0 a1 a2 a3 a4 a5 a6 a7 a8 a9 a10 : Int} (h0 : ((0 ≤ (a0 : Int)) ∧ (a0 ≤ (16929 : Int)))) (h1 : ((0 ≤ (a1 : Int)) ∧ (a1 ≤ (16929 : Int)))) (h2 : ((0 ≤ (a2 : Int)) ∧ (a2 ≤ ((a0 + a1) : Int)))) (h3 : ((0 ≤ (a3 : Int)) ∧ ((a3 ≤ (99 : Int)) ∧ (a3 = (a4 : Int))))) (h4 : ((0 ≤ (a5 : Int)) ∧ ((a5 ≤ (2147483647 : Int)) ∧ (((0 ≤ ((a3 - a2) : Int)) → (a5 = ((a3 - a2) : Int))) ∧ (((a3 - a2) < (0 : Int)) → (a5 = ((-(a3 - a2)) : Int))))))) (h5 : ((0 ≤ (a6 : Int)) ∧ ((a6 ≤ (99 : Int)) ∧ (a6 = (a7 : Int))))) (h6 : ((0 ≤ (a8 : Int)) ∧ ((a8 ≤ (99 : Int)) ∧ (a8 = (a9 : Int))))) (h7 : ((0 ≤ (a10 : Int)) ∧ ((a10 ≤ (2147483647 : Int)) ∧ (((0 ≤ ((a6 - a8) : Int)) → (a10 = ((a6 - a8) : Int))) ∧ (((a6 - a8) < (0 : Int)) → (a10 = ((-(a6 - a8)) : Int))))))) : ((a5 + a10) ≤ (2147483647 : Int)) := by omega
theorem ow_82_115 {a0 : Int} (h0 : ((0 ≤ (a0 : Int)) ∧ (a0 ≤ (1000 : Int)))) : ((-2147483648) ≤ (a0 : Int)) := by omega
theorem ow_82_116 {a0 : Int} (h0 : ((0 ≤ (a0 : Int)) ∧ (a0 ≤ (1000 : Int)))) : (a0 ≤ (2147483647 : Int)) := by omega
theorem ow_82_117 {a0 a1 a2 a3 a4 a5 : Int} (h0 : ((0 ≤ (a0 : Int)) ∧ ((a0 ≤ (2147483647 : Int)) ∧ (((0 ≤ ((a1 - a2) : Int)) → (a0 = ((a1 - a2) : Int))) ∧ (((a1 - a2) < (0 : Int)) → (a0 = ((-(a1 - a2)) : Int))))))) (h1 : ((0 ≤ (a3 : Int)) ∧ ((a3 ≤ (2147483647 : Int)) ∧ (((0 ≤ ((a4 - a5) : Int)) → (a3 = ((a4 - a5) : Int))) ∧ (((a4 - a5) < (0 : Int)) → (a3 = ((-(a4 - a5)) : Int))))))) : (0 ≤ ((a0 + a3) : Int)) := by omega
theorem ow_82_118 {a0 a1 a2 : Int} (h0 : ((0 ≤ (a0 : Int)) ∧ (a0 ≤ (1000 : Int)))) (h1 : ((a1 + a2) < (a0 : Int))) : ((a1 + a2) ≤ (1000 : Int)) := by omega
theorem ow_82_119 {a0 a1 : Int} (h0 : ((a0 + 1) = (a1 : Int))) : ((a0 = (0 : Int)) ∨ (a0 < (a1 : Int))) := by omega
theorem ow_82_120 {a0 a1 a2 a3 : Int} (h0 : (a0 = (a1 : Int))) (h1 : (a2 < (a1 : Int))) (h2 : ((a2 + 1) = (a3 : Int))) : (a3 ≤ (a0 : Int)) := by omega
theorem ow_82_121 {a0 : Int} (h0 : ((0 ≤ (a0 : Int)) ∧ (a0 ≤ (1000 : Int)))) : (0 ≤ (a0 : Int)) := by omega
theorem ow_82_122 {a0 : Int} (h0 : ((0 ≤ (a0 : Int)) ∧ (a0 ≤ (1000 : Int)))) : (a0 ≤ (1000 : Int)) := by omega
theorem ow_82_123 {a0 a1 a2 : Int} (h0 : ((0 ≤ (a0 : Int)) ∧ (a0 ≤ (8 : Int)))) (h1 : ((a0 = (0 : Int)) ∨ (a0 < (a1 : Int)))) (h2 : ((a1 + 1) = (a2 : Int))) : ((a0 = (0 : Int)) ∨ (a0 < (a2 : Int))) := by omega
theorem ow_82_124 : ((0 = (0 : Int)) ∨ (0 < (0 : Int))) := by omega
theorem ow_82_125 {a0 a1 : Int} (h0 : (a0 = (a1 : Int))) (h1 : ((2 ≤ (a1 : Int)) ∧ (a1 ≤ (9 : Int)))) : (0 ≤ (a0 : Int)) := by omega
noncomputable def F_X12_takesVoice (V0 : pm_M) : Int × pm_M := pf_let (V0 90 48) fun y1 => pf_val ((0 : Int), V0) (fun (q : Int × pm_M) => match q with | (x4, V6) => (pf_let (V6 90 16) fun y19 => (if y19 ≤ x4 then ((.inr (0, V6))) else (pf_let (V6 110 (x4 : Int).toNat) fun y26 => pf_let (x4 + 1) fun x31 => (.inl (x31, (pm_up V6 112 (x4 : Int).toNat y26))))))) (0, V0)
theorem F_X12_takesVoice_eq (V0 : pm_M) : F_X12_takesVoice V0 = pf_let (V0 90 48) fun y1 => pf_val ((0 : Int), V0) (fun (q : Int × pm_M) => match q with | (x4, V6) => (pf_let (V6 90 16) fun y19 => (if y19 ≤ x4 then ((.inr (0, V6))) else (pf_let (V6 110 (x4 : Int).toNat) fun y26 => pf_let (x4 + 1) fun x31 => (.inl (x31, (pm_up V6 112 (x4 : Int).toNat y26))))))) (0, V0) := rfl
noncomputable def F_X12_takesFace (V0 : pm_M) : Int × pm_M := pf_let (V0 90 49) fun y1 => pf_val ((0 : Int), V0) (fun (q : Int × pm_M) => match q with | (x4, V6) => (pf_let (V6 90 16) fun y20 => (if y20 ≤ x4 then ((.inr (0, V6))) else (pf_let (V6 97 (((3 * x4) + 2) : Int).toNat) fun y27 => pf_let (V6 111 (x4 : Int).toNat) fun y31 => pf_let ((y27 * y31)) fun y34 => pf_let (x4 + 1) fun x38 => (.inl (x38, (pm_up V6 112 (x4 : Int).toNat y34))))))) (0, V0)
theorem F_X12_takesFace_eq (V0 : pm_M) : F_X12_takesFace V0 = pf_let (V0 90 49) fun y1 => pf_val ((0 : Int), V0) (fun (q : Int × pm_M) => match q with | (x4, V6) => (pf_let (V6 90 16) fun y20 => (if y20 ≤ x4 then ((.inr (0, V6))) else (pf_let (V6 97 (((3 * x4) + 2) : Int).toNat) fun y27 => pf_let (V6 111 (x4 : Int).toNat) fun y31 => pf_let ((y27 * y31)) fun y34 => pf_let (x4 + 1) fun x38 => (.inl (x38, (pm_up V6 112 (x4 : Int).toNat y34))))))) (0, V0) := rfl
noncomputable def F_X12_takesOdds (V0 : pm_M) : Int × pm_M := pf_let (V0 90 16) fun y1 => pf_val ((0 : Int), V0) (fun (q : Int × Int × pm_M) => match q with | (x4, x6, V9) => ((if y1 ≤ x6 then (pf_let (pm_cmp x4 0) fun y24 => (if ¬ (y24 = 0) then ((.inr (0, V9))) else (pf_call (F_X12_takesVoice  V9) fun _ V28 => (.inr (0, V28))))) else (pf_let (V9 90 47) fun y38 => pf_let ((y38 * y1)) fun y41 => pf_let (V9 110 (x6 : Int).toNat) fun y44 => pf_let ((y41 * y44)) fun y47 => pf_let (V9 111 (x6 : Int).toNat) fun y50 => pf_let ((y47 * y50)) fun y53 => pf_let (V9 90 45) fun y55 => pf_let (((16 - y38) * y55)) fun y58 => pf_let ((y58 * y44)) fun y60 => pf_let ((pm_up V9 112 (x6 : Int).toNat (y53 + y60))) fun V62 => pf_let (V62 112 (x6 : Int).toNat) fun y73 => pf_let (x6 + 1) fun x76 => (.inl ((x4 + y73), x76, V62)))))) (0, 0, V0)
theorem F_X12_takesOdds_eq (V0 : pm_M) : F_X12_takesOdds V0 = pf_let (V0 90 16) fun y1 => pf_val ((0 : Int), V0) (fun (q : Int × Int × pm_M) => match q with | (x4, x6, V9) => ((if y1 ≤ x6 then (pf_let (pm_cmp x4 0) fun y24 => (if ¬ (y24 = 0) then ((.inr (0, V9))) else (pf_call (F_X12_takesVoice  V9) fun _ V28 => (.inr (0, V28))))) else (pf_let (V9 90 47) fun y38 => pf_let ((y38 * y1)) fun y41 => pf_let (V9 110 (x6 : Int).toNat) fun y44 => pf_let ((y41 * y44)) fun y47 => pf_let (V9 111 (x6 : Int).toNat) fun y50 => pf_let ((y47 * y50)) fun y53 => pf_let (V9 90 45) fun y55 => pf_let (((16 - y38) * y55)) fun y58 => pf_let ((y58 * y44)) fun y60 => pf_let ((pm_up V9 112 (x6 : Int).toNat (y53 + y60))) fun V62 => pf_let (V62 112 (x6 : Int).toNat) fun y73 => pf_let (x6 + 1) fun x76 => (.inl ((x4 + y73), x76, V62)))))) (0, 0, V0) := rfl
noncomputable def F_X12_takesSurer (V0 : pm_M) : Int × pm_M := pf_call (F_X12_takesFace  V0) fun _ V2 => pf_val ((0 : Int), V0) (fun (q : Int × Int × Int × Int) => match q with | (x11, x13, x15, x17) => (pf_let (V2 90 16) fun y26 => (if y26 ≤ x17 then (pf_let (V2 90 44) fun y30 => pf_let ((x11 * y30)) fun y33 => pf_let (pm_w64 (x15 * x13)) fun y35 => pf_let (pm_cmp y33 y35) fun y38 => (if 0 < y38 then ((.inr (0, V2))) else (pf_call (F_X12_takesVoice  V2) fun _ V42 => (.inr (0, V42))))) else (pf_let (V2 112 (x17 : Int).toNat) fun y54 => pf_let (pm_mx x11 y54) fun y57 => pf_let (pm_w64 (x13 + y54)) fun y60 => pf_let (V2 110 (x17 : Int).toNat) fun y64 => pf_let (pm_mx x15 y64) fun y67 => pf_let (x17 + 1) fun x70 => (.inl (y57, y60, y67, x70)))))) (0, 0, 0, 0)
theorem F_X12_takesSurer_eq (V0 : pm_M) : F_X12_takesSurer V0 = pf_call (F_X12_takesFace  V0) fun _ V2 => pf_val ((0 : Int), V0) (fun (q : Int × Int × Int × Int) => match q with | (x11, x13, x15, x17) => (pf_let (V2 90 16) fun y26 => (if y26 ≤ x17 then (pf_let (V2 90 44) fun y30 => pf_let ((x11 * y30)) fun y33 => pf_let (pm_w64 (x15 * x13)) fun y35 => pf_let (pm_cmp y33 y35) fun y38 => (if 0 < y38 then ((.inr (0, V2))) else (pf_call (F_X12_takesVoice  V2) fun _ V42 => (.inr (0, V42))))) else (pf_let (V2 112 (x17 : Int).toNat) fun y54 => pf_let (pm_mx x11 y54) fun y57 => pf_let (pm_w64 (x13 + y54)) fun y60 => pf_let (V2 110 (x17 : Int).toNat) fun y64 => pf_let (pm_mx x15 y64) fun y67 => pf_let (x17 + 1) fun x70 => (.inl (y57, y60, y67, x70)))))) (0, 0, 0, 0) := rfl
noncomputable def F_X12_takesBetween (V0 : pm_M) : Int × pm_M := pf_let (V0 90 42) fun z0 => pf_let (V0 90 43) fun z1 => pf_let (V0 90 16) fun y1 => pf_let (V0 90 48) fun y4 => pf_call (F_X12_x y4 V0) fun y10 _ => pf_let ((y10 * z1)) fun y13 => pf_let (V0 90 49) fun y15 => pf_call (F_X12_x y15 V0) fun y21 _ => pf_let ((y21 * z0)) fun y24 => pf_let (((y13 + y24) / (z0 + z1))) fun y26 => pf_val ((0 : Int), V0) (fun (q : Int × Int × Int) => match q with | (x28, x30, x32) => ((if y1 ≤ x32 then (pf_val (.inr ((0 : Int), V0)) (fun (q : Int × pm_M) => match q with | (x44, V46) => ((if y1 ≤ x44 then ((.inr (.inr (0, V46)))) else ((if ¬ (x44 = x28) then (pf_let (x44 + 1) fun x66 => (.inl (x66, (pm_up V46 112 (x44 : Int).toNat 0)))) else (pf_let (x44 + 1) fun x68 => (.inl (x68, (pm_up V46 112 (x44 : Int).toNat 1))))))))) (0, V0)) else (pf_call (F_X12_x x32 V0) fun y73 _ => pf_call (F_X12_far (y73 - y26) V0) fun y79 _ => pf_call (F_X12_y x32 V0) fun y85 _ => pf_call (F_X12_y y4 V0) fun y91 _ => pf_call (F_X12_far (y85 - y91) V0) fun y97 _ => (if (y79 + y97) < x30 then (pf_let (x32 + 1) fun x101 => (.inl (x32, (y79 + y97), x101))) else (pf_let (x32 + 1) fun x103 => (.inl (x28, x30, x103)))))))) (0, 1000, 0)
theorem F_X12_takesBetween_eq (V0 : pm_M) : F_X12_takesBetween V0 = pf_let (V0 90 42) fun z0 => pf_let (V0 90 43) fun z1 => pf_let (V0 90 16) fun y1 => pf_let (V0 90 48) fun y4 => pf_call (F_X12_x y4 V0) fun y10 _ => pf_let ((y10 * z1)) fun y13 => pf_let (V0 90 49) fun y15 => pf_call (F_X12_x y15 V0) fun y21 _ => pf_let ((y21 * z0)) fun y24 => pf_let (((y13 + y24) / (z0 + z1))) fun y26 => pf_val ((0 : Int), V0) (fun (q : Int × Int × Int) => match q with | (x28, x30, x32) => ((if y1 ≤ x32 then (pf_val (.inr ((0 : Int), V0)) (fun (q : Int × pm_M) => match q with | (x44, V46) => ((if y1 ≤ x44 then ((.inr (.inr (0, V46)))) else ((if ¬ (x44 = x28) then (pf_let (x44 + 1) fun x66 => (.inl (x66, (pm_up V46 112 (x44 : Int).toNat 0)))) else (pf_let (x44 + 1) fun x68 => (.inl (x68, (pm_up V46 112 (x44 : Int).toNat 1))))))))) (0, V0)) else (pf_call (F_X12_x x32 V0) fun y73 _ => pf_call (F_X12_far (y73 - y26) V0) fun y79 _ => pf_call (F_X12_y x32 V0) fun y85 _ => pf_call (F_X12_y y4 V0) fun y91 _ => pf_call (F_X12_far (y85 - y91) V0) fun y97 _ => (if (y79 + y97) < x30 then (pf_let (x32 + 1) fun x101 => (.inl (x32, (y79 + y97), x101))) else (pf_let (x32 + 1) fun x103 => (.inl (x28, x30, x103)))))))) (0, 1000, 0) := rfl
set_option maxHeartbeats 4000000 in
set_option maxRecDepth 100000 in
theorem fB_X12_takesVoice  : pm_K 1 yX12_takesVoice cX12_takesVoice 2 none (fun av V => av = [(3, 90)] ∧ pm_oq pm_qB V ∧ pm_w1 V) (fun _ V r V' => r = none ∧ pm_oq pm_qB V' ∧ pm_fs [112] [] V V' ∧ pm_pos V' ∧ F_X12_takesVoice  V = (0, V')) := by
  refine pm_MT.of (by decide) ⟨Nat.le_refl _, by decide⟩ (fun av V h => by rw [h.1]; exact (by decide : pm_words [(3, 0)] ≤ 2)) ?_
  rintro X av V0 hC - hR ⟨rfl, hV0, hn_pm_w1⟩
  change pm_J X 0 [(0, (3, 90))] [] 118 V0
  have hT := F_X12_takesVoice_eq  V0
  obtain ⟨y1, e2⟩ : ∃ y, V0 90 48 = y := ⟨_, rfl⟩
  have b3 := hV0.get 90 48 (lo := 0) (hi := 8) (by decide) (by decide) rfl
  rw [e2] at b3
  replace hT := hT.trans (pf_let_eq e2)
  refine pm_iconst (v := 0) hC dX12_takesVoice_0 ?_
  refine pm_istore_n (lv' := [(1, (0, 0)), (0, (3, 90))]) hC dX12_takesVoice_1 (by decide) rfl ?_
  obtain ⟨B12, hB13, hT⟩ := pf_loop hT
  have L15 : ∀ (N17 : Nat) (x4 : Int) (V6 : pm_M), (0 ≤ x4 ∧ x4 ≤ 9) → pm_oq pm_qB V6 → pm_fs [112] [] V0 V6 → V6 90 48 = y1 → pm_w1 V6 → (y1 < x4 → 1 ≤ V6 112 (y1).toNat) → F_X12_takesVoice  V0 = pf_val ((0 : Int), V0) B12 (x4, V6) → (Int.toNat (9 - x4)) = N17 → pm_J X 2 [(0, (3, 90)), (1, (0, x4))] [] 118 V6 := by
    intro N17
    induction N17 using Nat.strongRecOn with
    | _ N17 ih18 =>
    intro x4 V6 b5 hV7 hF8 e9 hp10 hx11 hT hm16
    have hb14 := congrFun hB13 (x4, V6)
    refine pm_iload_n hC 1 dX12_takesVoice_2 rfl ?_
    refine pm_aload_n hC 0 (by decide) dX12_takesVoice_3 rfl ?_
    obtain ⟨y19, e20⟩ : ∃ y, V6 90 16 = y := ⟨_, rfl⟩
    have b21 := hV7.get 90 16 (lo := 2) (hi := 9) (by decide) (by decide) rfl
    rw [e20] at b21
    replace hb14 := hb14.trans (pf_let_eq e20)
    refine pm_getf (v := y19) hC 90 fl_X12_220 rfl rfl (by decide) rfl e20 dX12_takesVoice_4 ?_
    refine pm_icmp_ge (tgt := 29) hC ⟨by exact ow_82_0 b5, by exact ow_82_1 b5⟩ ⟨by exact ow_82_2 b21, by exact ow_82_3 b21⟩ dX12_takesVoice_7 (by decide) (fun c22 => ?_) (fun c22 => ?_)
    · skip
      replace hb14 := hb14.trans (if_pos c22)
      replace hT := hT.trans (pf_val_inr hb14)
      exact pm_vret hC hR ⟨rfl, hV7, hF8, ⟨(y1).toNat, by (have hw23 := hp10; unfold pm_w1 at hw23; rw [e9] at hw23; rw [e20] at hw23); rw [e20]; exact ow_82_4 b21 hw23, hx11 (by (have hw23 := hp10; unfold pm_w1 at hw23; rw [e9] at hw23; rw [e20] at hw23); exact ow_82_5 c22 hw23)⟩, hT⟩ dX12_takesVoice_29
    · skip
      replace hb14 := hb14.trans (if_neg (Int.not_le.mpr c22))
      refine pm_aload_n hC 0 (by decide) dX12_takesVoice_10 rfl ?_
      have e24 : V6 90 50 = 112 := hV7.one 90 50 (by decide) (by decide) rfl
      refine pm_getf (v := 112) hC 90 fl_X12_76 rfl rfl (by decide) rfl e24 dX12_takesVoice_11 ?_
      refine pm_iload_n hC 1 dX12_takesVoice_14 rfl ?_
      refine pm_aload_n hC 0 (by decide) dX12_takesVoice_15 rfl ?_
      have e25 : V6 90 40 = 110 := hV7.one 90 40 (by decide) (by decide) rfl
      refine pm_getf (v := 110) hC 90 fl_X12_70 rfl rfl (by decide) rfl e25 dX12_takesVoice_16 ?_
      refine pm_iload_n hC 1 dX12_takesVoice_19 rfl ?_
      obtain ⟨y26, e27⟩ : ∃ y, V6 110 (x4 : Int).toNat = y := ⟨_, rfl⟩
      replace hb14 := hb14.trans (pf_let_eq e27)
      have b28 := hV7.get 110 (x4 : Int).toNat (lo := 0) (hi := 1539) (t := 0) (by decide) (show _ < 9 by exact ow_82_6 b21 c22) rfl
      rw [e27] at b28
      refine pm_iaload (len := 9) (v := y26) hC 110 rfl rfl (by decide) ⟨by exact ow_82_7 b5, by exact ow_82_8 b21 c22⟩ (by decide) e27 dX12_takesVoice_20 ?_
      refine pm_i2l hC ⟨by exact ow_82_9 b28, by exact ow_82_10 b28⟩ dX12_takesVoice_21 ?_
      have hv29 : y1 = x4 → 1 ≤ y26 := by
        intro hq
        have q1 : V6 110 (x4).toNat = V6 110 (y1).toNat := by rw [hq]
        have hw30 := hp10
        unfold pm_w1 at hw30
        rw [e9] at hw30
        rw [e20] at hw30
        exact ow_82_11 e27 q1 hw30
      refine pm_lastore (len := 9) hC 112 rfl rfl (by decide) ⟨by exact ow_82_7 b5, by exact ow_82_8 b21 c22⟩ (by decide) dX12_takesVoice_22 ?_
      obtain ⟨x31, ei32⟩ : ∃ y : Int, x4 + 1 = y := ⟨_, rfl⟩
      replace hb14 := hb14.trans (pf_let_eq ei32)
      refine pm_iinc (y := x31) (lv' := [(1, (0, x31)), (0, (3, 90))]) hC 1 dX12_takesVoice_23 (by decide) rfl ei32 rfl ?_
      refine pm_goto (tgt := 2) hC dX12_takesVoice_26 (by decide) ?_
      refine pm_lvsub [1, 0] (lv' := [(0, (3, 90)), (1, (0, x31))]) rfl ?_
      exact ih18 _ (by exact ow_82_12 hm16 b21 c22 ei32) x31 (pm_up V6 112 (x4 : Int).toNat y26) ⟨by exact ow_82_13 b5 ei32, by exact ow_82_14 b21 c22 ei32⟩ (hV7.put 112 (x4 : Int).toNat (x := y26) (lo := 0) (hi := 80000000) rfl ⟨by exact ow_82_15 b28, by exact ow_82_16 b28⟩) (hF8.up 112 (x4 : Int).toNat y26 (by decide) rfl) e9 (pm_w1.fr hp10 rfl rfl rfl rfl rfl) (fun h => pm_up_get (V := V6) (k := 112) (i := x4) (a := y1) (x := y26) (p := fun z => 1 ≤ z) (by exact ow_82_7 b5) (by exact ow_82_17 b3) hv29 (fun hne => hx11 (by exact ow_82_18 ei32 h hne))) (hT.trans (pf_val_inl hb14)) rfl
  refine pm_lvsub [1, 0] (lv' := [(0, (3, 90)), (1, (0, 0))]) rfl ?_
  exact L15 _ 0 V0 ⟨by decide, by decide⟩ hV0 (pm_fs.rf (cs := [112]) (fs := []) (V := V0)) e2 hn_pm_w1 (fun h => absurd h (by exact ow_82_19 b3 h)) hT rfl
set_option maxHeartbeats 4000000 in
set_option maxRecDepth 100000 in
theorem fB_X12_takesFace  : pm_K 1 yX12_takesFace cX12_takesFace 2 none (fun av V => av = [(3, 90)] ∧ pm_oq pm_qB V ∧ pm_w1 V ∧ pm_h1 V) (fun _ V r V' => r = none ∧ pm_oq pm_qB V' ∧ pm_fs [112] [] V V' ∧ pm_pos V' ∧ F_X12_takesFace  V = (0, V')) := by
  refine pm_MT.of (by decide) ⟨Nat.le_refl _, by decide⟩ (fun av V h => by rw [h.1]; exact (by decide : pm_words [(3, 0)] ≤ 2)) ?_
  rintro X av V0 hC - hR ⟨rfl, hV0, hn_pm_w1, hn_pm_h1⟩
  change pm_J X 0 [(0, (3, 90))] [] 118 V0
  have hT := F_X12_takesFace_eq  V0
  obtain ⟨y1, e2⟩ : ∃ y, V0 90 49 = y := ⟨_, rfl⟩
  have b3 := hV0.get 90 49 (lo := 0) (hi := 8) (by decide) (by decide) rfl
  rw [e2] at b3
  replace hT := hT.trans (pf_let_eq e2)
  refine pm_iconst (v := 0) hC dX12_takesFace_0 ?_
  refine pm_istore_n (lv' := [(1, (0, 0)), (0, (3, 90))]) hC dX12_takesFace_1 (by decide) rfl ?_
  obtain ⟨B13, hB14, hT⟩ := pf_loop hT
  have L16 : ∀ (N18 : Nat) (x4 : Int) (V6 : pm_M), (0 ≤ x4 ∧ x4 ≤ 9) → pm_oq pm_qB V6 → pm_fs [112] [] V0 V6 → V6 90 49 = y1 → pm_w1 V6 → pm_h1 V6 → (y1 < x4 → 1 ≤ V6 112 (y1).toNat) → F_X12_takesFace  V0 = pf_val ((0 : Int), V0) B13 (x4, V6) → (Int.toNat (9 - x4)) = N18 → pm_J X 2 [(0, (3, 90)), (1, (0, x4))] [] 118 V6 := by
    intro N18
    induction N18 using Nat.strongRecOn with
    | _ N18 ih19 =>
    intro x4 V6 b5 hV7 hF8 e9 hp10 hp11 hx12 hT hm17
    have hb15 := congrFun hB14 (x4, V6)
    refine pm_iload_n hC 1 dX12_takesFace_2 rfl ?_
    refine pm_aload_n hC 0 (by decide) dX12_takesFace_3 rfl ?_
    obtain ⟨y20, e21⟩ : ∃ y, V6 90 16 = y := ⟨_, rfl⟩
    have b22 := hV7.get 90 16 (lo := 2) (hi := 9) (by decide) (by decide) rfl
    rw [e21] at b22
    replace hb15 := hb15.trans (pf_let_eq e21)
    refine pm_getf (v := y20) hC 90 fl_X12_220 rfl rfl (by decide) rfl e21 dX12_takesFace_4 ?_
    refine pm_icmp_ge (tgt := 41) hC ⟨by exact ow_82_0 b5, by exact ow_82_1 b5⟩ ⟨by exact ow_82_2 b22, by exact ow_82_3 b22⟩ dX12_takesFace_7 (by decide) (fun c23 => ?_) (fun c23 => ?_)
    · skip
      replace hb15 := hb15.trans (if_pos c23)
      replace hT := hT.trans (pf_val_inr hb15)
      exact pm_vret hC hR ⟨rfl, hV7, hF8, ⟨(y1).toNat, by (have hw24 := hp10; unfold pm_w1 at hw24; rw [e9] at hw24; rw [e21] at hw24); rw [e21]; exact ow_82_20 b22 hw24, hx12 (by (have hw24 := hp10; unfold pm_w1 at hw24; rw [e9] at hw24; rw [e21] at hw24); exact ow_82_21 c23 hw24)⟩, hT⟩ dX12_takesFace_41
    · skip
      replace hb15 := hb15.trans (if_neg (Int.not_le.mpr c23))
      refine pm_aload_n hC 0 (by decide) dX12_takesFace_10 rfl ?_
      have e25 : V6 90 50 = 112 := hV7.one 90 50 (by decide) (by decide) rfl
      refine pm_getf (v := 112) hC 90 fl_X12_76 rfl rfl (by decide) rfl e25 dX12_takesFace_11 ?_
      refine pm_iload_n hC 1 dX12_takesFace_14 rfl ?_
      refine pm_aload_n hC 0 (by decide) dX12_takesFace_15 rfl ?_
      have e26 : V6 90 17 = 97 := hV7.one 90 17 (by decide) (by decide) rfl
      refine pm_getf (v := 97) hC 90 fl_X12_31 rfl rfl (by decide) rfl e26 dX12_takesFace_16 ?_
      refine pm_iconst (v := 3) hC dX12_takesFace_19 ?_
      refine pm_iload_n hC 1 dX12_takesFace_20 rfl ?_
      refine pm_imul hC dX12_takesFace_21 ?_
      refine pm_iconst (v := 2) hC dX12_takesFace_22 ?_
      refine pm_iadd hC dX12_takesFace_23 ?_
      obtain ⟨y27, e28⟩ : ∃ y, V6 97 (((3 * x4) + 2) : Int).toNat = y := ⟨_, rfl⟩
      replace hb15 := hb15.trans (pf_let_eq e28)
      have b29 := hV7.get 97 (((3 * x4) + 2) : Int).toNat (lo := 0) (hi := 9) (t := 0) (by decide) (show _ < 27 by exact ow_82_22 b22 c23) ((pm_qe_r (tb := pm_qB) (k := 97) (i := (((3 * x4) + 2) : Int).toNat) (m := 3) (r := 2) (l := [(0, 99, 0), (0, 99, 0), (0, 9, 0)]) rfl rfl (by omega)).trans rfl)
      rw [e28] at b29
      refine pm_iaload (len := 27) (v := y27) hC 97 rfl rfl (by decide) ⟨by exact ow_82_23 b5, by exact ow_82_24 b22 c23⟩ (by decide) e28 dX12_takesFace_24 ?_
      refine pm_i2l hC ⟨by exact ow_82_0 b29, by exact ow_82_1 b29⟩ dX12_takesFace_25 ?_
      refine pm_aload_n hC 0 (by decide) dX12_takesFace_26 rfl ?_
      have e30 : V6 90 41 = 111 := hV7.one 90 41 (by decide) (by decide) rfl
      refine pm_getf (v := 111) hC 90 fl_X12_73 rfl rfl (by decide) rfl e30 dX12_takesFace_27 ?_
      refine pm_iload_n hC 1 dX12_takesFace_30 rfl ?_
      obtain ⟨y31, e32⟩ : ∃ y, V6 111 (x4 : Int).toNat = y := ⟨_, rfl⟩
      replace hb15 := hb15.trans (pf_let_eq e32)
      have b33 := hV7.get 111 (x4 : Int).toNat (lo := 0) (hi := 171) (t := 0) (by decide) (show _ < 9 by exact ow_82_6 b22 c23) rfl
      rw [e32] at b33
      refine pm_iaload (len := 9) (v := y31) hC 111 rfl rfl (by decide) ⟨by exact ow_82_7 b5, by exact ow_82_8 b22 c23⟩ (by decide) e32 dX12_takesFace_31 ?_
      refine pm_i2l hC ⟨by exact ow_82_25 b33, by exact ow_82_26 b33⟩ dX12_takesFace_32 ?_
      refine pm_lmul hC dX12_takesFace_33 ?_
      have b35 : 0 ≤ (y27 * y31) ∧ (y27 * y31) ≤ 1539 := pm_mulb (by exact ow_82_7 b29) (by exact ow_82_27 b33) (show y27 ≤ 9 by exact ow_82_28 b29) (show y31 ≤ 171 by exact ow_82_29 b33) (by decide)
      obtain ⟨y34, hey34⟩ : ∃ z, (y27 * y31) = z := ⟨_, rfl⟩
      rw [hey34] at b35 ⊢
      replace hb15 := hb15.trans (pf_let_eq hey34)
      have hv36 : y1 = x4 → 1 ≤ y34 := by
        intro hq
        have q1 : V6 111 (x4).toNat = V6 111 (y1).toNat := by rw [hq]
        have hw37 := hp10
        unfold pm_w1 at hw37
        rw [e9] at hw37
        rw [e21] at hw37
        have hh := hp11 x4 (by exact ow_82_7 b5) (by exact ow_82_30 e21 c23)
        have hp : 1 ≤ y27 * y31 := pm_mul1 (by exact ow_82_31 e28 hh) (by exact ow_82_32 e32 q1 hw37)
        omega
      refine pm_lastore (len := 9) hC 112 rfl rfl (by decide) ⟨by exact ow_82_7 b5, by exact ow_82_8 b22 c23⟩ (by decide) dX12_takesFace_34 ?_
      obtain ⟨x38, ei39⟩ : ∃ y : Int, x4 + 1 = y := ⟨_, rfl⟩
      replace hb15 := hb15.trans (pf_let_eq ei39)
      refine pm_iinc (y := x38) (lv' := [(1, (0, x38)), (0, (3, 90))]) hC 1 dX12_takesFace_35 (by decide) rfl ei39 rfl ?_
      refine pm_goto (tgt := 2) hC dX12_takesFace_38 (by decide) ?_
      refine pm_lvsub [1, 0] (lv' := [(0, (3, 90)), (1, (0, x38))]) rfl ?_
      exact ih19 _ (by exact ow_82_12 hm17 b22 c23 ei39) x38 (pm_up V6 112 (x4 : Int).toNat y34) ⟨by exact ow_82_13 b5 ei39, by exact ow_82_14 b22 c23 ei39⟩ (hV7.put 112 (x4 : Int).toNat (x := y34) (lo := 0) (hi := 80000000) rfl ⟨by exact ow_82_15 b35, by exact ow_82_16 b35⟩) (hF8.up 112 (x4 : Int).toNat y34 (by decide) rfl) e9 (pm_w1.fr hp10 rfl rfl rfl rfl rfl) (pm_h1.fr hp11 rfl rfl) (fun h => pm_up_get (V := V6) (k := 112) (i := x4) (a := y1) (x := y34) (p := fun z => 1 ≤ z) (by exact ow_82_7 b5) (by exact ow_82_17 b3) hv36 (fun hne => hx12 (by exact ow_82_18 ei39 h hne))) (hT.trans (pf_val_inl hb15)) rfl
  refine pm_lvsub [1, 0] (lv' := [(0, (3, 90)), (1, (0, 0))]) rfl ?_
  exact L16 _ 0 V0 ⟨by decide, by decide⟩ hV0 (pm_fs.rf (cs := [112]) (fs := []) (V := V0)) e2 hn_pm_w1 hn_pm_h1 (fun h => absurd h (by exact ow_82_19 b3 h)) hT rfl
set_option maxHeartbeats 4000000 in
set_option maxRecDepth 100000 in
theorem fB_X12_takesOdds  : pm_K 2 yX12_takesOdds cX12_takesOdds 4 none (fun av V => av = [(3, 90)] ∧ pm_oq pm_qB V ∧ pm_w1 V) (fun _ V r V' => r = none ∧ pm_oq pm_qB V' ∧ pm_fs [112] [] V V' ∧ pm_pos V' ∧ F_X12_takesOdds  V = (0, V')) := by
  refine pm_MT.of (by decide) ⟨Nat.le_refl _, by decide⟩ (fun av V h => by rw [h.1]; exact (by decide : pm_words [(3, 0)] ≤ 4)) ?_
  rintro X av V0 hC - hR ⟨rfl, hV0, hn_pm_w1⟩
  change pm_J X 0 [(0, (3, 90))] [] 118 V0
  have hT := F_X12_takesOdds_eq  V0
  obtain ⟨y1, e2⟩ : ∃ y, V0 90 16 = y := ⟨_, rfl⟩
  have b3 := hV0.get 90 16 (lo := 2) (hi := 9) (by decide) (by decide) rfl
  rw [e2] at b3
  replace hT := hT.trans (pf_let_eq e2)
  refine pm_lconst (x := 0) hC dX12_takesOdds_0 rfl ?_
  refine pm_lstore_n (lv' := [(1, (1, 0)), (0, (3, 90))]) hC dX12_takesOdds_1 (by decide) rfl ?_
  refine pm_iconst (v := 0) hC dX12_takesOdds_2 ?_
  refine pm_istore_n (lv' := [(3, (0, 0)), (1, (1, 0)), (0, (3, 90))]) hC dX12_takesOdds_3 (by decide) rfl ?_
  obtain ⟨B16, hB17, hT⟩ := pf_loop hT
  have L19 : ∀ (N21 : Nat) (x4 : Int) (x6 : Int) (V9 : pm_M), (0 ≤ x4 ∧ x4 ≤ 720000000) → (0 ≤ x6 ∧ x6 ≤ 9) → (x4 ≤ 80000000 * x6) → pm_oq pm_qB V9 → pm_fs [112] [] V0 V9 → V9 90 16 = y1 → pm_w1 V9 → (1 ≤ x4 → ∃ q : Nat, (q : Int) < x6 ∧ 1 ≤ V9 112 q) → (x6 ≤ V9 90 16) → F_X12_takesOdds  V0 = pf_val ((0 : Int), V0) B16 (x4, x6, V9) → (Int.toNat (9 - x6)) = N21 → pm_J X 4 [(0, (3, 90)), (1, (1, x4)), (3, (0, x6))] [] 118 V9 := by
    intro N21
    induction N21 using Nat.strongRecOn with
    | _ N21 ih22 =>
    intro x4 x6 V9 b5 b7 b8 hV10 hF11 e12 hp13 hx14 hx15 hT hm20
    have hb18 := congrFun hB17 (x4, x6, V9)
    refine pm_iload_n hC 2 dX12_takesOdds_4 rfl ?_
    refine pm_aload_n hC 0 (by decide) dX12_takesOdds_5 rfl ?_
    refine pm_getf (v := y1) hC 90 fl_X12_220 rfl rfl (by decide) rfl e12 dX12_takesOdds_6 ?_
    refine pm_icmp_ge (tgt := 82) hC ⟨by exact ow_82_0 b7, by exact ow_82_1 b7⟩ ⟨by exact ow_82_2 b3, by exact ow_82_3 b3⟩ dX12_takesOdds_9 (by decide) (fun c23 => ?_) (fun c23 => ?_)
    · skip
      replace hb18 := hb18.trans (if_pos c23)
      refine pm_lload_n hC 1 dX12_takesOdds_82 rfl ?_
      refine pm_lconst (x := 0) hC dX12_takesOdds_83 rfl ?_
      refine pm_lcmp hC ⟨by exact ow_82_33 b5, by exact ow_82_34 b5⟩ ⟨by decide, by decide⟩ dX12_takesOdds_84 (fun y24 b25 => ?_)
      replace hb18 := hb18.trans (pf_let_eq (pm_cmp_u b25))
      refine pm_if_ne (tgt := 92) hC ⟨by exact ow_82_35 b25, by exact ow_82_36 b25⟩ dX12_takesOdds_85 (by decide) (fun c26 => ?_) (fun c26 => ?_)
      · skip
        replace hb18 := hb18.trans (if_pos c26)
        replace hT := hT.trans (pf_val_inr hb18)
        exact pm_vret hC hR ⟨rfl, hV10, hF11, (by have hle := hx15; obtain ⟨q, hq1, hq2⟩ := hx14 (by exact ow_82_37 b5 b25 c26); exact ⟨q, by exact ow_82_38 hx15 hq1, hq2⟩), hT⟩ dX12_takesOdds_92
      · skip
        replace hb18 := hb18.trans (if_neg (fun q => q c26))
        refine pm_aload_n hC 0 (by decide) dX12_takesOdds_88 rfl ?_
        refine pm_callV (ci := 12) (as := []) (st := []) hC 90 fB_X12_takesVoice lm_X12_344 li_X12_takesVoice (by decide) (by decide) rfl rfl rfl (by decide) rfl rfl (Nat.le_of_ble_eq_true rfl) ⟨Nat.le_refl _, Or.inl rfl⟩ dX12_takesOdds_89 ⟨rfl, hV10, hp13⟩ (fun r27 V28 hp29 => ?_)
        obtain ⟨rfl, hV30, hF31, hg32, hE33⟩ := hp29
        replace hb18 := hb18.trans (pf_call_eq hE33)
        change pm_J X 92 [(0, (3, 90)), (1, (1, x4)), (3, (0, x6))] [] 118 V28
        have hF34 := pm_fs.tr hF11 hF31 (by decide) (by decide)
        have e35 : V28 90 16 = y1 := by rw [hF31.2 16 (by decide)]; exact e12
        have hp36 : pm_w1 V28 := (pm_w1.fr hp13 (hF31.2 16 (by decide)) (hF31.2 48 (by decide)) (hF31.2 49 (by decide)) (hF31.1 110 (by decide) (by decide)) (hF31.1 111 (by decide) (by decide)))
        replace hT := hT.trans (pf_val_inr hb18)
        exact pm_vret hC hR ⟨rfl, hV30, hF34, hg32, hT⟩ dX12_takesOdds_92
    · skip
      replace hb18 := hb18.trans (if_neg (Int.not_le.mpr c23))
      refine pm_aload_n hC 0 (by decide) dX12_takesOdds_12 rfl ?_
      have e37 : V9 90 50 = 112 := hV10.one 90 50 (by decide) (by decide) rfl
      refine pm_getf (v := 112) hC 90 fl_X12_76 rfl rfl (by decide) rfl e37 dX12_takesOdds_13 ?_
      refine pm_iload_n hC 2 dX12_takesOdds_16 rfl ?_
      refine pm_aload_n hC 0 (by decide) dX12_takesOdds_17 rfl ?_
      obtain ⟨y38, e39⟩ : ∃ y, V9 90 47 = y := ⟨_, rfl⟩
      have b40 := hV10.get 90 47 (lo := 0) (hi := 16) (by decide) (by decide) rfl
      rw [e39] at b40
      replace hb18 := hb18.trans (pf_let_eq e39)
      refine pm_getf (v := y38) hC 90 fl_X12_323 rfl rfl (by decide) rfl e39 dX12_takesOdds_18 ?_
      refine pm_i2l hC ⟨by exact ow_82_39 b40, by exact ow_82_40 b40⟩ dX12_takesOdds_21 ?_
      refine pm_aload_n hC 0 (by decide) dX12_takesOdds_22 rfl ?_
      refine pm_getf (v := y1) hC 90 fl_X12_220 rfl rfl (by decide) rfl e12 dX12_takesOdds_23 ?_
      refine pm_i2l hC ⟨by exact ow_82_2 b3, by exact ow_82_3 b3⟩ dX12_takesOdds_26 ?_
      refine pm_lmul hC dX12_takesOdds_27 ?_
      have b42 : 0 ≤ (y38 * y1) ∧ (y38 * y1) ≤ 144 := pm_mulb (by exact ow_82_41 b40) (by exact ow_82_42 b3) (show y38 ≤ 16 by exact ow_82_43 b40) (show y1 ≤ 9 by exact ow_82_44 b3) (by decide)
      obtain ⟨y41, hey41⟩ : ∃ z, (y38 * y1) = z := ⟨_, rfl⟩
      rw [hey41] at b42 ⊢
      replace hb18 := hb18.trans (pf_let_eq hey41)
      refine pm_aload_n hC 0 (by decide) dX12_takesOdds_28 rfl ?_
      have e43 : V9 90 40 = 110 := hV10.one 90 40 (by decide) (by decide) rfl
      refine pm_getf (v := 110) hC 90 fl_X12_70 rfl rfl (by decide) rfl e43 dX12_takesOdds_29 ?_
      refine pm_iload_n hC 2 dX12_takesOdds_32 rfl ?_
      obtain ⟨y44, e45⟩ : ∃ y, V9 110 (x6 : Int).toNat = y := ⟨_, rfl⟩
      replace hb18 := hb18.trans (pf_let_eq e45)
      have b46 := hV10.get 110 (x6 : Int).toNat (lo := 0) (hi := 1539) (t := 0) (by decide) (show _ < 9 by exact ow_82_6 b3 c23) rfl
      rw [e45] at b46
      refine pm_iaload (len := 9) (v := y44) hC 110 rfl rfl (by decide) ⟨by exact ow_82_7 b7, by exact ow_82_8 b3 c23⟩ (by decide) e45 dX12_takesOdds_33 ?_
      refine pm_i2l hC ⟨by exact ow_82_9 b46, by exact ow_82_10 b46⟩ dX12_takesOdds_34 ?_
      refine pm_lmul hC dX12_takesOdds_35 ?_
      have b48 : 0 ≤ (y41 * y44) ∧ (y41 * y44) ≤ 221616 := pm_mulb (by exact ow_82_45 b42) (by exact ow_82_15 b46) (show y41 ≤ 144 by exact ow_82_46 b42) (show y44 ≤ 1539 by exact ow_82_47 b46) (by decide)
      obtain ⟨y47, hey47⟩ : ∃ z, (y41 * y44) = z := ⟨_, rfl⟩
      rw [hey47] at b48 ⊢
      replace hb18 := hb18.trans (pf_let_eq hey47)
      refine pm_aload_n hC 0 (by decide) dX12_takesOdds_36 rfl ?_
      have e49 : V9 90 41 = 111 := hV10.one 90 41 (by decide) (by decide) rfl
      refine pm_getf (v := 111) hC 90 fl_X12_73 rfl rfl (by decide) rfl e49 dX12_takesOdds_37 ?_
      refine pm_iload_n hC 2 dX12_takesOdds_40 rfl ?_
      obtain ⟨y50, e51⟩ : ∃ y, V9 111 (x6 : Int).toNat = y := ⟨_, rfl⟩
      replace hb18 := hb18.trans (pf_let_eq e51)
      have b52 := hV10.get 111 (x6 : Int).toNat (lo := 0) (hi := 171) (t := 0) (by decide) (show _ < 9 by exact ow_82_6 b3 c23) rfl
      rw [e51] at b52
      refine pm_iaload (len := 9) (v := y50) hC 111 rfl rfl (by decide) ⟨by exact ow_82_7 b7, by exact ow_82_8 b3 c23⟩ (by decide) e51 dX12_takesOdds_41 ?_
      refine pm_i2l hC ⟨by exact ow_82_25 b52, by exact ow_82_26 b52⟩ dX12_takesOdds_42 ?_
      refine pm_lmul hC dX12_takesOdds_43 ?_
      have b54 : 0 ≤ (y47 * y50) ∧ (y47 * y50) ≤ 37896336 := pm_mulb (by exact ow_82_48 b48) (by exact ow_82_27 b52) (show y47 ≤ 221616 by exact ow_82_49 b48) (show y50 ≤ 171 by exact ow_82_29 b52) (by decide)
      obtain ⟨y53, hey53⟩ : ∃ z, (y47 * y50) = z := ⟨_, rfl⟩
      rw [hey53] at b54 ⊢
      replace hb18 := hb18.trans (pf_let_eq hey53)
      refine pm_bipush (v := 16) hC dX12_takesOdds_44 (by decide) ?_
      refine pm_aload_n hC 0 (by decide) dX12_takesOdds_46 rfl ?_
      refine pm_getf (v := y38) hC 90 fl_X12_323 rfl rfl (by decide) rfl e39 dX12_takesOdds_47 ?_
      refine pm_isub hC dX12_takesOdds_50 ?_
      refine pm_i2l hC ⟨by exact ow_82_50 b40, by exact ow_82_51 b40⟩ dX12_takesOdds_51 ?_
      refine pm_aload_n hC 0 (by decide) dX12_takesOdds_52 rfl ?_
      obtain ⟨y55, e56⟩ : ∃ y, V9 90 45 = y := ⟨_, rfl⟩
      have b57 := hV10.get 90 45 (lo := 0) (hi := 1539) (by decide) (by decide) rfl
      rw [e56] at b57
      replace hb18 := hb18.trans (pf_let_eq e56)
      refine pm_getf (v := y55) hC 90 fl_X12_329 rfl rfl (by decide) rfl e56 dX12_takesOdds_53 ?_
      refine pm_lmul hC dX12_takesOdds_56 ?_
      have b59 : 0 ≤ ((16 - y38) * y55) ∧ ((16 - y38) * y55) ≤ 24624 := pm_mulb (by exact ow_82_52 b40) (by exact ow_82_15 b57) (show (16 - y38) ≤ 16 by exact ow_82_53 b40) (show y55 ≤ 1539 by exact ow_82_47 b57) (by decide)
      obtain ⟨y58, hey58⟩ : ∃ z, ((16 - y38) * y55) = z := ⟨_, rfl⟩
      rw [hey58] at b59 ⊢
      replace hb18 := hb18.trans (pf_let_eq hey58)
      refine pm_aload_n hC 0 (by decide) dX12_takesOdds_57 rfl ?_
      refine pm_getf (v := 110) hC 90 fl_X12_70 rfl rfl (by decide) rfl e43 dX12_takesOdds_58 ?_
      refine pm_iload_n hC 2 dX12_takesOdds_61 rfl ?_
      refine pm_iaload (len := 9) (v := y44) hC 110 rfl rfl (by decide) ⟨by exact ow_82_7 b7, by exact ow_82_8 b3 c23⟩ (by decide) e45 dX12_takesOdds_62 ?_
      refine pm_i2l hC ⟨by exact ow_82_9 b46, by exact ow_82_10 b46⟩ dX12_takesOdds_63 ?_
      refine pm_lmul hC dX12_takesOdds_64 ?_
      have b61 : 0 ≤ (y58 * y44) ∧ (y58 * y44) ≤ 37896336 := pm_mulb (by exact ow_82_54 b59) (by exact ow_82_15 b46) (show y58 ≤ 24624 by exact ow_82_55 b59) (show y44 ≤ 1539 by exact ow_82_47 b46) (by decide)
      obtain ⟨y60, hey60⟩ : ∃ z, (y58 * y44) = z := ⟨_, rfl⟩
      rw [hey60] at b61 ⊢
      replace hb18 := hb18.trans (pf_let_eq hey60)
      refine pm_ladd hC dX12_takesOdds_65 ?_
      refine pm_lastore (len := 9) hC 112 rfl rfl (by decide) ⟨by exact ow_82_7 b7, by exact ow_82_8 b3 c23⟩ (by decide) dX12_takesOdds_66 ?_
      refine pm_lload_n hC 1 dX12_takesOdds_67 rfl ?_
      refine pm_aload_n hC 0 (by decide) dX12_takesOdds_68 rfl ?_
      refine pm_getf (v := 112) hC 90 fl_X12_76 rfl rfl (by decide) rfl e37 dX12_takesOdds_69 ?_
      refine pm_iload_n hC 2 dX12_takesOdds_72 rfl ?_
      have hV64 := (hV10.put 112 (x6 : Int).toNat (x := (y53 + y60)) (lo := 0) (hi := 80000000) rfl ⟨by exact ow_82_56 b54 b61, by exact ow_82_57 b54 b61⟩)
      have hF65 := (hF11.up 112 (x6 : Int).toNat (y53 + y60) (by decide) rfl)
      obtain ⟨V62, hv63⟩ : ∃ V, V = (pm_up V9 112 (x6 : Int).toNat (y53 + y60)) := ⟨_, rfl⟩
      rw [← hv63] at hV64 hF65
      rw [← hv63]
      replace hb18 := hb18.trans (pf_let_eq hv63.symm)
      have e66 : V62 90 16 = y1 := by rw [hv63]; exact e12
      have e67 : V62 90 50 = 112 := by rw [hv63]; exact e37
      have e68 : V62 90 47 = y38 := by rw [hv63]; exact e39
      have e69 : V62 90 40 = 110 := by rw [hv63]; exact e43
      have e70 : V62 90 41 = 111 := by rw [hv63]; exact e49
      have e71 : V62 90 45 = y55 := by rw [hv63]; exact e56
      have hp72 : pm_w1 V62 := by rw [hv63]; exact (pm_w1.fr hp13 rfl rfl rfl rfl rfl)
      obtain ⟨y73, e74⟩ : ∃ y, V62 112 (x6 : Int).toNat = y := ⟨_, rfl⟩
      replace hb18 := hb18.trans (pf_let_eq e74)
      have b75 := hV64.get 112 (x6 : Int).toNat (lo := 0) (hi := 80000000) (t := 0) (by decide) (show _ < 9 by exact ow_82_6 b3 c23) rfl
      rw [e74] at b75
      refine pm_laload (len := 9) (v := y73) hC 112 rfl rfl (by decide) ⟨by exact ow_82_7 b7, by exact ow_82_8 b3 c23⟩ (by decide) e74 dX12_takesOdds_73 ?_
      refine pm_ladd hC dX12_takesOdds_74 ?_
      refine pm_lstore_n (lv' := [(1, (1, (x4 + y73))), (0, (3, 90)), (3, (0, x6))]) hC dX12_takesOdds_75 (by decide) rfl ?_
      obtain ⟨x76, ei77⟩ : ∃ y : Int, x6 + 1 = y := ⟨_, rfl⟩
      replace hb18 := hb18.trans (pf_let_eq ei77)
      refine pm_iinc (y := x76) (lv' := [(3, (0, x76)), (1, (1, (x4 + y73))), (0, (3, 90))]) hC 2 dX12_takesOdds_76 (by decide) rfl ei77 rfl ?_
      refine pm_goto (tgt := 4) hC dX12_takesOdds_79 (by decide) ?_
      refine pm_lvsub [2, 1, 0] (lv' := [(0, (3, 90)), (1, (1, (x4 + y73))), (3, (0, x76))]) rfl ?_
      exact ih22 _ (by exact ow_82_58 b3 hm20 c23 ei77) (x4 + y73) x76 V62 ⟨by exact ow_82_59 b5 b75, by omega⟩ ⟨by exact ow_82_13 b7 ei77, by exact ow_82_14 b3 c23 ei77⟩ (by omega) hV64 hF65 e66 hp72 (fun h => by (by_cases hy : 1 ≤ y73); (exact ⟨(x6 : Int).toNat, by exact ow_82_60 b7 ei77, by rw [e74]; exact hy⟩); (obtain ⟨q, hq1, hq2⟩ := hx14 (by exact ow_82_61 h hy)); exact ⟨q, by exact ow_82_62 ei77 hq1, by rw [hv63, pm_up_i (by exact ow_82_63 hq1)]; exact hq2⟩) (by show x76 ≤ V62 90 16; rw [e66]; exact ow_82_64 c23 ei77) (hT.trans (pf_val_inl hb18)) rfl
  refine pm_lvsub [2, 1, 0] (lv' := [(0, (3, 90)), (1, (1, 0)), (3, (0, 0))]) rfl ?_
  exact L19 _ 0 0 V0 ⟨by decide, by decide⟩ ⟨by decide, by decide⟩ (by exact ow_82_65) hV0 (pm_fs.rf (cs := [112]) (fs := []) (V := V0)) e2 hn_pm_w1 (fun h => absurd h (by exact ow_82_66)) (by rw [e2]; exact ow_82_42 b3) hT rfl
set_option maxHeartbeats 4000000 in
set_option maxRecDepth 100000 in
theorem fB_X12_takesSurer  : pm_K 2 yX12_takesSurer cX12_takesSurer 8 none (fun av V => av = [(3, 90)] ∧ pm_oq pm_qB V ∧ pm_w1 V ∧ pm_h1 V) (fun _ V r V' => r = none ∧ pm_oq pm_qB V' ∧ pm_fs [112] [] V V' ∧ pm_pos V' ∧ F_X12_takesSurer  V = (0, V')) := by
  refine pm_MT.of (by decide) ⟨Nat.le_refl _, by decide⟩ (fun av V h => by rw [h.1]; exact (by decide : pm_words [(3, 0)] ≤ 8)) ?_
  rintro X av V0 hC - hR ⟨rfl, hV0, hn_pm_w1, hn_pm_h1⟩
  change pm_J X 0 [(0, (3, 90))] [] 118 V0
  have hT := F_X12_takesSurer_eq  V0
  refine pm_lconst (x := 0) hC dX12_takesSurer_0 rfl ?_
  refine pm_lstore_n (lv' := [(1, (1, 0)), (0, (3, 90))]) hC dX12_takesSurer_1 (by decide) rfl ?_
  refine pm_lconst (x := 0) hC dX12_takesSurer_2 rfl ?_
  refine pm_lstore_n (lv' := [(3, (1, 0)), (1, (1, 0)), (0, (3, 90))]) hC dX12_takesSurer_3 (by decide) rfl ?_
  refine pm_lconst (x := 0) hC dX12_takesSurer_4 rfl ?_
  refine pm_lstore (lv' := [(5, (1, 0)), (3, (1, 0)), (1, (1, 0)), (0, (3, 90))]) hC dX12_takesSurer_5 (by decide) rfl ?_
  refine pm_aload_n hC 3 (by decide) dX12_takesSurer_7 rfl ?_
  refine pm_callV (ci := 12) (as := []) (st := []) hC 90 fB_X12_takesFace lm_X12_347 li_X12_takesFace (by decide) (by decide) rfl rfl rfl (by decide) rfl rfl (Nat.le_of_ble_eq_true rfl) ⟨Nat.le_refl _, Or.inl rfl⟩ dX12_takesSurer_8 ⟨rfl, hV0, hn_pm_w1, hn_pm_h1⟩ (fun r1 V2 hp3 => ?_)
  obtain ⟨rfl, hV4, hF5, hg6, hE7⟩ := hp3
  replace hT := hT.trans (pf_call_eq hE7)
  change pm_J X 11 [(5, (1, 0)), (3, (1, 0)), (1, (1, 0)), (0, (3, 90))] [] 118 V2
  have hF8 := pm_fs.tr (pm_fs.rf (cs := [112]) (fs := []) (V := V0)) hF5 (by decide) (by decide)
  have hp9 : pm_w1 V2 := (pm_w1.fr hn_pm_w1 (hF5.2 16 (by decide)) (hF5.2 48 (by decide)) (hF5.2 49 (by decide)) (hF5.1 110 (by decide) (by decide)) (hF5.1 111 (by decide) (by decide)))
  have hp10 : pm_h1 V2 := (pm_h1.fr hn_pm_h1 (hF5.2 16 (by decide)) (hF5.1 97 (by decide) (by decide)))
  refine pm_iconst (v := 0) hC dX12_takesSurer_11 ?_
  refine pm_istore (lv' := [(7, (0, 0)), (5, (1, 0)), (3, (1, 0)), (1, (1, 0)), (0, (3, 90))]) hC dX12_takesSurer_12 (by decide) rfl ?_
  obtain ⟨B19, hB20, hT⟩ := pf_loop hT
  have L22 : ∀ (N24 : Nat) (x11 : Int) (x13 : Int) (x15 : Int) (x17 : Int), (0 ≤ x11 ∧ x11 ≤ 80000000) → ((-9223372036854775808) ≤ x13 ∧ x13 ≤ 9223372036854775807) → (0 ≤ x15 ∧ x15 ≤ 1539) → (0 ≤ x17 ∧ x17 ≤ 9) → F_X12_takesSurer  V0 = pf_val ((0 : Int), V0) B19 (x11, x13, x15, x17) → (Int.toNat (9 - x17)) = N24 → pm_J X 14 [(0, (3, 90)), (1, (1, x11)), (3, (1, x13)), (5, (1, x15)), (7, (0, x17))] [] 118 V2 := by
    intro N24
    induction N24 using Nat.strongRecOn with
    | _ N24 ih25 =>
    intro x11 x13 x15 x17 b12 b14 b16 b18 hT hm23
    have hb21 := congrFun hB20 (x11, x13, x15, x17)
    refine pm_iload hC 4 dX12_takesSurer_14 rfl ?_
    refine pm_aload_n hC 0 (by decide) dX12_takesSurer_16 rfl ?_
    obtain ⟨y26, e27⟩ : ∃ y, V2 90 16 = y := ⟨_, rfl⟩
    have b28 := hV4.get 90 16 (lo := 2) (hi := 9) (by decide) (by decide) rfl
    rw [e27] at b28
    replace hb21 := hb21.trans (pf_let_eq e27)
    refine pm_getf (v := y26) hC 90 fl_X12_220 rfl rfl (by decide) rfl e27 dX12_takesSurer_17 ?_
    refine pm_icmp_ge (tgt := 66) hC ⟨by exact ow_82_0 b18, by exact ow_82_1 b18⟩ ⟨by exact ow_82_2 b28, by exact ow_82_3 b28⟩ dX12_takesSurer_20 (by decide) (fun c29 => ?_) (fun c29 => ?_)
    · skip
      replace hb21 := hb21.trans (if_pos c29)
      refine pm_lload_n hC 1 dX12_takesSurer_66 rfl ?_
      refine pm_aload_n hC 0 (by decide) dX12_takesSurer_67 rfl ?_
      obtain ⟨y30, e31⟩ : ∃ y, V2 90 44 = y := ⟨_, rfl⟩
      have b32 := hV4.get 90 44 (lo := 0) (hi := 13851) (by decide) (by decide) rfl
      rw [e31] at b32
      replace hb21 := hb21.trans (pf_let_eq e31)
      refine pm_getf (v := y30) hC 90 fl_X12_326 rfl rfl (by decide) rfl e31 dX12_takesSurer_68 ?_
      refine pm_lmul hC dX12_takesSurer_71 ?_
      have b34 : 0 ≤ (x11 * y30) ∧ (x11 * y30) ≤ 1108080000000 := pm_mulb (by exact ow_82_67 b12) (by exact ow_82_68 b32) (show x11 ≤ 80000000 by exact ow_82_69 b12) (show y30 ≤ 13851 by exact ow_82_70 b32) (by decide)
      obtain ⟨y33, hey33⟩ : ∃ z, (x11 * y30) = z := ⟨_, rfl⟩
      rw [hey33] at b34 ⊢
      replace hb21 := hb21.trans (pf_let_eq hey33)
      refine pm_lload hC 3 dX12_takesSurer_72 rfl ?_
      refine pm_lload_n hC 2 dX12_takesSurer_74 rfl ?_
      refine pm_lmul hC dX12_takesSurer_75 ?_
      refine pm_wrL hC (fun y35 hw37 b36 => ?_)
      replace hb21 := hb21.trans (pf_let_eq hw37)
      have b36 := And.intro b36.1 b36.2
      refine pm_lcmp hC ⟨by exact ow_82_71 b34, by exact ow_82_72 b34⟩ ⟨by exact ow_82_73 b36, by exact ow_82_74 b36⟩ dX12_takesSurer_76 (fun y38 b39 => ?_)
      replace hb21 := hb21.trans (pf_let_eq (pm_cmp_u b39))
      refine pm_if_gt (tgt := 84) hC ⟨by exact ow_82_75 b39, by exact ow_82_76 b39⟩ dX12_takesSurer_77 (by decide) (fun c40 => ?_) (fun c40 => ?_)
      · skip
        replace hb21 := hb21.trans (if_pos c40)
        replace hT := hT.trans (pf_val_inr hb21)
        exact pm_vret hC hR ⟨rfl, hV4, hF8, hg6, hT⟩ dX12_takesSurer_84
      · skip
        replace hb21 := hb21.trans (if_neg (Int.not_lt.mpr c40))
        refine pm_aload_n hC 0 (by decide) dX12_takesSurer_80 rfl ?_
        refine pm_callV (ci := 12) (as := []) (st := []) hC 90 fB_X12_takesVoice lm_X12_344 li_X12_takesVoice (by decide) (by decide) rfl rfl rfl (by decide) rfl rfl (Nat.le_of_ble_eq_true rfl) ⟨Nat.le_refl _, Or.inl rfl⟩ dX12_takesSurer_81 ⟨rfl, hV4, hp9⟩ (fun r41 V42 hp43 => ?_)
        obtain ⟨rfl, hV44, hF45, hg46, hE47⟩ := hp43
        replace hb21 := hb21.trans (pf_call_eq hE47)
        change pm_J X 84 [(0, (3, 90)), (1, (1, x11)), (3, (1, x13)), (5, (1, x15)), (7, (0, x17))] [] 118 V42
        have hF48 := pm_fs.tr hF8 hF45 (by decide) (by decide)
        have e49 : V42 90 16 = y26 := by rw [hF45.2 16 (by decide)]; exact e27
        have e50 : V42 90 44 = y30 := by rw [hF45.2 44 (by decide)]; exact e31
        have hp51 : pm_w1 V42 := (pm_w1.fr hp9 (hF45.2 16 (by decide)) (hF45.2 48 (by decide)) (hF45.2 49 (by decide)) (hF45.1 110 (by decide) (by decide)) (hF45.1 111 (by decide) (by decide)))
        have hp52 : pm_h1 V42 := (pm_h1.fr hp10 (hF45.2 16 (by decide)) (hF45.1 97 (by decide) (by decide)))
        replace hT := hT.trans (pf_val_inr hb21)
        exact pm_vret hC hR ⟨rfl, hV44, hF48, hg46, hT⟩ dX12_takesSurer_84
    · skip
      replace hb21 := hb21.trans (if_neg (Int.not_le.mpr c29))
      refine pm_lload_n hC 1 dX12_takesSurer_23 rfl ?_
      refine pm_aload_n hC 0 (by decide) dX12_takesSurer_24 rfl ?_
      have e53 : V2 90 50 = 112 := hV4.one 90 50 (by decide) (by decide) rfl
      refine pm_getf (v := 112) hC 90 fl_X12_76 rfl rfl (by decide) rfl e53 dX12_takesSurer_25 ?_
      refine pm_iload hC 4 dX12_takesSurer_28 rfl ?_
      obtain ⟨y54, e55⟩ : ∃ y, V2 112 (x17 : Int).toNat = y := ⟨_, rfl⟩
      replace hb21 := hb21.trans (pf_let_eq e55)
      have b56 := hV4.get 112 (x17 : Int).toNat (lo := 0) (hi := 80000000) (t := 0) (by decide) (show _ < 9 by exact ow_82_6 b28 c29) rfl
      rw [e55] at b56
      refine pm_laload (len := 9) (v := y54) hC 112 rfl rfl (by decide) ⟨by exact ow_82_7 b18, by exact ow_82_8 b28 c29⟩ (by decide) e55 dX12_takesSurer_30 ?_
      refine pm_mmaxL hC 7075 4169 1018 4170 ⟨by exact ow_82_77 b12, by exact ow_82_78 b12⟩ ⟨by exact ow_82_77 b56, by exact ow_82_78 b56⟩ (by decide) wL_X12_350 wS_mmaxL wI_math wC_mmaxL (Nat.le_of_ble_eq_true rfl) dX12_takesSurer_31 (fun y57 b58 => ?_)
      have he59 : pm_mx x11 y54 = y57 := pm_mx_of b58
      replace b58 : 0 ≤ y57 ∧ y57 ≤ 80000000 ∧ x11 ≤ y57 ∧ y54 ≤ y57 := ⟨by exact ow_82_79 b56 b58, by exact ow_82_80 b12 b56 b58, b58.1, b58.2.1⟩
      replace hb21 := hb21.trans (pf_let_eq he59)
      refine pm_lstore_n (lv' := [(1, (1, y57)), (0, (3, 90)), (3, (1, x13)), (5, (1, x15)), (7, (0, x17))]) hC dX12_takesSurer_34 (by decide) rfl ?_
      refine pm_lload_n hC 2 dX12_takesSurer_35 rfl ?_
      refine pm_aload_n hC 1 (by decide) dX12_takesSurer_36 rfl ?_
      refine pm_getf (v := 112) hC 90 fl_X12_76 rfl rfl (by decide) rfl e53 dX12_takesSurer_37 ?_
      refine pm_iload hC 4 dX12_takesSurer_40 rfl ?_
      refine pm_laload (len := 9) (v := y54) hC 112 rfl rfl (by decide) ⟨by exact ow_82_7 b18, by exact ow_82_8 b28 c29⟩ (by decide) e55 dX12_takesSurer_42 ?_
      refine pm_ladd hC dX12_takesSurer_43 ?_
      refine pm_wrL hC (fun y60 hw62 b61 => ?_)
      replace hb21 := hb21.trans (pf_let_eq hw62)
      have b61 := And.intro b61.1 b61.2
      refine pm_lstore_n (lv' := [(3, (1, y60)), (1, (1, y57)), (0, (3, 90)), (5, (1, x15)), (7, (0, x17))]) hC dX12_takesSurer_44 (by decide) rfl ?_
      refine pm_lload hC 3 dX12_takesSurer_45 rfl ?_
      refine pm_aload_n hC 2 (by decide) dX12_takesSurer_47 rfl ?_
      have e63 : V2 90 40 = 110 := hV4.one 90 40 (by decide) (by decide) rfl
      refine pm_getf (v := 110) hC 90 fl_X12_70 rfl rfl (by decide) rfl e63 dX12_takesSurer_48 ?_
      refine pm_iload hC 4 dX12_takesSurer_51 rfl ?_
      obtain ⟨y64, e65⟩ : ∃ y, V2 110 (x17 : Int).toNat = y := ⟨_, rfl⟩
      replace hb21 := hb21.trans (pf_let_eq e65)
      have b66 := hV4.get 110 (x17 : Int).toNat (lo := 0) (hi := 1539) (t := 0) (by decide) (show _ < 9 by exact ow_82_6 b28 c29) rfl
      rw [e65] at b66
      refine pm_iaload (len := 9) (v := y64) hC 110 rfl rfl (by decide) ⟨by exact ow_82_7 b18, by exact ow_82_8 b28 c29⟩ (by decide) e65 dX12_takesSurer_53 ?_
      refine pm_i2l hC ⟨by exact ow_82_9 b66, by exact ow_82_10 b66⟩ dX12_takesSurer_54 ?_
      refine pm_mmaxL hC 7075 4169 1018 4170 ⟨by exact ow_82_81 b16, by exact ow_82_82 b16⟩ ⟨by exact ow_82_81 b66, by exact ow_82_82 b66⟩ (by decide) wL_X12_350 wS_mmaxL wI_math wC_mmaxL (Nat.le_of_ble_eq_true rfl) dX12_takesSurer_55 (fun y67 b68 => ?_)
      have he69 : pm_mx x15 y64 = y67 := pm_mx_of b68
      replace b68 : 0 ≤ y67 ∧ y67 ≤ 1539 ∧ x15 ≤ y67 ∧ y64 ≤ y67 := ⟨by exact ow_82_83 b16 b68, by exact ow_82_84 b16 b66 b68, b68.1, b68.2.1⟩
      replace hb21 := hb21.trans (pf_let_eq he69)
      refine pm_lstore (lv' := [(5, (1, y67)), (3, (1, y60)), (1, (1, y57)), (0, (3, 90)), (7, (0, x17))]) hC dX12_takesSurer_58 (by decide) rfl ?_
      obtain ⟨x70, ei71⟩ : ∃ y : Int, x17 + 1 = y := ⟨_, rfl⟩
      replace hb21 := hb21.trans (pf_let_eq ei71)
      refine pm_iinc (y := x70) (lv' := [(7, (0, x70)), (5, (1, y67)), (3, (1, y60)), (1, (1, y57)), (0, (3, 90))]) hC 4 dX12_takesSurer_60 (by decide) rfl ei71 rfl ?_
      refine pm_goto (tgt := 14) hC dX12_takesSurer_63 (by decide) ?_
      refine pm_lvsub [4, 3, 2, 1, 0] (lv' := [(0, (3, 90)), (1, (1, y57)), (3, (1, y60)), (5, (1, y67)), (7, (0, x70))]) rfl ?_
      exact ih25 _ (by exact ow_82_12 hm23 b28 c29 ei71) y57 y60 y67 x70 ⟨by exact ow_82_85 b58, by exact ow_82_86 b58⟩ ⟨by exact ow_82_73 b61, by exact ow_82_74 b61⟩ ⟨by exact ow_82_87 b68, by exact ow_82_88 b68⟩ ⟨by exact ow_82_13 b18 ei71, by exact ow_82_14 b28 c29 ei71⟩ (hT.trans (pf_val_inl hb21)) rfl
  refine pm_lvsub [4, 3, 2, 1, 0] (lv' := [(0, (3, 90)), (1, (1, 0)), (3, (1, 0)), (5, (1, 0)), (7, (0, 0))]) rfl ?_
  exact L22 _ 0 0 0 0 ⟨by decide, by decide⟩ ⟨by decide, by decide⟩ ⟨by decide, by decide⟩ ⟨by decide, by decide⟩ hT rfl
set_option maxHeartbeats 4000000 in
set_option maxRecDepth 100000 in
theorem fB_X12_takesBetween  : pm_K 2 yX12_takesBetween cX12_takesBetween 6 none (fun av V => av = [(3, 90)] ∧ pm_oq pm_qB V ∧ (1 ≤ V 90 42 ∧ V 90 42 ≤ 171) ∧ (1 ≤ V 90 43 ∧ V 90 43 ≤ 171) ∧ pm_w1 V) (fun _ V r V' => r = none ∧ pm_oq pm_qB V' ∧ pm_fs [112] [] V V' ∧ pm_pos V' ∧ F_X12_takesBetween  V = (0, V')) := by
  refine pm_MT.of (by decide) ⟨Nat.le_refl _, by decide⟩ (fun av V h => by rw [h.1]; exact (by decide : pm_words [(3, 0)] ≤ 6)) ?_
  rintro X av V0 hC - hR ⟨rfl, hV0, hq0, hq1, hn_pm_w1⟩
  change pm_J X 0 [(0, (3, 90))] [] 118 V0
  have hT := F_X12_takesBetween_eq  V0
  obtain ⟨z0, ez0⟩ : ∃ z, V0 90 42 = z := ⟨_, rfl⟩
  rw [ez0] at hq0
  replace hT := hT.trans (pf_let_eq ez0)
  obtain ⟨z1, ez1⟩ : ∃ z, V0 90 43 = z := ⟨_, rfl⟩
  rw [ez1] at hq1
  replace hT := hT.trans (pf_let_eq ez1)
  obtain ⟨y1, e2⟩ : ∃ y, V0 90 16 = y := ⟨_, rfl⟩
  have b3 := hV0.get 90 16 (lo := 2) (hi := 9) (by decide) (by decide) rfl
  rw [e2] at b3
  replace hT := hT.trans (pf_let_eq e2)
  refine pm_aload_n hC 0 (by decide) dX12_takesBetween_0 rfl ?_
  refine pm_aload_n hC 0 (by decide) dX12_takesBetween_1 rfl ?_
  obtain ⟨y4, e5⟩ : ∃ y, V0 90 48 = y := ⟨_, rfl⟩
  have b6 := hV0.get 90 48 (lo := 0) (hi := 8) (by decide) (by decide) rfl
  rw [e5] at b6
  replace hT := hT.trans (pf_let_eq e5)
  refine pm_getf (v := y4) hC 90 fl_X12_305 rfl rfl (by decide) rfl e5 dX12_takesBetween_2 ?_
  refine pm_callV (ci := 12) (as := [(0, y4)]) (st := []) hC 90 (fB_X12_x y4 ⟨by exact ow_82_17 b6, by exact ow_82_89 b6⟩) lm_X12_335 li_X12_x (by decide) (by decide) rfl rfl rfl (by decide) rfl rfl (Nat.le_of_ble_eq_true rfl) ⟨Nat.le_refl _, Or.inl rfl⟩ dX12_takesBetween_5 ⟨rfl, hV0⟩ (fun r7 V8 hp9 => ?_)
  obtain ⟨y10, rfl, b11, rfl, hE12⟩ := hp9
  replace hT := hT.trans (pf_call_eq hE12)
  change pm_J X 8 [(0, (3, 90))] [(0, y10)] 118 V0
  refine pm_aload_n hC 0 (by decide) dX12_takesBetween_8 rfl ?_
  refine pm_getf (v := z1) hC 90 fl_X12_320 rfl rfl (by decide) rfl ez1 dX12_takesBetween_9 ?_
  refine pm_imul hC dX12_takesBetween_12 ?_
  have b14 : 0 ≤ (y10 * z1) ∧ (y10 * z1) ≤ 16929 := pm_mulb (by exact ow_82_90 b11) (by exact ow_82_91 hq1) (show y10 ≤ 99 by exact ow_82_92 b11) (show z1 ≤ 171 by exact ow_82_93 hq1) (by decide)
  obtain ⟨y13, hey13⟩ : ∃ z, (y10 * z1) = z := ⟨_, rfl⟩
  rw [hey13] at b14 ⊢
  replace hT := hT.trans (pf_let_eq hey13)
  refine pm_aload_n hC 0 (by decide) dX12_takesBetween_13 rfl ?_
  refine pm_aload_n hC 0 (by decide) dX12_takesBetween_14 rfl ?_
  obtain ⟨y15, e16⟩ : ∃ y, V0 90 49 = y := ⟨_, rfl⟩
  have b17 := hV0.get 90 49 (lo := 0) (hi := 8) (by decide) (by decide) rfl
  rw [e16] at b17
  replace hT := hT.trans (pf_let_eq e16)
  refine pm_getf (v := y15) hC 90 fl_X12_308 rfl rfl (by decide) rfl e16 dX12_takesBetween_15 ?_
  refine pm_callV (ci := 12) (as := [(0, y15)]) (st := [(0, y13)]) hC 90 (fB_X12_x y15 ⟨by exact ow_82_17 b17, by exact ow_82_89 b17⟩) lm_X12_335 li_X12_x (by decide) (by decide) rfl rfl rfl (by decide) rfl rfl (Nat.le_of_ble_eq_true rfl) ⟨Nat.le_refl _, Or.inl rfl⟩ dX12_takesBetween_18 ⟨rfl, hV0⟩ (fun r18 V19 hp20 => ?_)
  obtain ⟨y21, rfl, b22, rfl, hE23⟩ := hp20
  replace hT := hT.trans (pf_call_eq hE23)
  change pm_J X 21 [(0, (3, 90))] [(0, y21), (0, y13)] 118 V0
  refine pm_aload_n hC 0 (by decide) dX12_takesBetween_21 rfl ?_
  refine pm_getf (v := z0) hC 90 fl_X12_317 rfl rfl (by decide) rfl ez0 dX12_takesBetween_22 ?_
  refine pm_imul hC dX12_takesBetween_25 ?_
  have b25 : 0 ≤ (y21 * z0) ∧ (y21 * z0) ≤ 16929 := pm_mulb (by exact ow_82_90 b22) (by exact ow_82_91 hq0) (show y21 ≤ 99 by exact ow_82_92 b22) (show z0 ≤ 171 by exact ow_82_93 hq0) (by decide)
  obtain ⟨y24, hey24⟩ : ∃ z, (y21 * z0) = z := ⟨_, rfl⟩
  rw [hey24] at b25 ⊢
  replace hT := hT.trans (pf_let_eq hey24)
  refine pm_iadd hC dX12_takesBetween_26 ?_
  refine pm_aload_n hC 0 (by decide) dX12_takesBetween_27 rfl ?_
  refine pm_getf (v := z0) hC 90 fl_X12_317 rfl rfl (by decide) rfl ez0 dX12_takesBetween_28 ?_
  refine pm_aload_n hC 0 (by decide) dX12_takesBetween_31 rfl ?_
  refine pm_getf (v := z1) hC 90 fl_X12_320 rfl rfl (by decide) rfl ez1 dX12_takesBetween_32 ?_
  refine pm_iadd hC dX12_takesBetween_35 ?_
  refine pm_idiv hC ⟨by exact ow_82_94 b14 b25, by exact ow_82_95 b14 b25, by exact ow_82_96 b14 b25⟩ ⟨by exact ow_82_97 hq0 hq1, by exact ow_82_98 hq0 hq1, by exact ow_82_99 hq0 hq1⟩ dX12_takesBetween_36 ?_
  have b27 := pm_divb (x := (y13 + y24)) (y := (z0 + z1)) (by exact ow_82_94 b14 b25) (by exact ow_82_97 hq0 hq1)
  obtain ⟨y26, hey26⟩ : ∃ z, ((y13 + y24) / (z0 + z1)) = z := ⟨_, rfl⟩
  rw [hey26] at b27 ⊢
  replace hT := hT.trans (pf_let_eq hey26)
  refine pm_istore_n (lv' := [(1, (0, y26)), (0, (3, 90))]) hC dX12_takesBetween_37 (by decide) rfl ?_
  refine pm_iconst (v := 0) hC dX12_takesBetween_38 ?_
  refine pm_istore_n (lv' := [(2, (0, 0)), (1, (0, y26)), (0, (3, 90))]) hC dX12_takesBetween_39 (by decide) rfl ?_
  refine pm_sipush (v := 1000) hC dX12_takesBetween_40 (by decide) ?_
  refine pm_istore_n (lv' := [(3, (0, 1000)), (2, (0, 0)), (1, (0, y26)), (0, (3, 90))]) hC dX12_takesBetween_43 (by decide) rfl ?_
  refine pm_iconst (v := 0) hC dX12_takesBetween_44 ?_
  refine pm_istore (lv' := [(4, (0, 0)), (3, (0, 1000)), (2, (0, 0)), (1, (0, y26)), (0, (3, 90))]) hC dX12_takesBetween_45 (by decide) rfl ?_
  obtain ⟨B36, hB37, hT⟩ := pf_loop hT
  have L39 : ∀ (N41 : Nat) (x28 : Int) (x30 : Int) (x32 : Int), (0 ≤ x28 ∧ x28 ≤ 8) → (0 ≤ x30 ∧ x30 ≤ 1000) → (0 ≤ x32 ∧ x32 ≤ 9) → (x28 = 0 ∨ x28 < x32) → (x32 ≤ V0 90 16) → F_X12_takesBetween  V0 = pf_val ((0 : Int), V0) B36 (x28, x30, x32) → (Int.toNat (9 - x32)) = N41 → pm_J X 47 [(0, (3, 90)), (1, (0, y26)), (2, (0, x28)), (3, (0, x30)), (4, (0, x32))] [] 118 V0 := by
    intro N41
    induction N41 using Nat.strongRecOn with
    | _ N41 ih42 =>
    intro x28 x30 x32 b29 b31 b33 b34 b35 hT hm40
    have hb38 := congrFun hB37 (x28, x30, x32)
    refine pm_iload hC 4 dX12_takesBetween_47 rfl ?_
    refine pm_aload_n hC 0 (by decide) dX12_takesBetween_49 rfl ?_
    refine pm_getf (v := y1) hC 90 fl_X12_220 rfl rfl (by decide) rfl e2 dX12_takesBetween_50 ?_
    refine pm_icmp_ge (tgt := 109) hC ⟨by exact ow_82_0 b33, by exact ow_82_1 b33⟩ ⟨by exact ow_82_2 b3, by exact ow_82_3 b3⟩ dX12_takesBetween_53 (by decide) (fun c43 => ?_) (fun c43 => ?_)
    · skip
      replace hb38 := hb38.trans (if_pos c43)
      refine pm_iconst (v := 0) hC dX12_takesBetween_109 ?_
      refine pm_istore (lv' := [(4, (0, 0)), (0, (3, 90)), (1, (0, y26)), (2, (0, x28)), (3, (0, x30))]) hC dX12_takesBetween_110 (by decide) rfl ?_
      obtain ⟨B56, hB57, hb38⟩ := pf_loop hb38
      have L59 : ∀ (N61 : Nat) (x44 : Int) (V46 : pm_M), (0 ≤ x44 ∧ x44 ≤ 9) → pm_oq pm_qB V46 → pm_fs [112] [] V0 V46 → V46 90 42 = z0 → V46 90 43 = z1 → V46 90 16 = y1 → V46 90 48 = y4 → V46 90 49 = y15 → pm_w1 V46 → (x28 < x44 → 1 ≤ V46 112 (x28).toNat) → B36 (x28, x30, x32) = pf_val (.inr ((0 : Int), V0)) B56 (x44, V46) → (Int.toNat (9 - x44)) = N61 → pm_J X 112 [(0, (3, 90)), (1, (0, y26)), (2, (0, x28)), (3, (0, x30)), (4, (0, x44))] [] 118 V46 := by
        intro N61
        induction N61 using Nat.strongRecOn with
        | _ N61 ih62 =>
        intro x44 V46 b45 hV47 hF48 e49 e50 e51 e52 e53 hp54 hx55 hb38 hm60
        have hb58 := congrFun hB57 (x44, V46)
        refine pm_iload hC 4 dX12_takesBetween_112 rfl ?_
        refine pm_aload_n hC 0 (by decide) dX12_takesBetween_114 rfl ?_
        refine pm_getf (v := y1) hC 90 fl_X12_220 rfl rfl (by decide) rfl e51 dX12_takesBetween_115 ?_
        refine pm_icmp_ge (tgt := 145) hC ⟨by exact ow_82_0 b45, by exact ow_82_1 b45⟩ ⟨by exact ow_82_2 b3, by exact ow_82_3 b3⟩ dX12_takesBetween_118 (by decide) (fun c63 => ?_) (fun c63 => ?_)
        · skip
          replace hb58 := hb58.trans (if_pos c63)
          replace hb38 := hb38.trans (pf_val_inr hb58)
          replace hT := hT.trans (pf_val_inr hb38)
          exact pm_vret hC hR ⟨rfl, hV47, hF48, ⟨(x28).toNat, by rw [e51]; exact ow_82_100 e2 b3 b34 b35, hx55 (by exact ow_82_101 e2 b3 b34 b35 c63)⟩, hT⟩ dX12_takesBetween_145
        · skip
          replace hb58 := hb58.trans (if_neg (Int.not_le.mpr c63))
          refine pm_aload_n hC 0 (by decide) dX12_takesBetween_121 rfl ?_
          have e64 : V46 90 50 = 112 := hV47.one 90 50 (by decide) (by decide) rfl
          refine pm_getf (v := 112) hC 90 fl_X12_76 rfl rfl (by decide) rfl e64 dX12_takesBetween_122 ?_
          refine pm_iload hC 4 dX12_takesBetween_125 rfl ?_
          refine pm_iload hC 4 dX12_takesBetween_127 rfl ?_
          refine pm_iload_n hC 2 dX12_takesBetween_129 rfl ?_
          refine pm_icmp_ne (tgt := 137) hC ⟨by exact ow_82_0 b45, by exact ow_82_1 b45⟩ ⟨by exact ow_82_102 b29, by exact ow_82_103 b29⟩ dX12_takesBetween_130 (by decide) (fun c65 => ?_) (fun c65 => ?_)
          · skip
            replace hb58 := hb58.trans (if_pos c65)
            refine pm_lconst (x := 0) hC dX12_takesBetween_137 rfl ?_
            refine pm_lastore (len := 9) hC 112 rfl rfl (by decide) ⟨by exact ow_82_7 b45, by exact ow_82_8 b3 c63⟩ (by decide) dX12_takesBetween_138 ?_
            obtain ⟨x66, ei67⟩ : ∃ y : Int, x44 + 1 = y := ⟨_, rfl⟩
            replace hb58 := hb58.trans (pf_let_eq ei67)
            refine pm_iinc (y := x66) (lv' := [(4, (0, x66)), (0, (3, 90)), (1, (0, y26)), (2, (0, x28)), (3, (0, x30))]) hC 4 dX12_takesBetween_139 (by decide) rfl ei67 rfl ?_
            refine pm_goto (tgt := 112) hC dX12_takesBetween_142 (by decide) ?_
            refine pm_lvsub [1, 2, 3, 4, 0] (lv' := [(0, (3, 90)), (1, (0, y26)), (2, (0, x28)), (3, (0, x30)), (4, (0, x66))]) rfl ?_
            exact ih62 _ (by exact ow_82_58 b3 hm60 c63 ei67) x66 (pm_up V46 112 (x44 : Int).toNat 0) ⟨by exact ow_82_13 b45 ei67, by exact ow_82_14 b3 c63 ei67⟩ (hV47.put 112 (x44 : Int).toNat (x := 0) (lo := 0) (hi := 80000000) rfl ⟨by decide, by decide⟩) (hF48.up 112 (x44 : Int).toNat 0 (by decide) rfl) e49 e50 e51 e52 e53 (pm_w1.fr hp54 rfl rfl rfl rfl rfl) (fun h => pm_up_get (V := V46) (k := 112) (i := x44) (a := x28) (x := 0) (p := fun z => 1 ≤ z) (by exact ow_82_7 b45) (by exact ow_82_17 b29) (fun hq => by exact ow_82_104 c65 hq) (fun hne => hx55 (by exact ow_82_105 c65 ei67 h))) (hb38.trans (pf_val_inl hb58)) rfl
          · skip
            replace hb58 := hb58.trans (if_neg (fun q => q c65))
            refine pm_lconst (x := 1) hC dX12_takesBetween_133 rfl ?_
            refine pm_goto (tgt := 138) hC dX12_takesBetween_134 (by decide) ?_
            refine pm_lastore (len := 9) hC 112 rfl rfl (by decide) ⟨by exact ow_82_7 b45, by exact ow_82_8 b3 c63⟩ (by decide) dX12_takesBetween_138 ?_
            obtain ⟨x68, ei69⟩ : ∃ y : Int, x44 + 1 = y := ⟨_, rfl⟩
            replace hb58 := hb58.trans (pf_let_eq ei69)
            refine pm_iinc (y := x68) (lv' := [(4, (0, x68)), (0, (3, 90)), (1, (0, y26)), (2, (0, x28)), (3, (0, x30))]) hC 4 dX12_takesBetween_139 (by decide) rfl ei69 rfl ?_
            refine pm_goto (tgt := 112) hC dX12_takesBetween_142 (by decide) ?_
            refine pm_lvsub [1, 2, 3, 4, 0] (lv' := [(0, (3, 90)), (1, (0, y26)), (2, (0, x28)), (3, (0, x30)), (4, (0, x68))]) rfl ?_
            exact ih62 _ (by exact ow_82_58 b3 hm60 c63 ei69) x68 (pm_up V46 112 (x44 : Int).toNat 1) ⟨by exact ow_82_13 b45 ei69, by exact ow_82_14 b3 c63 ei69⟩ (hV47.put 112 (x44 : Int).toNat (x := 1) (lo := 0) (hi := 80000000) rfl ⟨by decide, by decide⟩) (hF48.up 112 (x44 : Int).toNat 1 (by decide) rfl) e49 e50 e51 e52 e53 (pm_w1.fr hp54 rfl rfl rfl rfl rfl) (fun h => pm_up_get (V := V46) (k := 112) (i := x44) (a := x28) (x := 1) (p := fun z => 1 ≤ z) (by exact ow_82_7 b45) (by exact ow_82_17 b29) (fun hq => by exact ow_82_106) (fun hne => hx55 (by exact ow_82_107 c65 hne))) (hb38.trans (pf_val_inl hb58)) rfl
      refine pm_lvsub [1, 2, 3, 4, 0] (lv' := [(0, (3, 90)), (1, (0, y26)), (2, (0, x28)), (3, (0, x30)), (4, (0, 0))]) rfl ?_
      exact L59 _ 0 V0 ⟨by decide, by decide⟩ hV0 (pm_fs.rf (cs := [112]) (fs := []) (V := V0)) ez0 ez1 e2 e5 e16 hn_pm_w1 (fun h => absurd h (by exact ow_82_19 b29 h)) hb38 rfl
    · skip
      replace hb38 := hb38.trans (if_neg (Int.not_le.mpr c43))
      refine pm_aload_n hC 0 (by decide) dX12_takesBetween_56 rfl ?_
      refine pm_iload hC 4 dX12_takesBetween_57 rfl ?_
      refine pm_callV (ci := 12) (as := [(0, x32)]) (st := []) hC 90 (fB_X12_x x32 ⟨by exact ow_82_7 b33, by exact ow_82_108 b3 c43⟩) lm_X12_335 li_X12_x (by decide) (by decide) rfl rfl rfl (by decide) rfl rfl (Nat.le_of_ble_eq_true rfl) ⟨Nat.le_refl _, Or.inl rfl⟩ dX12_takesBetween_59 ⟨rfl, hV0⟩ (fun r70 V71 hp72 => ?_)
      obtain ⟨y73, rfl, b74, rfl, hE75⟩ := hp72
      replace hb38 := hb38.trans (pf_call_eq hE75)
      change pm_J X 62 [(0, (3, 90)), (1, (0, y26)), (2, (0, x28)), (3, (0, x30)), (4, (0, x32))] [(0, y73)] 118 V0
      refine pm_iload_n hC 1 dX12_takesBetween_62 rfl ?_
      refine pm_isub hC dX12_takesBetween_63 ?_
      refine pm_callS (as := [(0, (y73 - y26))]) (st := []) hC (fB_X12_far (y73 - y26) ⟨by exact ow_82_109 b14 b25 b27 b74, by exact ow_82_110 b27 b74⟩) lm_X12_338 ls_X12_far (by decide) (by decide) rfl rfl (Nat.le_of_ble_eq_true rfl) ⟨Nat.le_refl _, Or.inl rfl⟩ dX12_takesBetween_64 ⟨rfl, hV0⟩ (fun r76 V77 hp78 => ?_)
      obtain ⟨y79, rfl, b80, rfl, hE81⟩ := hp78
      replace hb38 := hb38.trans (pf_call_eq hE81)
      change pm_J X 67 [(0, (3, 90)), (1, (0, y26)), (2, (0, x28)), (3, (0, x30)), (4, (0, x32))] [(0, y79)] 118 V0
      refine pm_aload_n hC 0 (by decide) dX12_takesBetween_67 rfl ?_
      refine pm_iload hC 4 dX12_takesBetween_68 rfl ?_
      refine pm_callV (ci := 12) (as := [(0, x32)]) (st := [(0, y79)]) hC 90 (fB_X12_y x32 ⟨by exact ow_82_7 b33, by exact ow_82_108 b3 c43⟩) lm_X12_341 li_X12_y (by decide) (by decide) rfl rfl rfl (by decide) rfl rfl (Nat.le_of_ble_eq_true rfl) ⟨Nat.le_refl _, Or.inl rfl⟩ dX12_takesBetween_70 ⟨rfl, hV0⟩ (fun r82 V83 hp84 => ?_)
      obtain ⟨y85, rfl, b86, rfl, hE87⟩ := hp84
      replace hb38 := hb38.trans (pf_call_eq hE87)
      change pm_J X 73 [(0, (3, 90)), (1, (0, y26)), (2, (0, x28)), (3, (0, x30)), (4, (0, x32))] [(0, y85), (0, y79)] 118 V0
      refine pm_aload_n hC 0 (by decide) dX12_takesBetween_73 rfl ?_
      refine pm_aload_n hC 0 (by decide) dX12_takesBetween_74 rfl ?_
      refine pm_getf (v := y4) hC 90 fl_X12_305 rfl rfl (by decide) rfl e5 dX12_takesBetween_75 ?_
      refine pm_callV (ci := 12) (as := [(0, y4)]) (st := [(0, y85), (0, y79)]) hC 90 (fB_X12_y y4 ⟨by exact ow_82_17 b6, by exact ow_82_89 b6⟩) lm_X12_341 li_X12_y (by decide) (by decide) rfl rfl rfl (by decide) rfl rfl (Nat.le_of_ble_eq_true rfl) ⟨Nat.le_refl _, Or.inl rfl⟩ dX12_takesBetween_78 ⟨rfl, hV0⟩ (fun r88 V89 hp90 => ?_)
      obtain ⟨y91, rfl, b92, rfl, hE93⟩ := hp90
      replace hb38 := hb38.trans (pf_call_eq hE93)
      change pm_J X 81 [(0, (3, 90)), (1, (0, y26)), (2, (0, x28)), (3, (0, x30)), (4, (0, x32))] [(0, y91), (0, y85), (0, y79)] 118 V0
      refine pm_isub hC dX12_takesBetween_81 ?_
      refine pm_callS (as := [(0, (y85 - y91))]) (st := [(0, y79)]) hC (fB_X12_far (y85 - y91) ⟨by exact ow_82_111 b86 b92, by exact ow_82_112 b86 b92⟩) lm_X12_338 ls_X12_far (by decide) (by decide) rfl rfl (Nat.le_of_ble_eq_true rfl) ⟨Nat.le_refl _, Or.inl rfl⟩ dX12_takesBetween_82 ⟨rfl, hV0⟩ (fun r94 V95 hp96 => ?_)
      obtain ⟨y97, rfl, b98, rfl, hE99⟩ := hp96
      replace hb38 := hb38.trans (pf_call_eq hE99)
      change pm_J X 85 [(0, (3, 90)), (1, (0, y26)), (2, (0, x28)), (3, (0, x30)), (4, (0, x32))] [(0, y97), (0, y79)] 118 V0
      refine pm_iadd hC dX12_takesBetween_85 ?_
      refine pm_istore (lv' := [(5, (0, (y79 + y97))), (0, (3, 90)), (1, (0, y26)), (2, (0, x28)), (3, (0, x30)), (4, (0, x32))]) hC dX12_takesBetween_86 (by decide) rfl ?_
      refine pm_iload hC 0 dX12_takesBetween_88 rfl ?_
      refine pm_iload_n hC 4 dX12_takesBetween_90 rfl ?_
      refine pm_icmp_lt (tgt := 97) hC ⟨by exact ow_82_113 b80 b98, by exact ow_82_114 b14 b25 b27 b74 b80 b86 b92 b98⟩ ⟨by exact ow_82_115 b31, by exact ow_82_116 b31⟩ dX12_takesBetween_91 (by decide) (fun c100 => ?_) (fun c100 => ?_)
      · skip
        replace hb38 := hb38.trans (if_pos c100)
        refine pm_iload hC 0 dX12_takesBetween_97 rfl ?_
        refine pm_istore_n (lv' := [(3, (0, (y79 + y97))), (5, (0, (y79 + y97))), (0, (3, 90)), (1, (0, y26)), (2, (0, x28)), (4, (0, x32))]) hC dX12_takesBetween_99 (by decide) rfl ?_
        refine pm_iload hC 5 dX12_takesBetween_100 rfl ?_
        refine pm_istore_n (lv' := [(2, (0, x32)), (3, (0, (y79 + y97))), (5, (0, (y79 + y97))), (0, (3, 90)), (1, (0, y26)), (4, (0, x32))]) hC dX12_takesBetween_102 (by decide) rfl ?_
        obtain ⟨x101, ei102⟩ : ∃ y : Int, x32 + 1 = y := ⟨_, rfl⟩
        replace hb38 := hb38.trans (pf_let_eq ei102)
        refine pm_iinc (y := x101) (lv' := [(4, (0, x101)), (2, (0, x32)), (3, (0, (y79 + y97))), (5, (0, (y79 + y97))), (0, (3, 90)), (1, (0, y26))]) hC 5 dX12_takesBetween_103 (by decide) rfl ei102 rfl ?_
        refine pm_goto (tgt := 47) hC dX12_takesBetween_106 (by decide) ?_
        refine pm_lvsub [4, 5, 1, 2, 0] (lv' := [(0, (3, 90)), (1, (0, y26)), (2, (0, x32)), (3, (0, (y79 + y97))), (4, (0, x101))]) rfl ?_
        exact ih42 _ (by exact ow_82_58 b3 hm40 c43 ei102) x32 (y79 + y97) x101 ⟨by exact ow_82_7 b33, by exact ow_82_108 b3 c43⟩ ⟨by exact ow_82_117 b80 b98, by exact ow_82_118 b31 c100⟩ ⟨by exact ow_82_13 b33 ei102, by exact ow_82_14 b3 c43 ei102⟩ (by exact ow_82_119 ei102) (by exact ow_82_120 e2 c43 ei102) (hT.trans (pf_val_inl hb38)) rfl
      · skip
        replace hb38 := hb38.trans (if_neg (Int.not_lt.mpr c100))
        refine pm_goto (tgt := 103) hC dX12_takesBetween_94 (by decide) ?_
        obtain ⟨x103, ei104⟩ : ∃ y : Int, x32 + 1 = y := ⟨_, rfl⟩
        replace hb38 := hb38.trans (pf_let_eq ei104)
        refine pm_iinc (y := x103) (lv' := [(4, (0, x103)), (5, (0, (y79 + y97))), (0, (3, 90)), (1, (0, y26)), (2, (0, x28)), (3, (0, x30))]) hC 5 dX12_takesBetween_103 (by decide) rfl ei104 rfl ?_
        refine pm_goto (tgt := 47) hC dX12_takesBetween_106 (by decide) ?_
        refine pm_lvsub [2, 3, 4, 5, 0] (lv' := [(0, (3, 90)), (1, (0, y26)), (2, (0, x28)), (3, (0, x30)), (4, (0, x103))]) rfl ?_
        exact ih42 _ (by exact ow_82_58 b3 hm40 c43 ei104) x28 x30 x103 ⟨by exact ow_82_17 b29, by exact ow_82_89 b29⟩ ⟨by exact ow_82_121 b31, by exact ow_82_122 b31⟩ ⟨by exact ow_82_13 b33 ei104, by exact ow_82_14 b3 c43 ei104⟩ (by exact ow_82_123 b29 b34 ei104) (by exact ow_82_120 e2 c43 ei104) (hT.trans (pf_val_inl hb38)) rfl
  refine pm_lvsub [4, 3, 2, 1, 0] (lv' := [(0, (3, 90)), (1, (0, y26)), (2, (0, 0)), (3, (0, 1000)), (4, (0, 0))]) rfl ?_
  exact L39 _ 0 1000 0 ⟨by decide, by decide⟩ ⟨by decide, by decide⟩ ⟨by decide, by decide⟩ (by exact ow_82_124) (by exact ow_82_125 e2 b3) hT rfl
