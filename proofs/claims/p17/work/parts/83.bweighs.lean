theorem ow_83_0 {a0 : Int} (h0 : ((0 ≤ (a0 : Int)) ∧ (a0 ≤ (12 : Int)))) : ((-2147483648) ≤ (a0 : Int)) := by omega
theorem ow_83_1 {a0 : Int} (h0 : ((0 ≤ (a0 : Int)) ∧ (a0 ≤ (12 : Int)))) : (a0 ≤ (2147483647 : Int)) := by omega
theorem ow_83_2 {a0 : Int} : (((a0 < (0 : Int)) ∨ (6 < (a0 : Int))) ∨ ((a0 = (0 : Int)) ∨ ((a0 = (1 : Int)) ∨ ((a0 = (2 : Int)) ∨ ((a0 = (3 : Int)) ∨ ((a0 = (4 : Int)) ∨ ((a0 = (5 : Int)) ∨ (a0 = (6 : Int))))))))) := by omega
theorem ow_83_3 {a0 : Int} (h0 : (((-1) ≤ (a0 : Int)) ∧ (a0 ≤ (6 : Int)))) : ((-2147483648) ≤ (a0 : Int)) := by omega
theorem ow_83_4 {a0 : Int} (h0 : (((-1) ≤ (a0 : Int)) ∧ (a0 ≤ (6 : Int)))) : (a0 ≤ (2147483647 : Int)) := by omega
theorem ow_83_5 {a0 : Int} (h0 : (((-1) ≤ (a0 : Int)) ∧ (a0 ≤ (6 : Int)))) (h1 : ((a0 < (0 : Int)) ∨ (6 < (a0 : Int)))) : (a0 = ((-1) : Int)) := by omega
theorem ow_83_6 {a0 : Int} (h0 : ((0 ≤ (a0 : Int)) ∧ (a0 ≤ (9 : Int)))) : ((-2147483648) ≤ (a0 : Int)) := by omega
theorem ow_83_7 {a0 : Int} (h0 : ((0 ≤ (a0 : Int)) ∧ (a0 ≤ (9 : Int)))) : (a0 ≤ (2147483647 : Int)) := by omega
theorem ow_83_8 {a0 : Int} (h0 : ((2 ≤ (a0 : Int)) ∧ (a0 ≤ (9 : Int)))) : ((-2147483648) ≤ (a0 : Int)) := by omega
theorem ow_83_9 {a0 : Int} (h0 : ((2 ≤ (a0 : Int)) ∧ (a0 ≤ (9 : Int)))) : (a0 ≤ (2147483647 : Int)) := by omega
theorem ow_83_10 {a0 a1 a2 : Int} (h0 : (a0 = (a1 : Int))) (h1 : (a2 ≤ (a0 : Int))) (h2 : (a1 ≤ (a2 : Int))) : (a2 = (a0 : Int)) := by omega
theorem ow_83_11 {a0 a1 : Int} {k2 : Nat} (h0 : ((2 ≤ (a0 : Int)) ∧ (a0 ≤ (9 : Int)))) (h1 : (a1 = (a0 : Int))) (h2 : (k2 < ((a1 : Int).toNat : Nat))) : (k2 < (9 : Nat)) := by omega
theorem ow_83_12 {a1 : Int} {k0 : Nat} (h0 : (((k0 : Nat) : Int) < (a1 : Int))) : (k0 < ((a1 : Int).toNat : Nat)) := by omega
theorem ow_83_13 {a0 a1 : Int} (h0 : ((2 ≤ (a0 : Int)) ∧ (a0 ≤ (9 : Int)))) (h1 : (a1 < (a0 : Int))) : ((a1 : Int).toNat < (9 : Nat)) := by omega
theorem ow_83_14 {a0 : Int} (h0 : ((0 ≤ (a0 : Int)) ∧ (a0 ≤ (9 : Int)))) : (0 ≤ (a0 : Int)) := by omega
theorem ow_83_15 {a0 a1 : Int} (h0 : ((2 ≤ (a0 : Int)) ∧ (a0 ≤ (9 : Int)))) (h1 : (a1 < (a0 : Int))) : (a1 < (((9 : Nat) : Int) : Int)) := by omega
theorem ow_83_16 {a0 a1 a3 : Int} {k2 : Nat} (h0 : ((2 ≤ (a0 : Int)) ∧ (a0 ≤ (9 : Int)))) (h1 : (((9 - a1) : Int).toNat = (k2 : Nat))) (h2 : (a1 < (a0 : Int))) (h3 : ((a1 + 1) = (a3 : Int))) : (((9 - a3) : Int).toNat < (k2 : Nat)) := by omega
theorem ow_83_17 {a0 a1 : Int} (h0 : ((0 ≤ (a0 : Int)) ∧ (a0 ≤ (9 : Int)))) (h1 : ((a0 + 1) = (a1 : Int))) : (0 ≤ (a1 : Int)) := by omega
theorem ow_83_18 {a0 a1 a2 : Int} (h0 : ((2 ≤ (a0 : Int)) ∧ (a0 ≤ (9 : Int)))) (h1 : (a1 < (a0 : Int))) (h2 : ((a1 + 1) = (a2 : Int))) : (a2 ≤ (9 : Int)) := by omega
theorem ow_83_19 {a0 a1 : Int} (h0 : ((0 ≤ (a0 : Int)) ∧ (a0 ≤ (720000000 : Int)))) (h1 : ((0 ≤ (a1 : Int)) ∧ (a1 ≤ (80000000 : Int)))) : (0 ≤ ((a0 + a1) : Int)) := by omega
theorem ow_83_20 {a0 a1 a2 a3 a4 : Int} (h0 : (a0 ≤ ((80000000 * a1) : Int))) (h1 : (a0 = (a2 : Int))) (h2 : ((0 ≤ (a3 : Int)) ∧ (a3 ≤ (720000000 : Int)))) (h3 : ((a1 + 1) = (a4 : Int))) (h4 : (a3 = (a2 : Int))) : ((a4 : Int).toNat = (((a1 : Int).toNat + 1) : Nat)) := by omega
theorem ow_83_21 {a0 a1 a2 : Int} (h0 : (a0 = (a1 : Int))) : ((a0 + a2) = ((a1 + a2) : Int)) := by omega
theorem ow_83_22 {a0 a1 a2 a3 : Int} (h0 : (a0 = (a1 : Int))) (h1 : (a2 < (a1 : Int))) (h2 : ((a2 + 1) = (a3 : Int))) : (a3 ≤ (a0 : Int)) := by omega
theorem ow_83_23 : (0 ≤ ((80000000 * 0) : Int)) := by omega
theorem ow_83_24 {a0 a1 : Int} (h0 : ((2 ≤ (a0 : Int)) ∧ (a0 ≤ (9 : Int)))) (h1 : (a1 = (a0 : Int))) : (0 ≤ (a1 : Int)) := by omega
theorem ow_83_25 {a0 : Int} (h0 : (a0 = (0 : Int))) : ((-2147483648) ≤ (a0 : Int)) := by omega
theorem ow_83_26 {a0 : Int} (h0 : (a0 = (0 : Int))) : (a0 ≤ (2147483647 : Int)) := by omega
theorem ow_83_27 {a0 : Int} (h0 : (a0 = (0 : Int))) : (0 ≤ (a0 : Int)) := by omega
theorem ow_83_28 {a0 : Int} (h0 : (a0 = (0 : Int))) : (a0 ≤ (6 : Int)) := by omega
theorem ow_83_29 {a0 : Int} (h0 : (a0 = (0 : Int))) : ¬(((a0 < (0 : Int)) ∨ (6 < (a0 : Int)))) := by omega
theorem ow_83_30 {a0 a1 : Int} (h0 : ((0 ≤ (a0 : Int)) ∧ (a0 ≤ (9 : Int)))) (h1 : ((a0 + 1) = (a1 : Int))) : ((a1 : Int).toNat = (((a0 : Int).toNat + 1) : Nat)) := by omega
theorem ow_83_31 {a0 : Int} (h0 : (a0 = (1 : Int))) : ((-2147483648) ≤ (a0 : Int)) := by omega
theorem ow_83_32 {a0 : Int} (h0 : (a0 = (1 : Int))) : (a0 ≤ (2147483647 : Int)) := by omega
theorem ow_83_33 {a0 : Int} (h0 : (a0 = (1 : Int))) : (0 ≤ (a0 : Int)) := by omega
theorem ow_83_34 {a0 : Int} (h0 : (a0 = (1 : Int))) : (a0 ≤ (6 : Int)) := by omega
theorem ow_83_35 {a0 : Int} (h0 : (a0 = (1 : Int))) : ¬(((a0 < (0 : Int)) ∨ (6 < (a0 : Int)))) := by omega
theorem ow_83_36 {a0 : Int} (h0 : (a0 = (1 : Int))) : ¬((a0 = (0 : Int))) := by omega
theorem ow_83_37 {a0 a1 a2 : Int} (h0 : (a0 ≤ ((80000000 * a1) : Int))) (h1 : (a0 = (a2 : Int))) (h2 : ((0 ≤ (a2 : Int)) ∧ (a2 ≤ (720000000 : Int)))) : (0 ≤ (a1 : Int)) := by omega
theorem ow_83_38 {a0 a1 a2 a3 : Int} (h0 : (a0 ≤ ((80000000 * a1) : Int))) (h1 : (a0 = (a2 : Int))) (h2 : ((0 ≤ (a2 : Int)) ∧ (a2 ≤ (720000000 : Int)))) (h3 : ((a1 + 1) = (a3 : Int))) : (0 ≤ (a3 : Int)) := by omega
theorem ow_83_39 {a0 : Int} (h0 : (a0 = (2 : Int))) : ((-2147483648) ≤ (a0 : Int)) := by omega
theorem ow_83_40 {a0 : Int} (h0 : (a0 = (2 : Int))) : (a0 ≤ (2147483647 : Int)) := by omega
theorem ow_83_41 {a0 : Int} (h0 : (a0 = (2 : Int))) : (0 ≤ (a0 : Int)) := by omega
theorem ow_83_42 {a0 : Int} (h0 : (a0 = (2 : Int))) : (a0 ≤ (6 : Int)) := by omega
theorem ow_83_43 {a0 : Int} (h0 : (a0 = (2 : Int))) : ¬(((a0 < (0 : Int)) ∨ (6 < (a0 : Int)))) := by omega
theorem ow_83_44 {a0 : Int} (h0 : (a0 = (2 : Int))) : ¬((a0 = (0 : Int))) := by omega
theorem ow_83_45 {a0 : Int} (h0 : (a0 = (2 : Int))) : ¬((a0 = (1 : Int))) := by omega
theorem ow_83_46 {a0 : Int} (h0 : (a0 = (3 : Int))) : ((-2147483648) ≤ (a0 : Int)) := by omega
theorem ow_83_47 {a0 : Int} (h0 : (a0 = (3 : Int))) : (a0 ≤ (2147483647 : Int)) := by omega
theorem ow_83_48 {a0 : Int} (h0 : (a0 = (3 : Int))) : (0 ≤ (a0 : Int)) := by omega
theorem ow_83_49 {a0 : Int} (h0 : (a0 = (3 : Int))) : (a0 ≤ (6 : Int)) := by omega
theorem ow_83_50 {a0 : Int} (h0 : (a0 = (3 : Int))) : ¬(((a0 < (0 : Int)) ∨ (6 < (a0 : Int)))) := by omega
theorem ow_83_51 {a0 : Int} (h0 : (a0 = (3 : Int))) : ¬((a0 = (0 : Int))) := by omega
theorem ow_83_52 {a0 : Int} (h0 : (a0 = (3 : Int))) : ¬((a0 = (1 : Int))) := by omega
theorem ow_83_53 {a0 : Int} (h0 : (a0 = (3 : Int))) : ¬((a0 = (2 : Int))) := by omega
theorem ow_83_54 {a0 : Int} (h0 : ((0 ≤ (a0 : Int)) ∧ (a0 ≤ (2368521 : Int)))) : ((-9223372036854775808) ≤ (a0 : Int)) := by omega
theorem ow_83_55 {a0 : Int} (h0 : ((0 ≤ (a0 : Int)) ∧ (a0 ≤ (2368521 : Int)))) : (a0 ≤ (9223372036854775807 : Int)) := by omega
theorem ow_83_56 {a0 a1 : Int} (h0 : (((a0 = (1 : Int)) ∧ (0 < (a1 : Int))) ∨ (((a0 = (0 : Int)) ∧ (a1 = (0 : Int))) ∨ ((a0 = ((-1) : Int)) ∧ (a1 < (0 : Int)))))) : ((-2147483648) ≤ (a0 : Int)) := by omega
theorem ow_83_57 {a0 a1 : Int} (h0 : (((a0 = (1 : Int)) ∧ (0 < (a1 : Int))) ∨ (((a0 = (0 : Int)) ∧ (a1 = (0 : Int))) ∨ ((a0 = ((-1) : Int)) ∧ (a1 < (0 : Int)))))) : (a0 ≤ (2147483647 : Int)) := by omega
theorem ow_83_58 {a0 a1 : Int} (h0 : ((0 ≤ (a0 : Int)) ∧ (a0 ≤ (2368521 : Int)))) (h1 : (((a1 = (1 : Int)) ∧ (0 < (a0 : Int))) ∨ (((a1 = (0 : Int)) ∧ (a0 = (0 : Int))) ∨ ((a1 = ((-1) : Int)) ∧ (a0 < (0 : Int)))))) (h2 : ¬((a1 = (0 : Int)))) : (1 ≤ (a0 : Int)) := by omega
theorem ow_83_59 {a0 a1 : Int} {k2 : Nat} (h0 : (a0 ≤ (a1 : Int))) (h1 : (((k2 : Nat) : Int) < (a0 : Int))) : (((k2 : Nat) : Int) < (a1 : Int)) := by omega
theorem ow_83_60 {a0 : Int} (h0 : ((0 ≤ (a0 : Int)) ∧ (a0 ≤ (1539 : Int)))) : ((-2147483648) ≤ (a0 : Int)) := by omega
theorem ow_83_61 {a0 : Int} (h0 : ((0 ≤ (a0 : Int)) ∧ (a0 ≤ (1539 : Int)))) : (a0 ≤ (2147483647 : Int)) := by omega
theorem ow_83_62 {a0 : Int} (h0 : ((0 ≤ (a0 : Int)) ∧ (a0 ≤ (171 : Int)))) : ((-2147483648) ≤ (a0 : Int)) := by omega
theorem ow_83_63 {a0 : Int} (h0 : ((0 ≤ (a0 : Int)) ∧ (a0 ≤ (171 : Int)))) : (a0 ≤ (2147483647 : Int)) := by omega
theorem ow_83_64 {a0 : Int} (h0 : ((0 ≤ (a0 : Int)) ∧ (a0 ≤ (1539 : Int)))) : (0 ≤ (a0 : Int)) := by omega
theorem ow_83_65 {a0 : Int} (h0 : ((0 ≤ (a0 : Int)) ∧ (a0 ≤ (171 : Int)))) : (0 ≤ (a0 : Int)) := by omega
theorem ow_83_66 {a0 : Int} (h0 : ((0 ≤ (a0 : Int)) ∧ (a0 ≤ (1539 : Int)))) : (a0 ≤ (1539 : Int)) := by omega
theorem ow_83_67 {a0 : Int} (h0 : ((0 ≤ (a0 : Int)) ∧ (a0 ≤ (171 : Int)))) : (a0 ≤ (171 : Int)) := by omega
theorem ow_83_68 {a0 a2 a3 : Int} {k1 : Nat} (h0 : (((9 - a0) : Int).toNat = (k1 : Nat))) (h1 : ((2 ≤ (a2 : Int)) ∧ (a2 ≤ (9 : Int)))) (h2 : (a0 < (a2 : Int))) (h3 : ((a0 + 1) = (a3 : Int))) : (((9 - a3) : Int).toNat < (k1 : Nat)) := by omega
theorem ow_83_69 {a0 : Int} (h0 : ((0 ≤ (a0 : Int)) ∧ (a0 ≤ (263169 : Int)))) : (0 ≤ (a0 : Int)) := by omega
theorem ow_83_70 {a0 : Int} (h0 : ((0 ≤ (a0 : Int)) ∧ (a0 ≤ (263169 : Int)))) : (a0 ≤ (80000000 : Int)) := by omega
theorem ow_83_71 {a0 a1 : Int} {k2 : Nat} (h0 : ((a0 + 1) = (a1 : Int))) (h1 : (((k2 : Nat) : Int) < (a1 : Int))) (h2 : ¬((k2 = ((a0 : Int).toNat : Nat)))) : (((k2 : Nat) : Int) < (a0 : Int)) := by omega
theorem ow_83_72 {k0 : Nat} (h0 : (((k0 : Nat) : Int) < (0 : Int))) : ¬((((k0 : Nat) : Int) < (0 : Int))) := by omega
theorem ow_83_73 {a0 : Int} (h0 : (a0 = (4 : Int))) : ((-2147483648) ≤ (a0 : Int)) := by omega
theorem ow_83_74 {a0 : Int} (h0 : (a0 = (4 : Int))) : (a0 ≤ (2147483647 : Int)) := by omega
theorem ow_83_75 {a0 : Int} (h0 : (a0 = (4 : Int))) : (0 ≤ (a0 : Int)) := by omega
theorem ow_83_76 {a0 : Int} (h0 : (a0 = (4 : Int))) : (a0 ≤ (6 : Int)) := by omega
theorem ow_83_77 {a0 : Int} (h0 : (a0 = (4 : Int))) : ¬(((a0 < (0 : Int)) ∨ (6 < (a0 : Int)))) := by omega
theorem ow_83_78 {a0 : Int} (h0 : (a0 = (4 : Int))) : ¬((a0 = (0 : Int))) := by omega
theorem ow_83_79 {a0 : Int} (h0 : (a0 = (4 : Int))) : ¬((a0 = (1 : Int))) := by omega
theorem ow_83_80 {a0 : Int} (h0 : (a0 = (4 : Int))) : ¬((a0 = (2 : Int))) := by omega
theorem ow_83_81 {a0 : Int} (h0 : (a0 = (4 : Int))) : ¬((a0 = (3 : Int))) := by omega
theorem ow_83_82 {a0 a1 a2 a3 : Int} (h0 : (a0 ≤ ((80000000 * a1) : Int))) (h1 : (a0 = (a2 : Int))) (h2 : ((0 ≤ (a2 : Int)) ∧ (a2 ≤ (720000000 : Int)))) (h3 : ((a1 + 1) = (a3 : Int))) : ((a3 : Int).toNat = (((a1 : Int).toNat + 1) : Nat)) := by omega
theorem ow_83_83 {a0 : Int} (h0 : (a0 = (5 : Int))) : ((-2147483648) ≤ (a0 : Int)) := by omega
theorem ow_83_84 {a0 : Int} (h0 : (a0 = (5 : Int))) : (a0 ≤ (2147483647 : Int)) := by omega
theorem ow_83_85 {a0 : Int} (h0 : (a0 = (5 : Int))) : (0 ≤ (a0 : Int)) := by omega
theorem ow_83_86 {a0 : Int} (h0 : (a0 = (5 : Int))) : (a0 ≤ (6 : Int)) := by omega
theorem ow_83_87 {a0 : Int} (h0 : (a0 = (5 : Int))) : ¬(((a0 < (0 : Int)) ∨ (6 < (a0 : Int)))) := by omega
theorem ow_83_88 {a0 : Int} (h0 : (a0 = (5 : Int))) : ¬((a0 = (0 : Int))) := by omega
theorem ow_83_89 {a0 : Int} (h0 : (a0 = (5 : Int))) : ¬((a0 = (1 : Int))) := by omega
theorem ow_83_90 {a0 : Int} (h0 : (a0 = (5 : Int))) : ¬((a0 = (2 : Int))) := by omega
theorem ow_83_91 {a0 : Int} (h0 : (a0 = (5 : Int))) : ¬((a0 = (3 : Int))) := by omega
theorem ow_83_92 {a0 : Int} (h0 : (a0 = (5 : Int))) : ¬((a0 = (4 : Int))) := by omega
theorem ow_83_93 {a0 : Int} (h0 : (a0 = (6 : Int))) : ((-2147483648) ≤ (a0 : Int)) := by omega
theorem ow_83_94 {a0 : Int} (h0 : (a0 = (6 : Int))) : (0 ≤ (a0 : Int)) := by omega
theorem ow_83_95 {a0 : Int} (h0 : (((-1) ≤ (a0 : Int)) ∧ (a0 ≤ (6 : Int)))) : (a0 ≤ (6 : Int)) := by omega
theorem ow_83_96 {a0 : Int} (h0 : (((-1) ≤ (a0 : Int)) ∧ (a0 ≤ (6 : Int)))) (h1 : (a0 = (6 : Int))) : ¬(((a0 < (0 : Int)) ∨ (6 < (a0 : Int)))) := by omega
theorem ow_83_97 {a0 : Int} (h0 : (a0 = (6 : Int))) : ¬((a0 = (0 : Int))) := by omega
theorem ow_83_98 {a0 : Int} (h0 : (a0 = (6 : Int))) : ¬((a0 = (1 : Int))) := by omega
theorem ow_83_99 {a0 : Int} (h0 : (a0 = (6 : Int))) : ¬((a0 = (2 : Int))) := by omega
theorem ow_83_100 {a0 : Int} (h0 : (a0 = (6 : Int))) : ¬((a0 = (3 : Int))) := by omega
theorem ow_83_101 {a0 : Int} (h0 : (a0 = (6 : Int))) : ¬((a0 = (4 : Int))) := by omega
theorem ow_83_102 {a0 : Int} (h0 : (a0 = (6 : Int))) : ¬((a0 = (5 : Int))) := by omega
theorem ow_83_103 {a0 : Int} (h0 : ((1 ≤ (a0 : Int)) ∧ (a0 ≤ (171 : Int)))) : (1 ≤ (a0 : Int)) := by omega
theorem ow_83_104 {a0 : Int} (h0 : ((1 ≤ (a0 : Int)) ∧ (a0 ≤ (171 : Int)))) : (a0 ≤ (171 : Int)) := by omega
theorem ow_83_105 {a0 a1 a2 : Int} (h0 : ¬((a0 = (5 : Int)))) (h1 : (a0 = (5 : Int))) : ((a1 + a2) ≤ (720000000 : Int)) := by omega
theorem ow_83_106 {a0 a1 a2 a3 : Int} (h0 : ¬((a0 = (5 : Int)))) (h1 : (a0 = (5 : Int))) : ((a1 + a2) ≤ ((80000000 * a3) : Int)) := by omega
theorem ow_83_107 {a0 a1 a2 : Int} (h0 : ¬((a0 = (5 : Int)))) (h1 : (a0 = (5 : Int))) : ((a1 : Int).toNat = (((a2 : Int).toNat + 1) : Nat)) := by omega
theorem ow_83_108 {a0 a1 : Int} (h0 : ((0 ≤ (a0 : Int)) ∧ (a0 ≤ (12 : Int)))) (h1 : (a1 < (a0 : Int))) : (((3 * a1) : Int).toNat < (36 : Nat)) := by omega
theorem ow_83_109 {a0 : Int} (h0 : ((0 ≤ (a0 : Int)) ∧ (a0 ≤ (12 : Int)))) : (0 ≤ ((3 * a0) : Int)) := by omega
theorem ow_83_110 {a0 a1 : Int} (h0 : ((0 ≤ (a0 : Int)) ∧ (a0 ≤ (12 : Int)))) (h1 : (a1 < (a0 : Int))) : ((3 * a1) < (((36 : Nat) : Int) : Int)) := by omega
theorem ow_83_111 {a0 : Int} (h0 : (((-1) ≤ (a0 : Int)) ∧ (a0 ≤ (8 : Int)))) : ((-2147483648) ≤ (a0 : Int)) := by omega
theorem ow_83_112 {a0 : Int} (h0 : (((-1) ≤ (a0 : Int)) ∧ (a0 ≤ (8 : Int)))) : (a0 ≤ (2147483647 : Int)) := by omega
theorem ow_83_113 {a0 : Int} (h0 : ((0 ≤ (a0 : Int)) ∧ (a0 ≤ (8 : Int)))) : ((-2147483648) ≤ (a0 : Int)) := by omega
theorem ow_83_114 {a0 : Int} (h0 : ((0 ≤ (a0 : Int)) ∧ (a0 ≤ (8 : Int)))) : (a0 ≤ (2147483647 : Int)) := by omega
theorem ow_83_115 {a0 a2 a3 : Int} {k1 : Nat} (h0 : (((12 - a0) : Int).toNat = (k1 : Nat))) (h1 : ((0 ≤ (a2 : Int)) ∧ (a2 ≤ (12 : Int)))) (h2 : (a0 < (a2 : Int))) (h3 : ((a0 + 1) = (a3 : Int))) : (((12 - a3) : Int).toNat < (k1 : Nat)) := by omega
theorem ow_83_116 {a0 : Int} (h0 : (a0 = (5 : Int))) : ((-1) ≤ (a0 : Int)) := by omega
theorem ow_83_117 {a0 a1 : Int} (h0 : ((0 ≤ (a0 : Int)) ∧ (a0 ≤ (12 : Int)))) (h1 : ((a0 + 1) = (a1 : Int))) : (0 ≤ (a1 : Int)) := by omega
theorem ow_83_118 {a0 a1 a2 : Int} (h0 : ((0 ≤ (a0 : Int)) ∧ (a0 ≤ (12 : Int)))) (h1 : (a1 < (a0 : Int))) (h2 : ((a1 + 1) = (a2 : Int))) : (a2 ≤ (12 : Int)) := by omega
theorem ow_83_119 {a0 a1 : Int} (h0 : ((0 ≤ (a0 : Int)) ∧ (a0 ≤ (12 : Int)))) (h1 : (a1 < (a0 : Int))) : ((((3 * a1) + 1) : Int).toNat < (36 : Nat)) := by omega
theorem ow_83_120 {a0 : Int} (h0 : ((0 ≤ (a0 : Int)) ∧ (a0 ≤ (12 : Int)))) : (0 ≤ (((3 * a0) + 1) : Int)) := by omega
theorem ow_83_121 {a0 a1 : Int} (h0 : ((0 ≤ (a0 : Int)) ∧ (a0 ≤ (12 : Int)))) (h1 : (a1 < (a0 : Int))) : (((3 * a1) + 1) < (((36 : Nat) : Int) : Int)) := by omega
theorem ow_83_122 {a0 : Int} (h0 : ((0 ≤ (a0 : Int)) ∧ (a0 ≤ (12 : Int)))) : (0 ≤ (a0 : Int)) := by omega
theorem ow_83_123 {a0 a1 a2 : Int} (h0 : (a0 = (a1 : Int))) (h1 : (a2 < (a1 : Int))) : (a2 < (a0 : Int)) := by omega
theorem ow_83_124 {a0 a1 : Int} (h0 : ((2 ≤ (a0 : Int)) ∧ (a0 ≤ (9 : Int)))) (h1 : ((0 ≤ (a1 : Int)) ∧ (a1 < (a0 : Int)))) : ((((a1 : Int).toNat : Nat) : Int) < (a0 : Int)) := by omega
theorem ow_83_125 {a0 a1 a2 : Int} (h0 : ((0 ≤ (a0 : Int)) ∧ (a0 < (a1 : Int)))) (h1 : (a1 ≤ (a2 : Int))) : (a0 < (a2 : Int)) := by omega
theorem ow_83_126 {a0 a1 : Int} (h0 : ((0 ≤ (a0 : Int)) ∧ (a0 ≤ (12 : Int)))) (h1 : (a1 < (a0 : Int))) : ((((3 * a1) + 2) : Int).toNat < (36 : Nat)) := by omega
theorem ow_83_127 {a0 : Int} (h0 : ((0 ≤ (a0 : Int)) ∧ (a0 ≤ (12 : Int)))) : (0 ≤ (((3 * a0) + 2) : Int)) := by omega
theorem ow_83_128 {a0 a1 : Int} (h0 : ((0 ≤ (a0 : Int)) ∧ (a0 ≤ (12 : Int)))) (h1 : (a1 < (a0 : Int))) : (((3 * a1) + 2) < (((36 : Nat) : Int) : Int)) := by omega
theorem ow_83_129 {a0 a1 : Int} (h0 : ((0 ≤ (a0 : Int)) ∧ (a0 < (a1 : Int)))) : (0 ≤ (a0 : Int)) := by omega
theorem ow_83_130 {a0 a1 a2 a3 : Int} (h0 : (a0 = (a1 : Int))) (h1 : (a0 = (a2 : Int))) (h2 : ¬((a3 = (a2 : Int)))) (h3 : (a1 = (a3 : Int))) : (1 ≤ (0 : Int)) := by omega
theorem ow_83_131 {a0 a1 a2 a3 a4 : Int} (h0 : (a0 = (a1 : Int))) (h1 : (a0 = (a2 : Int))) (h2 : ¬((a3 = (a2 : Int)))) (h3 : ((a3 + 1) = (a4 : Int))) (h4 : (a1 < (a4 : Int))) : (a1 < (a3 : Int)) := by omega
theorem ow_83_132 : (1 ≤ (1 : Int)) := by omega
theorem ow_83_133 {a0 a1 a2 : Int} (h0 : ((a0 + 1) = (a1 : Int))) (h1 : (a2 < (a1 : Int))) (h2 : (a2 ≠ (a0 : Int))) : (a2 < (a0 : Int)) := by omega
theorem ow_83_134 {a0 a1 : Int} (h0 : ((0 ≤ (a0 : Int)) ∧ (a0 < (a1 : Int)))) (h1 : (a0 < (0 : Int))) : ¬((a0 < (0 : Int))) := by omega
theorem ow_83_135 {a0 : Int} (h0 : ((0 ≤ (a0 : Int)) ∧ (a0 ≤ (6 : Int)))) : ((-1) ≤ (a0 : Int)) := by omega
theorem ow_83_136 {a0 : Int} (h0 : ((0 ≤ (a0 : Int)) ∧ (a0 ≤ (6 : Int)))) : (a0 ≤ (6 : Int)) := by omega
theorem ow_83_137 {a0 : Int} (h0 : ((0 ≤ (a0 : Int)) ∧ (a0 ≤ (6 : Int)))) : ¬((a0 = ((-1) : Int))) := by omega
noncomputable def F_X12_weighs (a1 : Int) (V0 : pm_M) : Int × pm_M := pf_let (V0 90 42) fun z0 => pf_let (V0 90 43) fun z1 => pf_val ((0 : Int), V0) (fun (q : Int × Int × pm_M) => match q with | (x1, x3, V5) => (pf_let (V5 90 21) fun y22 => (if y22 ≤ x3 then ((if x1 < 0 ∨ 6 < x1 then (pf_let (V5 90 16) fun y28 => pf_let ((pm_up V5 90 51 0)) fun V31 => pf_val (.inr ((0 : Int), V0)) (fun (q : Int × pm_M) => match q with | (x45, V47) => ((if y28 ≤ x45 then ((.inr (.inr (0, V47)))) else (pf_let (V47 90 51) fun y70 => pf_let (V47 112 (x45 : Int).toNat) fun y74 => pf_let (x45 + 1) fun x77 => (.inl (x77, (pm_up V47 90 51 (y70 + y74)))))))) (0, V31)) else (if x1 = 0 then (pf_call (F_X12_takesVoice  V5) fun _ V80 => pf_let (V80 90 16) fun y94 => pf_let ((pm_up V80 90 51 0)) fun V97 => pf_val (.inr ((0 : Int), V0)) (fun (q : Int × pm_M) => match q with | (x111, V113) => ((if y94 ≤ x111 then ((.inr (.inr (0, V113)))) else (pf_let (V113 90 51) fun y136 => pf_let (V113 112 (x111 : Int).toNat) fun y140 => pf_let (x111 + 1) fun x143 => (.inl (x143, (pm_up V113 90 51 (y136 + y140)))))))) (0, V97)) else (if x1 = 1 then (pf_call (F_X12_takesFace  V5) fun _ V146 => pf_let (V146 90 16) fun y160 => pf_let ((pm_up V146 90 51 0)) fun V163 => pf_val (.inr ((0 : Int), V0)) (fun (q : Int × pm_M) => match q with | (x177, V179) => ((if y160 ≤ x177 then ((.inr (.inr (0, V179)))) else (pf_let (V179 90 51) fun y202 => pf_let (V179 112 (x177 : Int).toNat) fun y206 => pf_let (x177 + 1) fun x209 => (.inl (x209, (pm_up V179 90 51 (y202 + y206)))))))) (0, V163)) else (if x1 = 2 then (pf_call (F_X12_takesSurer  V5) fun _ V212 => pf_let (V212 90 16) fun y226 => pf_let ((pm_up V212 90 51 0)) fun V229 => pf_val (.inr ((0 : Int), V0)) (fun (q : Int × pm_M) => match q with | (x243, V245) => ((if y226 ≤ x243 then ((.inr (.inr (0, V245)))) else (pf_let (V245 90 51) fun y268 => pf_let (V245 112 (x243 : Int).toNat) fun y272 => pf_let (x243 + 1) fun x275 => (.inl (x275, (pm_up V245 90 51 (y268 + y272)))))))) (0, V229)) else (if x1 = 3 then (pf_val (.inr ((0 : Int), V0)) (fun (q : Int × pm_M) => match q with | (x277, V279) => (pf_let (V279 90 16) fun y297 => (if y297 ≤ x277 then (pf_let (V279 90 46) fun y301 => pf_let (pm_cmp y301 0) fun y304 => (if ¬ (y304 = 0) then (pf_let ((pm_up V279 90 51 0)) fun V308 => pf_val (.inr (.inr ((0 : Int), V0))) (fun (q : Int × pm_M) => match q with | (x323, V325) => ((if y297 ≤ x323 then ((.inr (.inr (.inr (0, V325))))) else (pf_let (V325 90 51) fun y349 => pf_let (V325 112 (x323 : Int).toNat) fun y353 => pf_let (x323 + 1) fun x356 => (.inl (x356, (pm_up V325 90 51 (y349 + y353)))))))) (0, V308)) else (pf_call (F_X12_takesVoice  V279) fun _ V359 => pf_let ((pm_up V359 90 51 0)) fun V375 => pf_val (.inr (.inr ((0 : Int), V0))) (fun (q : Int × pm_M) => match q with | (x390, V392) => ((if y297 ≤ x390 then ((.inr (.inr (.inr (0, V392))))) else (pf_let (V392 90 51) fun y416 => pf_let (V392 112 (x390 : Int).toNat) fun y420 => pf_let (x390 + 1) fun x423 => (.inl (x423, (pm_up V392 90 51 (y416 + y420)))))))) (0, V375)))) else (pf_let (V279 110 (x277 : Int).toNat) fun y427 => pf_let (V279 111 (x277 : Int).toNat) fun y431 => pf_let ((y427 * y431)) fun y434 => pf_let (x277 + 1) fun x436 => (.inl (x436, (pm_up V279 112 (x277 : Int).toNat y434))))))) (0, V5)) else (if x1 = 4 then (pf_call (F_X12_takesOdds  V5) fun _ V439 => pf_let (V439 90 16) fun y453 => pf_let ((pm_up V439 90 51 0)) fun V456 => pf_val (.inr ((0 : Int), V0)) (fun (q : Int × pm_M) => match q with | (x470, V472) => ((if y453 ≤ x470 then ((.inr (.inr (0, V472)))) else (pf_let (V472 90 51) fun y495 => pf_let (V472 112 (x470 : Int).toNat) fun y499 => pf_let (x470 + 1) fun x502 => (.inl (x502, (pm_up V472 90 51 (y495 + y499)))))))) (0, V456)) else (if x1 = 5 then (pf_call (F_X12_takesOdds  V5) fun _ V505 => pf_let (V505 90 16) fun y519 => pf_let ((pm_up V505 90 51 0)) fun V522 => pf_val (.inr ((0 : Int), V0)) (fun (q : Int × pm_M) => match q with | (x536, V538) => ((if y519 ≤ x536 then ((.inr (.inr (0, V538)))) else (pf_let (V538 90 51) fun y561 => pf_let (V538 112 (x536 : Int).toNat) fun y565 => pf_let (x536 + 1) fun x568 => (.inl (x568, (pm_up V538 90 51 (y561 + y565)))))))) (0, V522)) else (if x1 = 6 then (pf_call (F_X12_takesBetween  V5) fun _ V571 => pf_let (V571 90 16) fun y587 => pf_let ((pm_up V571 90 51 0)) fun V590 => pf_val (.inr ((0 : Int), V0)) (fun (q : Int × pm_M) => match q with | (x604, V606) => ((if y587 ≤ x604 then ((.inr (.inr (0, V606)))) else (pf_let (V606 90 51) fun y629 => pf_let (V606 112 (x604 : Int).toNat) fun y633 => pf_let (x604 + 1) fun x636 => (.inl (x636, (pm_up V606 90 51 (y629 + y633)))))))) (0, V590)) else ((.inr ((0 : Int), V0)))))))))))) else ((if ¬ (x1 = 5) then ((if x1 < 0 ∨ 6 < x1 then (pf_let (V5 90 16) fun y641 => pf_let ((pm_up V5 90 51 0)) fun V644 => pf_val (.inr ((0 : Int), V0)) (fun (q : Int × pm_M) => match q with | (x658, V660) => ((if y641 ≤ x658 then ((.inr (.inr (0, V660)))) else (pf_let (V660 90 51) fun y683 => pf_let (V660 112 (x658 : Int).toNat) fun y687 => pf_let (x658 + 1) fun x690 => (.inl (x690, (pm_up V660 90 51 (y683 + y687)))))))) (0, V644)) else (if x1 = 0 then (pf_call (F_X12_takesVoice  V5) fun _ V693 => pf_let (V693 90 16) fun y707 => pf_let ((pm_up V693 90 51 0)) fun V710 => pf_val (.inr ((0 : Int), V0)) (fun (q : Int × pm_M) => match q with | (x724, V726) => ((if y707 ≤ x724 then ((.inr (.inr (0, V726)))) else (pf_let (V726 90 51) fun y749 => pf_let (V726 112 (x724 : Int).toNat) fun y753 => pf_let (x724 + 1) fun x756 => (.inl (x756, (pm_up V726 90 51 (y749 + y753)))))))) (0, V710)) else (if x1 = 1 then (pf_call (F_X12_takesFace  V5) fun _ V759 => pf_let (V759 90 16) fun y773 => pf_let ((pm_up V759 90 51 0)) fun V776 => pf_val (.inr ((0 : Int), V0)) (fun (q : Int × pm_M) => match q with | (x790, V792) => ((if y773 ≤ x790 then ((.inr (.inr (0, V792)))) else (pf_let (V792 90 51) fun y815 => pf_let (V792 112 (x790 : Int).toNat) fun y819 => pf_let (x790 + 1) fun x822 => (.inl (x822, (pm_up V792 90 51 (y815 + y819)))))))) (0, V776)) else (if x1 = 2 then (pf_call (F_X12_takesSurer  V5) fun _ V825 => pf_let (V825 90 16) fun y839 => pf_let ((pm_up V825 90 51 0)) fun V842 => pf_val (.inr ((0 : Int), V0)) (fun (q : Int × pm_M) => match q with | (x856, V858) => ((if y839 ≤ x856 then ((.inr (.inr (0, V858)))) else (pf_let (V858 90 51) fun y881 => pf_let (V858 112 (x856 : Int).toNat) fun y885 => pf_let (x856 + 1) fun x888 => (.inl (x888, (pm_up V858 90 51 (y881 + y885)))))))) (0, V842)) else (if x1 = 3 then (pf_val (.inr ((0 : Int), V0)) (fun (q : Int × pm_M) => match q with | (x890, V892) => (pf_let (V892 90 16) fun y910 => (if y910 ≤ x890 then (pf_let (V892 90 46) fun y914 => pf_let (pm_cmp y914 0) fun y917 => (if ¬ (y917 = 0) then (pf_let ((pm_up V892 90 51 0)) fun V921 => pf_val (.inr (.inr ((0 : Int), V0))) (fun (q : Int × pm_M) => match q with | (x936, V938) => ((if y910 ≤ x936 then ((.inr (.inr (.inr (0, V938))))) else (pf_let (V938 90 51) fun y962 => pf_let (V938 112 (x936 : Int).toNat) fun y966 => pf_let (x936 + 1) fun x969 => (.inl (x969, (pm_up V938 90 51 (y962 + y966)))))))) (0, V921)) else (pf_call (F_X12_takesVoice  V892) fun _ V972 => pf_let ((pm_up V972 90 51 0)) fun V988 => pf_val (.inr (.inr ((0 : Int), V0))) (fun (q : Int × pm_M) => match q with | (x1003, V1005) => ((if y910 ≤ x1003 then ((.inr (.inr (.inr (0, V1005))))) else (pf_let (V1005 90 51) fun y1029 => pf_let (V1005 112 (x1003 : Int).toNat) fun y1033 => pf_let (x1003 + 1) fun x1036 => (.inl (x1036, (pm_up V1005 90 51 (y1029 + y1033)))))))) (0, V988)))) else (pf_let (V892 110 (x890 : Int).toNat) fun y1040 => pf_let (V892 111 (x890 : Int).toNat) fun y1044 => pf_let ((y1040 * y1044)) fun y1047 => pf_let (x890 + 1) fun x1049 => (.inl (x1049, (pm_up V892 112 (x890 : Int).toNat y1047))))))) (0, V5)) else (if x1 = 4 then (pf_call (F_X12_takesOdds  V5) fun _ V1052 => pf_let (V1052 90 16) fun y1066 => pf_let ((pm_up V1052 90 51 0)) fun V1069 => pf_val (.inr ((0 : Int), V0)) (fun (q : Int × pm_M) => match q with | (x1083, V1085) => ((if y1066 ≤ x1083 then ((.inr (.inr (0, V1085)))) else (pf_let (V1085 90 51) fun y1108 => pf_let (V1085 112 (x1083 : Int).toNat) fun y1112 => pf_let (x1083 + 1) fun x1115 => (.inl (x1115, (pm_up V1085 90 51 (y1108 + y1112)))))))) (0, V1069)) else (if x1 = 5 then (pf_call (F_X12_takesOdds  V5) fun _ V1118 => pf_let (V1118 90 16) fun y1132 => pf_let ((pm_up V1118 90 51 0)) fun V1135 => pf_val (.inr ((0 : Int), V0)) (fun (q : Int × pm_M) => match q with | (x1149, V1151) => ((if y1132 ≤ x1149 then ((.inr (.inr (0, V1151)))) else (pf_let (V1151 90 51) fun y1174 => pf_let (V1151 112 (x1149 : Int).toNat) fun y1178 => pf_let (x1149 + 1) fun x1181 => (.inl (x1181, (pm_up V1151 90 51 (y1174 + y1178)))))))) (0, V1135)) else (if x1 = 6 then (pf_call (F_X12_takesBetween  V5) fun _ V1184 => pf_let (V1184 90 16) fun y1200 => pf_let ((pm_up V1184 90 51 0)) fun V1203 => pf_val (.inr ((0 : Int), V0)) (fun (q : Int × pm_M) => match q with | (x1217, V1219) => ((if y1200 ≤ x1217 then ((.inr (.inr (0, V1219)))) else (pf_let (V1219 90 51) fun y1242 => pf_let (V1219 112 (x1217 : Int).toNat) fun y1246 => pf_let (x1217 + 1) fun x1249 => (.inl (x1249, (pm_up V1219 90 51 (y1242 + y1246)))))))) (0, V1203)) else ((.inr ((0 : Int), V0)))))))))))) else (pf_let (V5 99 ((3 * x3) : Int).toNat) fun y1252 => pf_let (V5 90 48) fun y1255 => (if ¬ (y1252 = y1255) then (pf_let (x3 + 1) fun x1259 => (.inl (x1, x1259, V5))) else (pf_let (V5 99 (((3 * x3) + 1) : Int).toNat) fun y1261 => pf_let (V5 90 49) fun y1264 => (if y1261 = y1264 then (pf_let (V5 90 16) fun y1268 => pf_val (.inr ((0 : Int), V0)) (fun (q : Int × pm_M) => match q with | (x1274, V1276) => ((if y1268 ≤ x1274 then (pf_let (x3 + 1) fun x1300 => (.inr (.inl ((-1), x1300, V1276)))) else (pf_let (V1276 99 (((3 * x3) + 2) : Int).toNat) fun y1303 => (if ¬ (x1274 = y1303) then (pf_let (x1274 + 1) fun x1307 => (.inl (x1307, (pm_up V1276 112 (x1274 : Int).toNat 0)))) else (pf_let (x1274 + 1) fun x1309 => (.inl (x1309, (pm_up V1276 112 (x1274 : Int).toNat 1))))))))) (0, V5)) else (pf_let (x3 + 1) fun x1311 => (.inl (x1, x1311, V5)))))))))))) (a1, 0, V0)
theorem F_X12_weighs_eq (a1 : Int) (V0 : pm_M) : F_X12_weighs a1 V0 = pf_let (V0 90 42) fun z0 => pf_let (V0 90 43) fun z1 => pf_val ((0 : Int), V0) (fun (q : Int × Int × pm_M) => match q with | (x1, x3, V5) => (pf_let (V5 90 21) fun y22 => (if y22 ≤ x3 then ((if x1 < 0 ∨ 6 < x1 then (pf_let (V5 90 16) fun y28 => pf_let ((pm_up V5 90 51 0)) fun V31 => pf_val (.inr ((0 : Int), V0)) (fun (q : Int × pm_M) => match q with | (x45, V47) => ((if y28 ≤ x45 then ((.inr (.inr (0, V47)))) else (pf_let (V47 90 51) fun y70 => pf_let (V47 112 (x45 : Int).toNat) fun y74 => pf_let (x45 + 1) fun x77 => (.inl (x77, (pm_up V47 90 51 (y70 + y74)))))))) (0, V31)) else (if x1 = 0 then (pf_call (F_X12_takesVoice  V5) fun _ V80 => pf_let (V80 90 16) fun y94 => pf_let ((pm_up V80 90 51 0)) fun V97 => pf_val (.inr ((0 : Int), V0)) (fun (q : Int × pm_M) => match q with | (x111, V113) => ((if y94 ≤ x111 then ((.inr (.inr (0, V113)))) else (pf_let (V113 90 51) fun y136 => pf_let (V113 112 (x111 : Int).toNat) fun y140 => pf_let (x111 + 1) fun x143 => (.inl (x143, (pm_up V113 90 51 (y136 + y140)))))))) (0, V97)) else (if x1 = 1 then (pf_call (F_X12_takesFace  V5) fun _ V146 => pf_let (V146 90 16) fun y160 => pf_let ((pm_up V146 90 51 0)) fun V163 => pf_val (.inr ((0 : Int), V0)) (fun (q : Int × pm_M) => match q with | (x177, V179) => ((if y160 ≤ x177 then ((.inr (.inr (0, V179)))) else (pf_let (V179 90 51) fun y202 => pf_let (V179 112 (x177 : Int).toNat) fun y206 => pf_let (x177 + 1) fun x209 => (.inl (x209, (pm_up V179 90 51 (y202 + y206)))))))) (0, V163)) else (if x1 = 2 then (pf_call (F_X12_takesSurer  V5) fun _ V212 => pf_let (V212 90 16) fun y226 => pf_let ((pm_up V212 90 51 0)) fun V229 => pf_val (.inr ((0 : Int), V0)) (fun (q : Int × pm_M) => match q with | (x243, V245) => ((if y226 ≤ x243 then ((.inr (.inr (0, V245)))) else (pf_let (V245 90 51) fun y268 => pf_let (V245 112 (x243 : Int).toNat) fun y272 => pf_let (x243 + 1) fun x275 => (.inl (x275, (pm_up V245 90 51 (y268 + y272)))))))) (0, V229)) else (if x1 = 3 then (pf_val (.inr ((0 : Int), V0)) (fun (q : Int × pm_M) => match q with | (x277, V279) => (pf_let (V279 90 16) fun y297 => (if y297 ≤ x277 then (pf_let (V279 90 46) fun y301 => pf_let (pm_cmp y301 0) fun y304 => (if ¬ (y304 = 0) then (pf_let ((pm_up V279 90 51 0)) fun V308 => pf_val (.inr (.inr ((0 : Int), V0))) (fun (q : Int × pm_M) => match q with | (x323, V325) => ((if y297 ≤ x323 then ((.inr (.inr (.inr (0, V325))))) else (pf_let (V325 90 51) fun y349 => pf_let (V325 112 (x323 : Int).toNat) fun y353 => pf_let (x323 + 1) fun x356 => (.inl (x356, (pm_up V325 90 51 (y349 + y353)))))))) (0, V308)) else (pf_call (F_X12_takesVoice  V279) fun _ V359 => pf_let ((pm_up V359 90 51 0)) fun V375 => pf_val (.inr (.inr ((0 : Int), V0))) (fun (q : Int × pm_M) => match q with | (x390, V392) => ((if y297 ≤ x390 then ((.inr (.inr (.inr (0, V392))))) else (pf_let (V392 90 51) fun y416 => pf_let (V392 112 (x390 : Int).toNat) fun y420 => pf_let (x390 + 1) fun x423 => (.inl (x423, (pm_up V392 90 51 (y416 + y420)))))))) (0, V375)))) else (pf_let (V279 110 (x277 : Int).toNat) fun y427 => pf_let (V279 111 (x277 : Int).toNat) fun y431 => pf_let ((y427 * y431)) fun y434 => pf_let (x277 + 1) fun x436 => (.inl (x436, (pm_up V279 112 (x277 : Int).toNat y434))))))) (0, V5)) else (if x1 = 4 then (pf_call (F_X12_takesOdds  V5) fun _ V439 => pf_let (V439 90 16) fun y453 => pf_let ((pm_up V439 90 51 0)) fun V456 => pf_val (.inr ((0 : Int), V0)) (fun (q : Int × pm_M) => match q with | (x470, V472) => ((if y453 ≤ x470 then ((.inr (.inr (0, V472)))) else (pf_let (V472 90 51) fun y495 => pf_let (V472 112 (x470 : Int).toNat) fun y499 => pf_let (x470 + 1) fun x502 => (.inl (x502, (pm_up V472 90 51 (y495 + y499)))))))) (0, V456)) else (if x1 = 5 then (pf_call (F_X12_takesOdds  V5) fun _ V505 => pf_let (V505 90 16) fun y519 => pf_let ((pm_up V505 90 51 0)) fun V522 => pf_val (.inr ((0 : Int), V0)) (fun (q : Int × pm_M) => match q with | (x536, V538) => ((if y519 ≤ x536 then ((.inr (.inr (0, V538)))) else (pf_let (V538 90 51) fun y561 => pf_let (V538 112 (x536 : Int).toNat) fun y565 => pf_let (x536 + 1) fun x568 => (.inl (x568, (pm_up V538 90 51 (y561 + y565)))))))) (0, V522)) else (if x1 = 6 then (pf_call (F_X12_takesBetween  V5) fun _ V571 => pf_let (V571 90 16) fun y587 => pf_let ((pm_up V571 90 51 0)) fun V590 => pf_val (.inr ((0 : Int), V0)) (fun (q : Int × pm_M) => match q with | (x604, V606) => ((if y587 ≤ x604 then ((.inr (.inr (0, V606)))) else (pf_let (V606 90 51) fun y629 => pf_let (V606 112 (x604 : Int).toNat) fun y633 => pf_let (x604 + 1) fun x636 => (.inl (x636, (pm_up V606 90 51 (y629 + y633)))))))) (0, V590)) else ((.inr ((0 : Int), V0)))))))))))) else ((if ¬ (x1 = 5) then ((if x1 < 0 ∨ 6 < x1 then (pf_let (V5 90 16) fun y641 => pf_let ((pm_up V5 90 51 0)) fun V644 => pf_val (.inr ((0 : Int), V0)) (fun (q : Int × pm_M) => match q with | (x658, V660) => ((if y641 ≤ x658 then ((.inr (.inr (0, V660)))) else (pf_let (V660 90 51) fun y683 => pf_let (V660 112 (x658 : Int).toNat) fun y687 => pf_let (x658 + 1) fun x690 => (.inl (x690, (pm_up V660 90 51 (y683 + y687)))))))) (0, V644)) else (if x1 = 0 then (pf_call (F_X12_takesVoice  V5) fun _ V693 => pf_let (V693 90 16) fun y707 => pf_let ((pm_up V693 90 51 0)) fun V710 => pf_val (.inr ((0 : Int), V0)) (fun (q : Int × pm_M) => match q with | (x724, V726) => ((if y707 ≤ x724 then ((.inr (.inr (0, V726)))) else (pf_let (V726 90 51) fun y749 => pf_let (V726 112 (x724 : Int).toNat) fun y753 => pf_let (x724 + 1) fun x756 => (.inl (x756, (pm_up V726 90 51 (y749 + y753)))))))) (0, V710)) else (if x1 = 1 then (pf_call (F_X12_takesFace  V5) fun _ V759 => pf_let (V759 90 16) fun y773 => pf_let ((pm_up V759 90 51 0)) fun V776 => pf_val (.inr ((0 : Int), V0)) (fun (q : Int × pm_M) => match q with | (x790, V792) => ((if y773 ≤ x790 then ((.inr (.inr (0, V792)))) else (pf_let (V792 90 51) fun y815 => pf_let (V792 112 (x790 : Int).toNat) fun y819 => pf_let (x790 + 1) fun x822 => (.inl (x822, (pm_up V792 90 51 (y815 + y819)))))))) (0, V776)) else (if x1 = 2 then (pf_call (F_X12_takesSurer  V5) fun _ V825 => pf_let (V825 90 16) fun y839 => pf_let ((pm_up V825 90 51 0)) fun V842 => pf_val (.inr ((0 : Int), V0)) (fun (q : Int × pm_M) => match q with | (x856, V858) => ((if y839 ≤ x856 then ((.inr (.inr (0, V858)))) else (pf_let (V858 90 51) fun y881 => pf_let (V858 112 (x856 : Int).toNat) fun y885 => pf_let (x856 + 1) fun x888 => (.inl (x888, (pm_up V858 90 51 (y881 + y885)))))))) (0, V842)) else (if x1 = 3 then (pf_val (.inr ((0 : Int), V0)) (fun (q : Int × pm_M) => match q with | (x890, V892) => (pf_let (V892 90 16) fun y910 => (if y910 ≤ x890 then (pf_let (V892 90 46) fun y914 => pf_let (pm_cmp y914 0) fun y917 => (if ¬ (y917 = 0) then (pf_let ((pm_up V892 90 51 0)) fun V921 => pf_val (.inr (.inr ((0 : Int), V0))) (fun (q : Int × pm_M) => match q with | (x936, V938) => ((if y910 ≤ x936 then ((.inr (.inr (.inr (0, V938))))) else (pf_let (V938 90 51) fun y962 => pf_let (V938 112 (x936 : Int).toNat) fun y966 => pf_let (x936 + 1) fun x969 => (.inl (x969, (pm_up V938 90 51 (y962 + y966)))))))) (0, V921)) else (pf_call (F_X12_takesVoice  V892) fun _ V972 => pf_let ((pm_up V972 90 51 0)) fun V988 => pf_val (.inr (.inr ((0 : Int), V0))) (fun (q : Int × pm_M) => match q with | (x1003, V1005) => ((if y910 ≤ x1003 then ((.inr (.inr (.inr (0, V1005))))) else (pf_let (V1005 90 51) fun y1029 => pf_let (V1005 112 (x1003 : Int).toNat) fun y1033 => pf_let (x1003 + 1) fun x1036 => (.inl (x1036, (pm_up V1005 90 51 (y1029 + y1033)))))))) (0, V988)))) else (pf_let (V892 110 (x890 : Int).toNat) fun y1040 => pf_let (V892 111 (x890 : Int).toNat) fun y1044 => pf_let ((y1040 * y1044)) fun y1047 => pf_let (x890 + 1) fun x1049 => (.inl (x1049, (pm_up V892 112 (x890 : Int).toNat y1047))))))) (0, V5)) else (if x1 = 4 then (pf_call (F_X12_takesOdds  V5) fun _ V1052 => pf_let (V1052 90 16) fun y1066 => pf_let ((pm_up V1052 90 51 0)) fun V1069 => pf_val (.inr ((0 : Int), V0)) (fun (q : Int × pm_M) => match q with | (x1083, V1085) => ((if y1066 ≤ x1083 then ((.inr (.inr (0, V1085)))) else (pf_let (V1085 90 51) fun y1108 => pf_let (V1085 112 (x1083 : Int).toNat) fun y1112 => pf_let (x1083 + 1) fun x1115 => (.inl (x1115, (pm_up V1085 90 51 (y1108 + y1112)))))))) (0, V1069)) else (if x1 = 5 then (pf_call (F_X12_takesOdds  V5) fun _ V1118 => pf_let (V1118 90 16) fun y1132 => pf_let ((pm_up V1118 90 51 0)) fun V1135 => pf_val (.inr ((0 : Int), V0)) (fun (q : Int × pm_M) => match q with | (x1149, V1151) => ((if y1132 ≤ x1149 then ((.inr (.inr (0, V1151)))) else (pf_let (V1151 90 51) fun y1174 => pf_let (V1151 112 (x1149 : Int).toNat) fun y1178 => pf_let (x1149 + 1) fun x1181 => (.inl (x1181, (pm_up V1151 90 51 (y1174 + y1178)))))))) (0, V1135)) else (if x1 = 6 then (pf_call (F_X12_takesBetween  V5) fun _ V1184 => pf_let (V1184 90 16) fun y1200 => pf_let ((pm_up V1184 90 51 0)) fun V1203 => pf_val (.inr ((0 : Int), V0)) (fun (q : Int × pm_M) => match q with | (x1217, V1219) => ((if y1200 ≤ x1217 then ((.inr (.inr (0, V1219)))) else (pf_let (V1219 90 51) fun y1242 => pf_let (V1219 112 (x1217 : Int).toNat) fun y1246 => pf_let (x1217 + 1) fun x1249 => (.inl (x1249, (pm_up V1219 90 51 (y1242 + y1246)))))))) (0, V1203)) else ((.inr ((0 : Int), V0)))))))))))) else (pf_let (V5 99 ((3 * x3) : Int).toNat) fun y1252 => pf_let (V5 90 48) fun y1255 => (if ¬ (y1252 = y1255) then (pf_let (x3 + 1) fun x1259 => (.inl (x1, x1259, V5))) else (pf_let (V5 99 (((3 * x3) + 1) : Int).toNat) fun y1261 => pf_let (V5 90 49) fun y1264 => (if y1261 = y1264 then (pf_let (V5 90 16) fun y1268 => pf_val (.inr ((0 : Int), V0)) (fun (q : Int × pm_M) => match q with | (x1274, V1276) => ((if y1268 ≤ x1274 then (pf_let (x3 + 1) fun x1300 => (.inr (.inl ((-1), x1300, V1276)))) else (pf_let (V1276 99 (((3 * x3) + 2) : Int).toNat) fun y1303 => (if ¬ (x1274 = y1303) then (pf_let (x1274 + 1) fun x1307 => (.inl (x1307, (pm_up V1276 112 (x1274 : Int).toNat 0)))) else (pf_let (x1274 + 1) fun x1309 => (.inl (x1309, (pm_up V1276 112 (x1274 : Int).toNat 1))))))))) (0, V5)) else (pf_let (x3 + 1) fun x1311 => (.inl (x1, x1311, V5)))))))))))) (a1, 0, V0) := rfl
set_option maxHeartbeats 4000000 in
set_option maxRecDepth 100000 in
theorem fB_X12_weighs (a1 : Int) (h0 : 0 ≤ a1 ∧ a1 ≤ 6) : pm_K 3 yX12_weighs cX12_weighs 5 none (fun av V => av = [(3, 90), (0, a1)] ∧ pm_oq pm_qB V ∧ (1 ≤ V 90 42 ∧ V 90 42 ≤ 171) ∧ (1 ≤ V 90 43 ∧ V 90 43 ≤ 171) ∧ pm_w1 V ∧ pm_h1 V ∧ pm_h2 V ∧ pm_w3 V) (fun _ V r V' => r = none ∧ pm_oq pm_qB V' ∧ pm_fs [112] [51] V V' ∧ pm_w2 V' ∧ F_X12_weighs a1 V = (0, V')) := by
  refine pm_MT.of (by decide) ⟨Nat.le_refl _, by decide⟩ (fun av V h => by rw [h.1]; exact (by decide : pm_words [(3, 0), (0, 0)] ≤ 5)) ?_
  rintro X av V0 hC - hR ⟨rfl, hV0, hq0, hq1, hn_pm_w1, hn_pm_h1, hn_pm_h2, hn_pm_w3⟩
  change pm_J X 0 [(0, (3, 90)), (1, (0, a1))] [] 118 V0
  have hT := F_X12_weighs_eq a1 V0
  obtain ⟨z0, ez0⟩ : ∃ z, V0 90 42 = z := ⟨_, rfl⟩
  rw [ez0] at hq0
  replace hT := hT.trans (pf_let_eq ez0)
  obtain ⟨z1, ez1⟩ : ∃ z, V0 90 43 = z := ⟨_, rfl⟩
  rw [ez1] at hq1
  replace hT := hT.trans (pf_let_eq ez1)
  refine pm_iload_n hC 1 dX12_weighs_0 rfl ?_
  refine pm_istore_n (lv' := [(2, (0, a1)), (0, (3, 90)), (1, (0, a1))]) hC dX12_weighs_1 (by decide) rfl ?_
  refine pm_iconst (v := 0) hC dX12_weighs_2 ?_
  refine pm_istore_n (lv' := [(3, (0, 0)), (2, (0, a1)), (0, (3, 90)), (1, (0, a1))]) hC dX12_weighs_3 (by decide) rfl ?_
  obtain ⟨B15, hB16, hT⟩ := pf_loop hT
  have L18 : ∀ (N20 : Nat) (x1 : Int) (x3 : Int) (V5 : pm_M), ((-1) ≤ x1 ∧ x1 ≤ 6) → (0 ≤ x3 ∧ x3 ≤ 12) → pm_oq pm_qB V5 → pm_fs [112] [51] V0 V5 → V5 90 42 = z0 → V5 90 43 = z1 → pm_w1 V5 → pm_h1 V5 → pm_h2 V5 → pm_w3 V5 → (x1 = (-1) → pm_pos V5) → F_X12_weighs a1 V0 = pf_val ((0 : Int), V0) B15 (x1, x3, V5) → (Int.toNat (12 - x3)) = N20 → pm_J X 4 [(0, (3, 90)), (1, (0, a1)), (2, (0, x1)), (3, (0, x3))] [] 118 V5 := by
    intro N20
    induction N20 using Nat.strongRecOn with
    | _ N20 ih21 =>
    intro x1 x3 V5 b2 b4 hV6 hF7 e8 e9 hp10 hp11 hp12 hp13 hx14 hT hm19
    have hb17 := congrFun hB16 (x1, x3, V5)
    refine pm_iload_n hC 3 dX12_weighs_4 rfl ?_
    refine pm_aload_n hC 0 (by decide) dX12_weighs_5 rfl ?_
    obtain ⟨y22, e23⟩ : ∃ y, V5 90 21 = y := ⟨_, rfl⟩
    have b24 := hV6.get 90 21 (lo := 0) (hi := 12) (by decide) (by decide) rfl
    rw [e23] at b24
    replace hb17 := hb17.trans (pf_let_eq e23)
    refine pm_getf (v := y22) hC 90 fl_X12_223 rfl rfl (by decide) rfl e23 dX12_weighs_6 ?_
    refine pm_icmp_ge (tgt := 105) hC ⟨by exact ow_83_0 b4, by exact ow_83_1 b4⟩ ⟨by exact ow_83_0 b24, by exact ow_83_1 b24⟩ dX12_weighs_9 (by decide) (fun c25 => ?_) (fun c25 => ?_)
    · skip
      replace hb17 := hb17.trans (if_pos c25)
      refine pm_iload_n hC 2 dX12_weighs_105 rfl ?_
      rcases (show (x1 < 0 ∨ 6 < x1) ∨ x1 = (0 : Int) ∨ x1 = (1 : Int) ∨ x1 = (2 : Int) ∨ x1 = (3 : Int) ∨ x1 = (4 : Int) ∨ x1 = (5 : Int) ∨ x1 = (6 : Int) by exact ow_83_2) with c26 | c26 | c26 | c26 | c26 | c26 | c26 | c26
      · skip
        refine pm_tableOut (tgt := 236) hC ⟨by exact ow_83_3 b2, by exact ow_83_4 b2⟩ dX12_weighs_106 c26 (by decide) ?_
        replace hb17 := hb17.trans (if_pos c26)
        have hpos27 : pm_pos V5 := hx14 (by exact ow_83_5 b2 c26)
        refine pm_aload_n hC 0 (by decide) dX12_weighs_236 rfl ?_
        refine pm_lconst (x := 0) hC dX12_weighs_237 rfl ?_
        refine pm_putf hC 90 fl_X12_362 rfl rfl rfl (by decide) rfl trivial dX12_weighs_238 ?_
        refine pm_iconst (v := 0) hC dX12_weighs_241 ?_
        obtain ⟨y28, e29⟩ : ∃ y, V5 90 16 = y := ⟨_, rfl⟩
        have b30 := hV6.get 90 16 (lo := 2) (hi := 9) (by decide) (by decide) rfl
        rw [e29] at b30
        replace hb17 := hb17.trans (pf_let_eq e29)
        refine pm_istore_n (lv' := [(3, (0, 0)), (0, (3, 90)), (1, (0, a1)), (2, (0, x1))]) hC dX12_weighs_242 (by decide) rfl ?_
        have hV33 := (hV6.put 90 51 (x := 0) (lo := 0) (hi := 720000000) rfl ⟨by decide, by decide⟩)
        have hF34 := (hF7.upf 51 0 rfl)
        obtain ⟨V31, hv32⟩ : ∃ V, V = (pm_up V5 90 51 0) := ⟨_, rfl⟩
        rw [← hv32] at hV33 hF34
        rw [← hv32]
        replace hb17 := hb17.trans (pf_let_eq hv32.symm)
        have e35 : V31 90 42 = z0 := by rw [hv32]; exact e8
        have e36 : V31 90 43 = z1 := by rw [hv32]; exact e9
        have e37 : V31 90 21 = y22 := by rw [hv32]; exact e23
        have e38 : V31 90 16 = y28 := by rw [hv32]; exact e29
        have e39 : V31 90 51 = 0 := by rw [hv32]; rfl
        have hp40 : pm_w1 V31 := by rw [hv32]; exact (pm_w1.fr hp10 rfl rfl rfl rfl rfl)
        have hp41 : pm_h1 V31 := by rw [hv32]; exact (pm_h1.fr hp11 rfl rfl)
        have hp42 : pm_h2 V31 := by rw [hv32]; exact (pm_h2.fr hp12 rfl rfl rfl)
        have hp43 : pm_w3 V31 := by rw [hv32]; exact (pm_w3.fr hp13 rfl rfl rfl rfl)
        have hp44 : pm_pos V31 := by rw [hv32]; exact (pm_pos.fr hpos27 rfl rfl)
        obtain ⟨B62, hB63, hb17⟩ := pf_loop hb17
        have L65 : ∀ (N67 : Nat) (x45 : Int) (V47 : pm_M), (0 ≤ x45 ∧ x45 ≤ 9) → pm_oq pm_qB V47 → pm_fs [112] [51] V0 V47 → V47 90 42 = z0 → V47 90 43 = z1 → V47 90 21 = y22 → V47 90 16 = y28 → pm_w1 V47 → pm_h1 V47 → pm_h2 V47 → pm_w3 V47 → pm_pos V47 → (V47 90 51 ≤ 80000000 * x45) → (V47 90 51 = pm_sum (V47 112) ((x45) : Int).toNat) → (x45 ≤ V47 90 16) → B15 (x1, x3, V5) = pf_val (.inr ((0 : Int), V0)) B62 (x45, V47) → (Int.toNat (9 - x45)) = N67 → pm_J X 243 [(0, (3, 90)), (1, (0, a1)), (2, (0, x1)), (3, (0, x45))] [] 118 V47 := by
          intro N67
          induction N67 using Nat.strongRecOn with
          | _ N67 ih68 =>
          intro x45 V47 b46 hV48 hF49 e50 e51 e52 e53 hp54 hp55 hp56 hp57 hp58 hm59 hx60 hx61 hb17 hm66
          have hb64 := congrFun hB63 (x45, V47)
          refine pm_iload_n hC 3 dX12_weighs_243 rfl ?_
          refine pm_aload_n hC 0 (by decide) dX12_weighs_244 rfl ?_
          refine pm_getf (v := y28) hC 90 fl_X12_220 rfl rfl (by decide) rfl e53 dX12_weighs_245 ?_
          refine pm_icmp_ge (tgt := 272) hC ⟨by exact ow_83_6 b46, by exact ow_83_7 b46⟩ ⟨by exact ow_83_8 b30, by exact ow_83_9 b30⟩ dX12_weighs_248 (by decide) (fun c69 => ?_) (fun c69 => ?_)
          · skip
            replace hb64 := hb64.trans (if_pos c69)
            replace hb17 := hb17.trans (pf_val_inr hb64)
            replace hT := hT.trans (pf_val_inr hb17)
            exact pm_vret hC hR ⟨rfl, hV48, hF49, (by have h0 := hx60; have h2 := hx61; have hx : x45 = V47 90 16 := (by exact ow_83_10 e53 hx61 c69); rw [hx] at h0; refine ⟨?_, h0⟩; rw [h0]; obtain ⟨q, q1, q2⟩ := hp58; exact pm_sum_pos _ (fun j hj => (hV48.get 112 j (lo := 0) (hi := 80000000) (t := 0) (by decide) (show j < 9 by exact ow_83_11 b30 e53 hj) rfl).1) q (by exact ow_83_12 q1) q2), hT⟩ dX12_weighs_272
          · skip
            replace hb64 := hb64.trans (if_neg (Int.not_le.mpr c69))
            refine pm_aload_n hC 0 (by decide) dX12_weighs_251 rfl ?_
            refine pm_dup hC rfl dX12_weighs_252 ?_
            obtain ⟨y70, e71⟩ : ∃ y, V47 90 51 = y := ⟨_, rfl⟩
            have b72 := hV48.get 90 51 (lo := 0) (hi := 720000000) (by decide) (by decide) rfl
            rw [e71] at b72
            replace hb64 := hb64.trans (pf_let_eq e71)
            refine pm_getf (v := y70) hC 90 fl_X12_362 rfl rfl (by decide) rfl e71 dX12_weighs_253 ?_
            refine pm_aload_n hC 0 (by decide) dX12_weighs_256 rfl ?_
            have e73 : V47 90 50 = 112 := hV48.one 90 50 (by decide) (by decide) rfl
            refine pm_getf (v := 112) hC 90 fl_X12_76 rfl rfl (by decide) rfl e73 dX12_weighs_257 ?_
            refine pm_iload_n hC 3 dX12_weighs_260 rfl ?_
            obtain ⟨y74, e75⟩ : ∃ y, V47 112 (x45 : Int).toNat = y := ⟨_, rfl⟩
            replace hb64 := hb64.trans (pf_let_eq e75)
            have b76 := hV48.get 112 (x45 : Int).toNat (lo := 0) (hi := 80000000) (t := 0) (by decide) (show _ < 9 by exact ow_83_13 b30 c69) rfl
            rw [e75] at b76
            refine pm_laload (len := 9) (v := y74) hC 112 rfl rfl (by decide) ⟨by exact ow_83_14 b46, by exact ow_83_15 b30 c69⟩ (by decide) e75 dX12_weighs_261 ?_
            refine pm_ladd hC dX12_weighs_262 ?_
            refine pm_putf hC 90 fl_X12_362 rfl rfl rfl (by decide) rfl trivial dX12_weighs_263 ?_
            obtain ⟨x77, ei78⟩ : ∃ y : Int, x45 + 1 = y := ⟨_, rfl⟩
            replace hb64 := hb64.trans (pf_let_eq ei78)
            refine pm_iinc (y := x77) (lv' := [(3, (0, x77)), (0, (3, 90)), (1, (0, a1)), (2, (0, x1))]) hC 3 dX12_weighs_266 (by decide) rfl ei78 rfl ?_
            refine pm_goto (tgt := 243) hC dX12_weighs_269 (by decide) ?_
            refine pm_lvsub [1, 2, 3, 0] (lv' := [(0, (3, 90)), (1, (0, a1)), (2, (0, x1)), (3, (0, x77))]) rfl ?_
            exact ih68 _ (by exact ow_83_16 b30 hm66 c69 ei78) x77 (pm_up V47 90 51 (y70 + y74)) ⟨by exact ow_83_17 b46 ei78, by exact ow_83_18 b30 c69 ei78⟩ (hV48.put 90 51 (x := (y70 + y74)) (lo := 0) (hi := 720000000) rfl ⟨by exact ow_83_19 b72 b76, by omega⟩) (hF49.upf 51 (y70 + y74) rfl) e50 e51 e52 e53 (pm_w1.fr hp54 rfl rfl rfl rfl rfl) (pm_h1.fr hp55 rfl rfl) (pm_h2.fr hp56 rfl rfl rfl) (pm_w3.fr hp57 rfl rfl rfl rfl) (pm_pos.fr hp58 rfl rfl) (show (y70 + y74) ≤ 80000000 * x77 by omega) (by have h0 := hx60; rw [e71] at h0; have h1 : ((x77) : Int).toNat = ((x45) : Int).toNat + 1 := (by exact ow_83_20 hm59 hx60 b72 ei78 h0); show (y70 + y74) = pm_sum (V47 112) ((x77) : Int).toNat; rw [h1]; show (y70 + y74) = pm_sum (V47 112) ((x45) : Int).toNat + V47 112 ((x45) : Int).toNat; rw [e75]; exact ow_83_21 h0) (by show x77 ≤ V47 90 16; exact ow_83_22 e53 c69 ei78) (hb17.trans (pf_val_inl hb64)) rfl
        refine pm_lvsub [1, 2, 3, 0] (lv' := [(0, (3, 90)), (1, (0, a1)), (2, (0, x1)), (3, (0, 0))]) rfl ?_
        exact L65 _ 0 V31 ⟨by decide, by decide⟩ hV33 hF34 e35 e36 e37 e38 hp40 hp41 hp42 hp43 hp44 (by (have e : V31 90 51 = 0 := e39); rw [e]; exact ow_83_23) (by rw [e39]; rfl) (by show 0 ≤ V31 90 16; exact ow_83_24 b30 e38) hb17 rfl
      · skip
        refine pm_tableIn (tgt := 148) (off := 42) hC ⟨by exact ow_83_25 c26, by exact ow_83_26 c26⟩ dX12_weighs_106 (by exact ow_83_27 c26) (by exact ow_83_28 c26) (by rw [c26]; rfl) (by decide) ?_
        replace hb17 := hb17.trans (if_neg (by exact ow_83_29 c26))
        replace hb17 := hb17.trans (if_pos c26)
        refine pm_aload_n hC 0 (by decide) dX12_weighs_148 rfl ?_
        refine pm_callV (ci := 12) (as := []) (st := []) hC 90 fB_X12_takesVoice lm_X12_344 li_X12_takesVoice (by decide) (by decide) rfl rfl rfl (by decide) rfl rfl (Nat.le_of_ble_eq_true rfl) ⟨Nat.le_refl _, Or.inl rfl⟩ dX12_weighs_149 ⟨rfl, hV6, hp10⟩ (fun r79 V80 hp81 => ?_)
        obtain ⟨rfl, hV82, hF83, hg84, hE85⟩ := hp81
        replace hb17 := hb17.trans (pf_call_eq hE85)
        change pm_J X 152 [(0, (3, 90)), (1, (0, a1)), (2, (0, x1)), (3, (0, x3))] [] 118 V80
        have hF86 := pm_fs.tr hF7 hF83 (by decide) (by decide)
        have e87 : V80 90 42 = z0 := by rw [hF83.2 42 (by decide)]; exact e8
        have e88 : V80 90 43 = z1 := by rw [hF83.2 43 (by decide)]; exact e9
        have e89 : V80 90 21 = y22 := by rw [hF83.2 21 (by decide)]; exact e23
        have hp90 : pm_w1 V80 := (pm_w1.fr hp10 (hF83.2 16 (by decide)) (hF83.2 48 (by decide)) (hF83.2 49 (by decide)) (hF83.1 110 (by decide) (by decide)) (hF83.1 111 (by decide) (by decide)))
        have hp91 : pm_h1 V80 := (pm_h1.fr hp11 (hF83.2 16 (by decide)) (hF83.1 97 (by decide) (by decide)))
        have hp92 : pm_h2 V80 := (pm_h2.fr hp12 (hF83.2 16 (by decide)) (hF83.2 21 (by decide)) (hF83.1 99 (by decide) (by decide)))
        have hp93 : pm_w3 V80 := (pm_w3.fr hp13 (hF83.2 16 (by decide)) (hF83.2 46 (by decide)) (hF83.1 110 (by decide) (by decide)) (hF83.1 111 (by decide) (by decide)))
        refine pm_goto (tgt := 236) hC dX12_weighs_152 (by decide) ?_
        refine pm_aload_n hC 0 (by decide) dX12_weighs_236 rfl ?_
        refine pm_lconst (x := 0) hC dX12_weighs_237 rfl ?_
        refine pm_putf hC 90 fl_X12_362 rfl rfl rfl (by decide) rfl trivial dX12_weighs_238 ?_
        refine pm_iconst (v := 0) hC dX12_weighs_241 ?_
        obtain ⟨y94, e95⟩ : ∃ y, V80 90 16 = y := ⟨_, rfl⟩
        have b96 := hV82.get 90 16 (lo := 2) (hi := 9) (by decide) (by decide) rfl
        rw [e95] at b96
        replace hb17 := hb17.trans (pf_let_eq e95)
        refine pm_istore_n (lv' := [(3, (0, 0)), (0, (3, 90)), (1, (0, a1)), (2, (0, x1))]) hC dX12_weighs_242 (by decide) rfl ?_
        have hV99 := (hV82.put 90 51 (x := 0) (lo := 0) (hi := 720000000) rfl ⟨by decide, by decide⟩)
        have hF100 := (hF86.upf 51 0 rfl)
        obtain ⟨V97, hv98⟩ : ∃ V, V = (pm_up V80 90 51 0) := ⟨_, rfl⟩
        rw [← hv98] at hV99 hF100
        rw [← hv98]
        replace hb17 := hb17.trans (pf_let_eq hv98.symm)
        have e101 : V97 90 42 = z0 := by rw [hv98]; exact e87
        have e102 : V97 90 43 = z1 := by rw [hv98]; exact e88
        have e103 : V97 90 21 = y22 := by rw [hv98]; exact e89
        have e104 : V97 90 16 = y94 := by rw [hv98]; exact e95
        have e105 : V97 90 51 = 0 := by rw [hv98]; rfl
        have hp106 : pm_w1 V97 := by rw [hv98]; exact (pm_w1.fr hp90 rfl rfl rfl rfl rfl)
        have hp107 : pm_h1 V97 := by rw [hv98]; exact (pm_h1.fr hp91 rfl rfl)
        have hp108 : pm_h2 V97 := by rw [hv98]; exact (pm_h2.fr hp92 rfl rfl rfl)
        have hp109 : pm_w3 V97 := by rw [hv98]; exact (pm_w3.fr hp93 rfl rfl rfl rfl)
        have hp110 : pm_pos V97 := by rw [hv98]; exact (pm_pos.fr hg84 rfl rfl)
        obtain ⟨B128, hB129, hb17⟩ := pf_loop hb17
        have L131 : ∀ (N133 : Nat) (x111 : Int) (V113 : pm_M), (0 ≤ x111 ∧ x111 ≤ 9) → pm_oq pm_qB V113 → pm_fs [112] [51] V0 V113 → V113 90 42 = z0 → V113 90 43 = z1 → V113 90 21 = y22 → V113 90 16 = y94 → pm_w1 V113 → pm_h1 V113 → pm_h2 V113 → pm_w3 V113 → pm_pos V113 → (V113 90 51 ≤ 80000000 * x111) → (V113 90 51 = pm_sum (V113 112) ((x111) : Int).toNat) → (x111 ≤ V113 90 16) → B15 (x1, x3, V5) = pf_val (.inr ((0 : Int), V0)) B128 (x111, V113) → (Int.toNat (9 - x111)) = N133 → pm_J X 243 [(0, (3, 90)), (1, (0, a1)), (2, (0, x1)), (3, (0, x111))] [] 118 V113 := by
          intro N133
          induction N133 using Nat.strongRecOn with
          | _ N133 ih134 =>
          intro x111 V113 b112 hV114 hF115 e116 e117 e118 e119 hp120 hp121 hp122 hp123 hp124 hm125 hx126 hx127 hb17 hm132
          have hb130 := congrFun hB129 (x111, V113)
          refine pm_iload_n hC 3 dX12_weighs_243 rfl ?_
          refine pm_aload_n hC 0 (by decide) dX12_weighs_244 rfl ?_
          refine pm_getf (v := y94) hC 90 fl_X12_220 rfl rfl (by decide) rfl e119 dX12_weighs_245 ?_
          refine pm_icmp_ge (tgt := 272) hC ⟨by exact ow_83_6 b112, by exact ow_83_7 b112⟩ ⟨by exact ow_83_8 b96, by exact ow_83_9 b96⟩ dX12_weighs_248 (by decide) (fun c135 => ?_) (fun c135 => ?_)
          · skip
            replace hb130 := hb130.trans (if_pos c135)
            replace hb17 := hb17.trans (pf_val_inr hb130)
            replace hT := hT.trans (pf_val_inr hb17)
            exact pm_vret hC hR ⟨rfl, hV114, hF115, (by have h0 := hx126; have h2 := hx127; have hx : x111 = V113 90 16 := (by exact ow_83_10 e119 hx127 c135); rw [hx] at h0; refine ⟨?_, h0⟩; rw [h0]; obtain ⟨q, q1, q2⟩ := hp124; exact pm_sum_pos _ (fun j hj => (hV114.get 112 j (lo := 0) (hi := 80000000) (t := 0) (by decide) (show j < 9 by exact ow_83_11 b96 e119 hj) rfl).1) q (by exact ow_83_12 q1) q2), hT⟩ dX12_weighs_272
          · skip
            replace hb130 := hb130.trans (if_neg (Int.not_le.mpr c135))
            refine pm_aload_n hC 0 (by decide) dX12_weighs_251 rfl ?_
            refine pm_dup hC rfl dX12_weighs_252 ?_
            obtain ⟨y136, e137⟩ : ∃ y, V113 90 51 = y := ⟨_, rfl⟩
            have b138 := hV114.get 90 51 (lo := 0) (hi := 720000000) (by decide) (by decide) rfl
            rw [e137] at b138
            replace hb130 := hb130.trans (pf_let_eq e137)
            refine pm_getf (v := y136) hC 90 fl_X12_362 rfl rfl (by decide) rfl e137 dX12_weighs_253 ?_
            refine pm_aload_n hC 0 (by decide) dX12_weighs_256 rfl ?_
            have e139 : V113 90 50 = 112 := hV114.one 90 50 (by decide) (by decide) rfl
            refine pm_getf (v := 112) hC 90 fl_X12_76 rfl rfl (by decide) rfl e139 dX12_weighs_257 ?_
            refine pm_iload_n hC 3 dX12_weighs_260 rfl ?_
            obtain ⟨y140, e141⟩ : ∃ y, V113 112 (x111 : Int).toNat = y := ⟨_, rfl⟩
            replace hb130 := hb130.trans (pf_let_eq e141)
            have b142 := hV114.get 112 (x111 : Int).toNat (lo := 0) (hi := 80000000) (t := 0) (by decide) (show _ < 9 by exact ow_83_13 b96 c135) rfl
            rw [e141] at b142
            refine pm_laload (len := 9) (v := y140) hC 112 rfl rfl (by decide) ⟨by exact ow_83_14 b112, by exact ow_83_15 b96 c135⟩ (by decide) e141 dX12_weighs_261 ?_
            refine pm_ladd hC dX12_weighs_262 ?_
            refine pm_putf hC 90 fl_X12_362 rfl rfl rfl (by decide) rfl trivial dX12_weighs_263 ?_
            obtain ⟨x143, ei144⟩ : ∃ y : Int, x111 + 1 = y := ⟨_, rfl⟩
            replace hb130 := hb130.trans (pf_let_eq ei144)
            refine pm_iinc (y := x143) (lv' := [(3, (0, x143)), (0, (3, 90)), (1, (0, a1)), (2, (0, x1))]) hC 3 dX12_weighs_266 (by decide) rfl ei144 rfl ?_
            refine pm_goto (tgt := 243) hC dX12_weighs_269 (by decide) ?_
            refine pm_lvsub [1, 2, 3, 0] (lv' := [(0, (3, 90)), (1, (0, a1)), (2, (0, x1)), (3, (0, x143))]) rfl ?_
            exact ih134 _ (by exact ow_83_16 b96 hm132 c135 ei144) x143 (pm_up V113 90 51 (y136 + y140)) ⟨by exact ow_83_17 b112 ei144, by exact ow_83_18 b96 c135 ei144⟩ (hV114.put 90 51 (x := (y136 + y140)) (lo := 0) (hi := 720000000) rfl ⟨by exact ow_83_19 b138 b142, by omega⟩) (hF115.upf 51 (y136 + y140) rfl) e116 e117 e118 e119 (pm_w1.fr hp120 rfl rfl rfl rfl rfl) (pm_h1.fr hp121 rfl rfl) (pm_h2.fr hp122 rfl rfl rfl) (pm_w3.fr hp123 rfl rfl rfl rfl) (pm_pos.fr hp124 rfl rfl) (show (y136 + y140) ≤ 80000000 * x143 by omega) (by have h0 := hx126; rw [e137] at h0; have h1 : ((x143) : Int).toNat = ((x111) : Int).toNat + 1 := (by exact ow_83_30 b112 ei144); show (y136 + y140) = pm_sum (V113 112) ((x143) : Int).toNat; rw [h1]; show (y136 + y140) = pm_sum (V113 112) ((x111) : Int).toNat + V113 112 ((x111) : Int).toNat; rw [e141]; exact ow_83_21 h0) (by show x143 ≤ V113 90 16; exact ow_83_22 e119 c135 ei144) (hb17.trans (pf_val_inl hb130)) rfl
        refine pm_lvsub [1, 2, 3, 0] (lv' := [(0, (3, 90)), (1, (0, a1)), (2, (0, x1)), (3, (0, 0))]) rfl ?_
        exact L131 _ 0 V97 ⟨by decide, by decide⟩ hV99 hF100 e101 e102 e103 e104 hp106 hp107 hp108 hp109 hp110 (by (have e : V97 90 51 = 0 := e105); rw [e]; exact ow_83_23) (by rw [e105]; rfl) (by show 0 ≤ V97 90 16; exact ow_83_24 b96 e104) hb17 rfl
      · skip
        refine pm_tableIn (tgt := 155) (off := 49) hC ⟨by exact ow_83_31 c26, by exact ow_83_32 c26⟩ dX12_weighs_106 (by exact ow_83_33 c26) (by exact ow_83_34 c26) (by rw [c26]; rfl) (by decide) ?_
        replace hb17 := hb17.trans (if_neg (by exact ow_83_35 c26))
        replace hb17 := hb17.trans (if_neg (by exact ow_83_36 c26))
        replace hb17 := hb17.trans (if_pos c26)
        refine pm_aload_n hC 0 (by decide) dX12_weighs_155 rfl ?_
        refine pm_callV (ci := 12) (as := []) (st := []) hC 90 fB_X12_takesFace lm_X12_347 li_X12_takesFace (by decide) (by decide) rfl rfl rfl (by decide) rfl rfl (Nat.le_of_ble_eq_true rfl) ⟨Nat.le_refl _, Or.inl rfl⟩ dX12_weighs_156 ⟨rfl, hV6, hp10, hp11⟩ (fun r145 V146 hp147 => ?_)
        obtain ⟨rfl, hV148, hF149, hg150, hE151⟩ := hp147
        replace hb17 := hb17.trans (pf_call_eq hE151)
        change pm_J X 159 [(0, (3, 90)), (1, (0, a1)), (2, (0, x1)), (3, (0, x3))] [] 118 V146
        have hF152 := pm_fs.tr hF7 hF149 (by decide) (by decide)
        have e153 : V146 90 42 = z0 := by rw [hF149.2 42 (by decide)]; exact e8
        have e154 : V146 90 43 = z1 := by rw [hF149.2 43 (by decide)]; exact e9
        have e155 : V146 90 21 = y22 := by rw [hF149.2 21 (by decide)]; exact e23
        have hp156 : pm_w1 V146 := (pm_w1.fr hp10 (hF149.2 16 (by decide)) (hF149.2 48 (by decide)) (hF149.2 49 (by decide)) (hF149.1 110 (by decide) (by decide)) (hF149.1 111 (by decide) (by decide)))
        have hp157 : pm_h1 V146 := (pm_h1.fr hp11 (hF149.2 16 (by decide)) (hF149.1 97 (by decide) (by decide)))
        have hp158 : pm_h2 V146 := (pm_h2.fr hp12 (hF149.2 16 (by decide)) (hF149.2 21 (by decide)) (hF149.1 99 (by decide) (by decide)))
        have hp159 : pm_w3 V146 := (pm_w3.fr hp13 (hF149.2 16 (by decide)) (hF149.2 46 (by decide)) (hF149.1 110 (by decide) (by decide)) (hF149.1 111 (by decide) (by decide)))
        refine pm_goto (tgt := 236) hC dX12_weighs_159 (by decide) ?_
        refine pm_aload_n hC 0 (by decide) dX12_weighs_236 rfl ?_
        refine pm_lconst (x := 0) hC dX12_weighs_237 rfl ?_
        refine pm_putf hC 90 fl_X12_362 rfl rfl rfl (by decide) rfl trivial dX12_weighs_238 ?_
        refine pm_iconst (v := 0) hC dX12_weighs_241 ?_
        obtain ⟨y160, e161⟩ : ∃ y, V146 90 16 = y := ⟨_, rfl⟩
        have b162 := hV148.get 90 16 (lo := 2) (hi := 9) (by decide) (by decide) rfl
        rw [e161] at b162
        replace hb17 := hb17.trans (pf_let_eq e161)
        refine pm_istore_n (lv' := [(3, (0, 0)), (0, (3, 90)), (1, (0, a1)), (2, (0, x1))]) hC dX12_weighs_242 (by decide) rfl ?_
        have hV165 := (hV148.put 90 51 (x := 0) (lo := 0) (hi := 720000000) rfl ⟨by decide, by decide⟩)
        have hF166 := (hF152.upf 51 0 rfl)
        obtain ⟨V163, hv164⟩ : ∃ V, V = (pm_up V146 90 51 0) := ⟨_, rfl⟩
        rw [← hv164] at hV165 hF166
        rw [← hv164]
        replace hb17 := hb17.trans (pf_let_eq hv164.symm)
        have e167 : V163 90 42 = z0 := by rw [hv164]; exact e153
        have e168 : V163 90 43 = z1 := by rw [hv164]; exact e154
        have e169 : V163 90 21 = y22 := by rw [hv164]; exact e155
        have e170 : V163 90 16 = y160 := by rw [hv164]; exact e161
        have e171 : V163 90 51 = 0 := by rw [hv164]; rfl
        have hp172 : pm_w1 V163 := by rw [hv164]; exact (pm_w1.fr hp156 rfl rfl rfl rfl rfl)
        have hp173 : pm_h1 V163 := by rw [hv164]; exact (pm_h1.fr hp157 rfl rfl)
        have hp174 : pm_h2 V163 := by rw [hv164]; exact (pm_h2.fr hp158 rfl rfl rfl)
        have hp175 : pm_w3 V163 := by rw [hv164]; exact (pm_w3.fr hp159 rfl rfl rfl rfl)
        have hp176 : pm_pos V163 := by rw [hv164]; exact (pm_pos.fr hg150 rfl rfl)
        obtain ⟨B194, hB195, hb17⟩ := pf_loop hb17
        have L197 : ∀ (N199 : Nat) (x177 : Int) (V179 : pm_M), (0 ≤ x177 ∧ x177 ≤ 9) → pm_oq pm_qB V179 → pm_fs [112] [51] V0 V179 → V179 90 42 = z0 → V179 90 43 = z1 → V179 90 21 = y22 → V179 90 16 = y160 → pm_w1 V179 → pm_h1 V179 → pm_h2 V179 → pm_w3 V179 → pm_pos V179 → (V179 90 51 ≤ 80000000 * x177) → (V179 90 51 = pm_sum (V179 112) ((x177) : Int).toNat) → (x177 ≤ V179 90 16) → B15 (x1, x3, V5) = pf_val (.inr ((0 : Int), V0)) B194 (x177, V179) → (Int.toNat (9 - x177)) = N199 → pm_J X 243 [(0, (3, 90)), (1, (0, a1)), (2, (0, x1)), (3, (0, x177))] [] 118 V179 := by
          intro N199
          induction N199 using Nat.strongRecOn with
          | _ N199 ih200 =>
          intro x177 V179 b178 hV180 hF181 e182 e183 e184 e185 hp186 hp187 hp188 hp189 hp190 hm191 hx192 hx193 hb17 hm198
          have hb196 := congrFun hB195 (x177, V179)
          refine pm_iload_n hC 3 dX12_weighs_243 rfl ?_
          refine pm_aload_n hC 0 (by decide) dX12_weighs_244 rfl ?_
          refine pm_getf (v := y160) hC 90 fl_X12_220 rfl rfl (by decide) rfl e185 dX12_weighs_245 ?_
          refine pm_icmp_ge (tgt := 272) hC ⟨by exact ow_83_6 b178, by exact ow_83_7 b178⟩ ⟨by exact ow_83_8 b162, by exact ow_83_9 b162⟩ dX12_weighs_248 (by decide) (fun c201 => ?_) (fun c201 => ?_)
          · skip
            replace hb196 := hb196.trans (if_pos c201)
            replace hb17 := hb17.trans (pf_val_inr hb196)
            replace hT := hT.trans (pf_val_inr hb17)
            exact pm_vret hC hR ⟨rfl, hV180, hF181, (by have h0 := hx192; have h2 := hx193; have hx : x177 = V179 90 16 := (by exact ow_83_10 e185 hx193 c201); rw [hx] at h0; refine ⟨?_, h0⟩; rw [h0]; obtain ⟨q, q1, q2⟩ := hp190; exact pm_sum_pos _ (fun j hj => (hV180.get 112 j (lo := 0) (hi := 80000000) (t := 0) (by decide) (show j < 9 by exact ow_83_11 b162 e185 hj) rfl).1) q (by exact ow_83_12 q1) q2), hT⟩ dX12_weighs_272
          · skip
            replace hb196 := hb196.trans (if_neg (Int.not_le.mpr c201))
            refine pm_aload_n hC 0 (by decide) dX12_weighs_251 rfl ?_
            refine pm_dup hC rfl dX12_weighs_252 ?_
            obtain ⟨y202, e203⟩ : ∃ y, V179 90 51 = y := ⟨_, rfl⟩
            have b204 := hV180.get 90 51 (lo := 0) (hi := 720000000) (by decide) (by decide) rfl
            rw [e203] at b204
            replace hb196 := hb196.trans (pf_let_eq e203)
            refine pm_getf (v := y202) hC 90 fl_X12_362 rfl rfl (by decide) rfl e203 dX12_weighs_253 ?_
            refine pm_aload_n hC 0 (by decide) dX12_weighs_256 rfl ?_
            have e205 : V179 90 50 = 112 := hV180.one 90 50 (by decide) (by decide) rfl
            refine pm_getf (v := 112) hC 90 fl_X12_76 rfl rfl (by decide) rfl e205 dX12_weighs_257 ?_
            refine pm_iload_n hC 3 dX12_weighs_260 rfl ?_
            obtain ⟨y206, e207⟩ : ∃ y, V179 112 (x177 : Int).toNat = y := ⟨_, rfl⟩
            replace hb196 := hb196.trans (pf_let_eq e207)
            have b208 := hV180.get 112 (x177 : Int).toNat (lo := 0) (hi := 80000000) (t := 0) (by decide) (show _ < 9 by exact ow_83_13 b162 c201) rfl
            rw [e207] at b208
            refine pm_laload (len := 9) (v := y206) hC 112 rfl rfl (by decide) ⟨by exact ow_83_37 hm191 e203 b204, by exact ow_83_15 b162 c201⟩ (by decide) e207 dX12_weighs_261 ?_
            refine pm_ladd hC dX12_weighs_262 ?_
            refine pm_putf hC 90 fl_X12_362 rfl rfl rfl (by decide) rfl trivial dX12_weighs_263 ?_
            obtain ⟨x209, ei210⟩ : ∃ y : Int, x177 + 1 = y := ⟨_, rfl⟩
            replace hb196 := hb196.trans (pf_let_eq ei210)
            refine pm_iinc (y := x209) (lv' := [(3, (0, x209)), (0, (3, 90)), (1, (0, a1)), (2, (0, x1))]) hC 3 dX12_weighs_266 (by decide) rfl ei210 rfl ?_
            refine pm_goto (tgt := 243) hC dX12_weighs_269 (by decide) ?_
            refine pm_lvsub [1, 2, 3, 0] (lv' := [(0, (3, 90)), (1, (0, a1)), (2, (0, x1)), (3, (0, x209))]) rfl ?_
            exact ih200 _ (by exact ow_83_16 b162 hm198 c201 ei210) x209 (pm_up V179 90 51 (y202 + y206)) ⟨by exact ow_83_38 hm191 e203 b204 ei210, by exact ow_83_18 b162 c201 ei210⟩ (hV180.put 90 51 (x := (y202 + y206)) (lo := 0) (hi := 720000000) rfl ⟨by exact ow_83_19 b204 b208, by omega⟩) (hF181.upf 51 (y202 + y206) rfl) e182 e183 e184 e185 (pm_w1.fr hp186 rfl rfl rfl rfl rfl) (pm_h1.fr hp187 rfl rfl) (pm_h2.fr hp188 rfl rfl rfl) (pm_w3.fr hp189 rfl rfl rfl rfl) (pm_pos.fr hp190 rfl rfl) (show (y202 + y206) ≤ 80000000 * x209 by omega) (by have h0 := hx192; rw [e203] at h0; have h1 : ((x209) : Int).toNat = ((x177) : Int).toNat + 1 := (by exact ow_83_20 hm191 hx192 b204 ei210 h0); show (y202 + y206) = pm_sum (V179 112) ((x209) : Int).toNat; rw [h1]; show (y202 + y206) = pm_sum (V179 112) ((x177) : Int).toNat + V179 112 ((x177) : Int).toNat; rw [e207]; exact ow_83_21 h0) (by show x209 ≤ V179 90 16; exact ow_83_22 e185 c201 ei210) (hb17.trans (pf_val_inl hb196)) rfl
        refine pm_lvsub [1, 2, 3, 0] (lv' := [(0, (3, 90)), (1, (0, a1)), (2, (0, x1)), (3, (0, 0))]) rfl ?_
        exact L197 _ 0 V163 ⟨by decide, by decide⟩ hV165 hF166 e167 e168 e169 e170 hp172 hp173 hp174 hp175 hp176 (by (have e : V163 90 51 = 0 := e171); rw [e]; exact ow_83_23) (by rw [e171]; rfl) (by show 0 ≤ V163 90 16; exact ow_83_24 b162 e170) hb17 rfl
      · skip
        refine pm_tableIn (tgt := 162) (off := 56) hC ⟨by exact ow_83_39 c26, by exact ow_83_40 c26⟩ dX12_weighs_106 (by exact ow_83_41 c26) (by exact ow_83_42 c26) (by rw [c26]; rfl) (by decide) ?_
        replace hb17 := hb17.trans (if_neg (by exact ow_83_43 c26))
        replace hb17 := hb17.trans (if_neg (by exact ow_83_44 c26))
        replace hb17 := hb17.trans (if_neg (by exact ow_83_45 c26))
        replace hb17 := hb17.trans (if_pos c26)
        refine pm_aload_n hC 0 (by decide) dX12_weighs_162 rfl ?_
        refine pm_callV (ci := 12) (as := []) (st := []) hC 90 fB_X12_takesSurer lm_X12_353 li_X12_takesSurer (by decide) (by decide) rfl rfl rfl (by decide) rfl rfl (Nat.le_of_ble_eq_true rfl) ⟨Nat.le_refl _, Or.inl rfl⟩ dX12_weighs_163 ⟨rfl, hV6, hp10, hp11⟩ (fun r211 V212 hp213 => ?_)
        obtain ⟨rfl, hV214, hF215, hg216, hE217⟩ := hp213
        replace hb17 := hb17.trans (pf_call_eq hE217)
        change pm_J X 166 [(0, (3, 90)), (1, (0, a1)), (2, (0, x1)), (3, (0, x3))] [] 118 V212
        have hF218 := pm_fs.tr hF7 hF215 (by decide) (by decide)
        have e219 : V212 90 42 = z0 := by rw [hF215.2 42 (by decide)]; exact e8
        have e220 : V212 90 43 = z1 := by rw [hF215.2 43 (by decide)]; exact e9
        have e221 : V212 90 21 = y22 := by rw [hF215.2 21 (by decide)]; exact e23
        have hp222 : pm_w1 V212 := (pm_w1.fr hp10 (hF215.2 16 (by decide)) (hF215.2 48 (by decide)) (hF215.2 49 (by decide)) (hF215.1 110 (by decide) (by decide)) (hF215.1 111 (by decide) (by decide)))
        have hp223 : pm_h1 V212 := (pm_h1.fr hp11 (hF215.2 16 (by decide)) (hF215.1 97 (by decide) (by decide)))
        have hp224 : pm_h2 V212 := (pm_h2.fr hp12 (hF215.2 16 (by decide)) (hF215.2 21 (by decide)) (hF215.1 99 (by decide) (by decide)))
        have hp225 : pm_w3 V212 := (pm_w3.fr hp13 (hF215.2 16 (by decide)) (hF215.2 46 (by decide)) (hF215.1 110 (by decide) (by decide)) (hF215.1 111 (by decide) (by decide)))
        refine pm_goto (tgt := 236) hC dX12_weighs_166 (by decide) ?_
        refine pm_aload_n hC 0 (by decide) dX12_weighs_236 rfl ?_
        refine pm_lconst (x := 0) hC dX12_weighs_237 rfl ?_
        refine pm_putf hC 90 fl_X12_362 rfl rfl rfl (by decide) rfl trivial dX12_weighs_238 ?_
        refine pm_iconst (v := 0) hC dX12_weighs_241 ?_
        obtain ⟨y226, e227⟩ : ∃ y, V212 90 16 = y := ⟨_, rfl⟩
        have b228 := hV214.get 90 16 (lo := 2) (hi := 9) (by decide) (by decide) rfl
        rw [e227] at b228
        replace hb17 := hb17.trans (pf_let_eq e227)
        refine pm_istore_n (lv' := [(3, (0, 0)), (0, (3, 90)), (1, (0, a1)), (2, (0, x1))]) hC dX12_weighs_242 (by decide) rfl ?_
        have hV231 := (hV214.put 90 51 (x := 0) (lo := 0) (hi := 720000000) rfl ⟨by decide, by decide⟩)
        have hF232 := (hF218.upf 51 0 rfl)
        obtain ⟨V229, hv230⟩ : ∃ V, V = (pm_up V212 90 51 0) := ⟨_, rfl⟩
        rw [← hv230] at hV231 hF232
        rw [← hv230]
        replace hb17 := hb17.trans (pf_let_eq hv230.symm)
        have e233 : V229 90 42 = z0 := by rw [hv230]; exact e219
        have e234 : V229 90 43 = z1 := by rw [hv230]; exact e220
        have e235 : V229 90 21 = y22 := by rw [hv230]; exact e221
        have e236 : V229 90 16 = y226 := by rw [hv230]; exact e227
        have e237 : V229 90 51 = 0 := by rw [hv230]; rfl
        have hp238 : pm_w1 V229 := by rw [hv230]; exact (pm_w1.fr hp222 rfl rfl rfl rfl rfl)
        have hp239 : pm_h1 V229 := by rw [hv230]; exact (pm_h1.fr hp223 rfl rfl)
        have hp240 : pm_h2 V229 := by rw [hv230]; exact (pm_h2.fr hp224 rfl rfl rfl)
        have hp241 : pm_w3 V229 := by rw [hv230]; exact (pm_w3.fr hp225 rfl rfl rfl rfl)
        have hp242 : pm_pos V229 := by rw [hv230]; exact (pm_pos.fr hg216 rfl rfl)
        obtain ⟨B260, hB261, hb17⟩ := pf_loop hb17
        have L263 : ∀ (N265 : Nat) (x243 : Int) (V245 : pm_M), (0 ≤ x243 ∧ x243 ≤ 9) → pm_oq pm_qB V245 → pm_fs [112] [51] V0 V245 → V245 90 42 = z0 → V245 90 43 = z1 → V245 90 21 = y22 → V245 90 16 = y226 → pm_w1 V245 → pm_h1 V245 → pm_h2 V245 → pm_w3 V245 → pm_pos V245 → (V245 90 51 ≤ 80000000 * x243) → (V245 90 51 = pm_sum (V245 112) ((x243) : Int).toNat) → (x243 ≤ V245 90 16) → B15 (x1, x3, V5) = pf_val (.inr ((0 : Int), V0)) B260 (x243, V245) → (Int.toNat (9 - x243)) = N265 → pm_J X 243 [(0, (3, 90)), (1, (0, a1)), (2, (0, x1)), (3, (0, x243))] [] 118 V245 := by
          intro N265
          induction N265 using Nat.strongRecOn with
          | _ N265 ih266 =>
          intro x243 V245 b244 hV246 hF247 e248 e249 e250 e251 hp252 hp253 hp254 hp255 hp256 hm257 hx258 hx259 hb17 hm264
          have hb262 := congrFun hB261 (x243, V245)
          refine pm_iload_n hC 3 dX12_weighs_243 rfl ?_
          refine pm_aload_n hC 0 (by decide) dX12_weighs_244 rfl ?_
          refine pm_getf (v := y226) hC 90 fl_X12_220 rfl rfl (by decide) rfl e251 dX12_weighs_245 ?_
          refine pm_icmp_ge (tgt := 272) hC ⟨by exact ow_83_6 b244, by exact ow_83_7 b244⟩ ⟨by exact ow_83_8 b228, by exact ow_83_9 b228⟩ dX12_weighs_248 (by decide) (fun c267 => ?_) (fun c267 => ?_)
          · skip
            replace hb262 := hb262.trans (if_pos c267)
            replace hb17 := hb17.trans (pf_val_inr hb262)
            replace hT := hT.trans (pf_val_inr hb17)
            exact pm_vret hC hR ⟨rfl, hV246, hF247, (by have h0 := hx258; have h2 := hx259; have hx : x243 = V245 90 16 := (by exact ow_83_10 e251 hx259 c267); rw [hx] at h0; refine ⟨?_, h0⟩; rw [h0]; obtain ⟨q, q1, q2⟩ := hp256; exact pm_sum_pos _ (fun j hj => (hV246.get 112 j (lo := 0) (hi := 80000000) (t := 0) (by decide) (show j < 9 by exact ow_83_11 b228 e251 hj) rfl).1) q (by exact ow_83_12 q1) q2), hT⟩ dX12_weighs_272
          · skip
            replace hb262 := hb262.trans (if_neg (Int.not_le.mpr c267))
            refine pm_aload_n hC 0 (by decide) dX12_weighs_251 rfl ?_
            refine pm_dup hC rfl dX12_weighs_252 ?_
            obtain ⟨y268, e269⟩ : ∃ y, V245 90 51 = y := ⟨_, rfl⟩
            have b270 := hV246.get 90 51 (lo := 0) (hi := 720000000) (by decide) (by decide) rfl
            rw [e269] at b270
            replace hb262 := hb262.trans (pf_let_eq e269)
            refine pm_getf (v := y268) hC 90 fl_X12_362 rfl rfl (by decide) rfl e269 dX12_weighs_253 ?_
            refine pm_aload_n hC 0 (by decide) dX12_weighs_256 rfl ?_
            have e271 : V245 90 50 = 112 := hV246.one 90 50 (by decide) (by decide) rfl
            refine pm_getf (v := 112) hC 90 fl_X12_76 rfl rfl (by decide) rfl e271 dX12_weighs_257 ?_
            refine pm_iload_n hC 3 dX12_weighs_260 rfl ?_
            obtain ⟨y272, e273⟩ : ∃ y, V245 112 (x243 : Int).toNat = y := ⟨_, rfl⟩
            replace hb262 := hb262.trans (pf_let_eq e273)
            have b274 := hV246.get 112 (x243 : Int).toNat (lo := 0) (hi := 80000000) (t := 0) (by decide) (show _ < 9 by exact ow_83_13 b228 c267) rfl
            rw [e273] at b274
            refine pm_laload (len := 9) (v := y272) hC 112 rfl rfl (by decide) ⟨by exact ow_83_14 b244, by exact ow_83_15 b228 c267⟩ (by decide) e273 dX12_weighs_261 ?_
            refine pm_ladd hC dX12_weighs_262 ?_
            refine pm_putf hC 90 fl_X12_362 rfl rfl rfl (by decide) rfl trivial dX12_weighs_263 ?_
            obtain ⟨x275, ei276⟩ : ∃ y : Int, x243 + 1 = y := ⟨_, rfl⟩
            replace hb262 := hb262.trans (pf_let_eq ei276)
            refine pm_iinc (y := x275) (lv' := [(3, (0, x275)), (0, (3, 90)), (1, (0, a1)), (2, (0, x1))]) hC 3 dX12_weighs_266 (by decide) rfl ei276 rfl ?_
            refine pm_goto (tgt := 243) hC dX12_weighs_269 (by decide) ?_
            refine pm_lvsub [1, 2, 3, 0] (lv' := [(0, (3, 90)), (1, (0, a1)), (2, (0, x1)), (3, (0, x275))]) rfl ?_
            exact ih266 _ (by exact ow_83_16 b228 hm264 c267 ei276) x275 (pm_up V245 90 51 (y268 + y272)) ⟨by exact ow_83_17 b244 ei276, by exact ow_83_18 b228 c267 ei276⟩ (hV246.put 90 51 (x := (y268 + y272)) (lo := 0) (hi := 720000000) rfl ⟨by exact ow_83_19 b270 b274, by omega⟩) (hF247.upf 51 (y268 + y272) rfl) e248 e249 e250 e251 (pm_w1.fr hp252 rfl rfl rfl rfl rfl) (pm_h1.fr hp253 rfl rfl) (pm_h2.fr hp254 rfl rfl rfl) (pm_w3.fr hp255 rfl rfl rfl rfl) (pm_pos.fr hp256 rfl rfl) (show (y268 + y272) ≤ 80000000 * x275 by omega) (by have h0 := hx258; rw [e269] at h0; have h1 : ((x275) : Int).toNat = ((x243) : Int).toNat + 1 := (by exact ow_83_30 b244 ei276); show (y268 + y272) = pm_sum (V245 112) ((x275) : Int).toNat; rw [h1]; show (y268 + y272) = pm_sum (V245 112) ((x243) : Int).toNat + V245 112 ((x243) : Int).toNat; rw [e273]; exact ow_83_21 h0) (by show x275 ≤ V245 90 16; exact ow_83_22 e251 c267 ei276) (hb17.trans (pf_val_inl hb262)) rfl
        refine pm_lvsub [1, 2, 3, 0] (lv' := [(0, (3, 90)), (1, (0, a1)), (2, (0, x1)), (3, (0, 0))]) rfl ?_
        exact L263 _ 0 V229 ⟨by decide, by decide⟩ hV231 hF232 e233 e234 e235 e236 hp238 hp239 hp240 hp241 hp242 (by (have e : V229 90 51 = 0 := e237); rw [e]; exact ow_83_23) (by rw [e237]; rfl) (by show 0 ≤ V229 90 16; exact ow_83_24 b228 e236) hb17 rfl
      · skip
        refine pm_tableIn (tgt := 169) (off := 63) hC ⟨by exact ow_83_46 c26, by exact ow_83_47 c26⟩ dX12_weighs_106 (by exact ow_83_48 c26) (by exact ow_83_49 c26) (by rw [c26]; rfl) (by decide) ?_
        replace hb17 := hb17.trans (if_neg (by exact ow_83_50 c26))
        replace hb17 := hb17.trans (if_neg (by exact ow_83_51 c26))
        replace hb17 := hb17.trans (if_neg (by exact ow_83_52 c26))
        replace hb17 := hb17.trans (if_neg (by exact ow_83_53 c26))
        replace hb17 := hb17.trans (if_pos c26)
        refine pm_iconst (v := 0) hC dX12_weighs_169 ?_
        refine pm_istore_n (lv' := [(3, (0, 0)), (0, (3, 90)), (1, (0, a1)), (2, (0, x1))]) hC dX12_weighs_170 (by decide) rfl ?_
        obtain ⟨B290, hB291, hb17⟩ := pf_loop hb17
        have L293 : ∀ (N295 : Nat) (x277 : Int) (V279 : pm_M), (0 ≤ x277 ∧ x277 ≤ 9) → pm_oq pm_qB V279 → pm_fs [112] [51] V0 V279 → V279 90 42 = z0 → V279 90 43 = z1 → V279 90 21 = y22 → pm_w1 V279 → pm_h1 V279 → pm_h2 V279 → pm_w3 V279 → (∀ q : Nat, (q : Int) < x277 → V279 112 q = V279 110 q * V279 111 q) → B15 (x1, x3, V5) = pf_val (.inr ((0 : Int), V0)) B290 (x277, V279) → (Int.toNat (9 - x277)) = N295 → pm_J X 171 [(0, (3, 90)), (1, (0, a1)), (2, (0, x1)), (3, (0, x277))] [] 118 V279 := by
          intro N295
          induction N295 using Nat.strongRecOn with
          | _ N295 ih296 =>
          intro x277 V279 b278 hV280 hF281 e282 e283 e284 hp285 hp286 hp287 hp288 hx289 hb17 hm294
          have hb292 := congrFun hB291 (x277, V279)
          refine pm_iload_n hC 3 dX12_weighs_171 rfl ?_
          refine pm_aload_n hC 0 (by decide) dX12_weighs_172 rfl ?_
          obtain ⟨y297, e298⟩ : ∃ y, V279 90 16 = y := ⟨_, rfl⟩
          have b299 := hV280.get 90 16 (lo := 2) (hi := 9) (by decide) (by decide) rfl
          rw [e298] at b299
          replace hb292 := hb292.trans (pf_let_eq e298)
          refine pm_getf (v := y297) hC 90 fl_X12_220 rfl rfl (by decide) rfl e298 dX12_weighs_173 ?_
          refine pm_icmp_ge (tgt := 206) hC ⟨by exact ow_83_6 b278, by exact ow_83_7 b278⟩ ⟨by exact ow_83_8 b299, by exact ow_83_9 b299⟩ dX12_weighs_176 (by decide) (fun c300 => ?_) (fun c300 => ?_)
          · skip
            replace hb292 := hb292.trans (if_pos c300)
            refine pm_aload_n hC 0 (by decide) dX12_weighs_206 rfl ?_
            obtain ⟨y301, e302⟩ : ∃ y, V279 90 46 = y := ⟨_, rfl⟩
            have b303 := hV280.get 90 46 (lo := 0) (hi := 2368521) (by decide) (by decide) rfl
            rw [e302] at b303
            replace hb292 := hb292.trans (pf_let_eq e302)
            refine pm_getf (v := y301) hC 90 fl_X12_332 rfl rfl (by decide) rfl e302 dX12_weighs_207 ?_
            refine pm_lconst (x := 0) hC dX12_weighs_210 rfl ?_
            refine pm_lcmp hC ⟨by exact ow_83_54 b303, by exact ow_83_55 b303⟩ ⟨by decide, by decide⟩ dX12_weighs_211 (fun y304 b305 => ?_)
            replace hb292 := hb292.trans (pf_let_eq (pm_cmp_u b305))
            refine pm_if_ne (tgt := 236) hC ⟨by exact ow_83_56 b305, by exact ow_83_57 b305⟩ dX12_weighs_212 (by decide) (fun c306 => ?_) (fun c306 => ?_)
            · skip
              replace hb292 := hb292.trans (if_pos c306)
              have hpos307 : pm_pos V279 := by
                have h3 := hp288
                unfold pm_w3 at h3
                rw [e302, e298] at h3
                obtain ⟨q, q1, q2, q3⟩ := h3 (by exact ow_83_58 b303 b305 c306)
                exact ⟨q, by rw [e298]; exact q1, by rw [hx289 q (by exact ow_83_59 c300 q1)]; exact pm_mul1 q2 q3⟩
              refine pm_aload_n hC 0 (by decide) dX12_weighs_236 rfl ?_
              refine pm_lconst (x := 0) hC dX12_weighs_237 rfl ?_
              refine pm_putf hC 90 fl_X12_362 rfl rfl rfl (by decide) rfl trivial dX12_weighs_238 ?_
              refine pm_iconst (v := 0) hC dX12_weighs_241 ?_
              refine pm_istore_n (lv' := [(3, (0, 0)), (0, (3, 90)), (1, (0, a1)), (2, (0, x1))]) hC dX12_weighs_242 (by decide) rfl ?_
              have hV310 := (hV280.put 90 51 (x := 0) (lo := 0) (hi := 720000000) rfl ⟨by decide, by decide⟩)
              have hF311 := (hF281.upf 51 0 rfl)
              obtain ⟨V308, hv309⟩ : ∃ V, V = (pm_up V279 90 51 0) := ⟨_, rfl⟩
              rw [← hv309] at hV310 hF311
              rw [← hv309]
              replace hb292 := hb292.trans (pf_let_eq hv309.symm)
              have e312 : V308 90 42 = z0 := by rw [hv309]; exact e282
              have e313 : V308 90 43 = z1 := by rw [hv309]; exact e283
              have e314 : V308 90 21 = y22 := by rw [hv309]; exact e284
              have e315 : V308 90 16 = y297 := by rw [hv309]; exact e298
              have e316 : V308 90 46 = y301 := by rw [hv309]; exact e302
              have e317 : V308 90 51 = 0 := by rw [hv309]; rfl
              have hp318 : pm_w1 V308 := by rw [hv309]; exact (pm_w1.fr hp285 rfl rfl rfl rfl rfl)
              have hp319 : pm_h1 V308 := by rw [hv309]; exact (pm_h1.fr hp286 rfl rfl)
              have hp320 : pm_h2 V308 := by rw [hv309]; exact (pm_h2.fr hp287 rfl rfl rfl)
              have hp321 : pm_w3 V308 := by rw [hv309]; exact (pm_w3.fr hp288 rfl rfl rfl rfl)
              have hp322 : pm_pos V308 := by rw [hv309]; exact (pm_pos.fr hpos307 rfl rfl)
              obtain ⟨B341, hB342, hb292⟩ := pf_loop hb292
              have L344 : ∀ (N346 : Nat) (x323 : Int) (V325 : pm_M), (0 ≤ x323 ∧ x323 ≤ 9) → pm_oq pm_qB V325 → pm_fs [112] [51] V0 V325 → V325 90 42 = z0 → V325 90 43 = z1 → V325 90 21 = y22 → V325 90 16 = y297 → V325 90 46 = y301 → pm_w1 V325 → pm_h1 V325 → pm_h2 V325 → pm_w3 V325 → pm_pos V325 → (V325 90 51 ≤ 80000000 * x323) → (V325 90 51 = pm_sum (V325 112) ((x323) : Int).toNat) → (x323 ≤ V325 90 16) → B290 (x277, V279) = pf_val (.inr (.inr ((0 : Int), V0))) B341 (x323, V325) → (Int.toNat (9 - x323)) = N346 → pm_J X 243 [(0, (3, 90)), (1, (0, a1)), (2, (0, x1)), (3, (0, x323))] [] 118 V325 := by
                intro N346
                induction N346 using Nat.strongRecOn with
                | _ N346 ih347 =>
                intro x323 V325 b324 hV326 hF327 e328 e329 e330 e331 e332 hp333 hp334 hp335 hp336 hp337 hm338 hx339 hx340 hb292 hm345
                have hb343 := congrFun hB342 (x323, V325)
                refine pm_iload_n hC 3 dX12_weighs_243 rfl ?_
                refine pm_aload_n hC 0 (by decide) dX12_weighs_244 rfl ?_
                refine pm_getf (v := y297) hC 90 fl_X12_220 rfl rfl (by decide) rfl e331 dX12_weighs_245 ?_
                refine pm_icmp_ge (tgt := 272) hC ⟨by exact ow_83_6 b324, by exact ow_83_7 b324⟩ ⟨by exact ow_83_8 b299, by exact ow_83_9 b299⟩ dX12_weighs_248 (by decide) (fun c348 => ?_) (fun c348 => ?_)
                · skip
                  replace hb343 := hb343.trans (if_pos c348)
                  replace hb292 := hb292.trans (pf_val_inr hb343)
                  replace hb17 := hb17.trans (pf_val_inr hb292)
                  replace hT := hT.trans (pf_val_inr hb17)
                  exact pm_vret hC hR ⟨rfl, hV326, hF327, (by have h0 := hx339; have h2 := hx340; have hx : x323 = V325 90 16 := (by exact ow_83_10 e331 hx340 c348); rw [hx] at h0; refine ⟨?_, h0⟩; rw [h0]; obtain ⟨q, q1, q2⟩ := hp337; exact pm_sum_pos _ (fun j hj => (hV326.get 112 j (lo := 0) (hi := 80000000) (t := 0) (by decide) (show j < 9 by exact ow_83_11 b299 e331 hj) rfl).1) q (by exact ow_83_12 q1) q2), hT⟩ dX12_weighs_272
                · skip
                  replace hb343 := hb343.trans (if_neg (Int.not_le.mpr c348))
                  refine pm_aload_n hC 0 (by decide) dX12_weighs_251 rfl ?_
                  refine pm_dup hC rfl dX12_weighs_252 ?_
                  obtain ⟨y349, e350⟩ : ∃ y, V325 90 51 = y := ⟨_, rfl⟩
                  have b351 := hV326.get 90 51 (lo := 0) (hi := 720000000) (by decide) (by decide) rfl
                  rw [e350] at b351
                  replace hb343 := hb343.trans (pf_let_eq e350)
                  refine pm_getf (v := y349) hC 90 fl_X12_362 rfl rfl (by decide) rfl e350 dX12_weighs_253 ?_
                  refine pm_aload_n hC 0 (by decide) dX12_weighs_256 rfl ?_
                  have e352 : V325 90 50 = 112 := hV326.one 90 50 (by decide) (by decide) rfl
                  refine pm_getf (v := 112) hC 90 fl_X12_76 rfl rfl (by decide) rfl e352 dX12_weighs_257 ?_
                  refine pm_iload_n hC 3 dX12_weighs_260 rfl ?_
                  obtain ⟨y353, e354⟩ : ∃ y, V325 112 (x323 : Int).toNat = y := ⟨_, rfl⟩
                  replace hb343 := hb343.trans (pf_let_eq e354)
                  have b355 := hV326.get 112 (x323 : Int).toNat (lo := 0) (hi := 80000000) (t := 0) (by decide) (show _ < 9 by exact ow_83_13 b299 c348) rfl
                  rw [e354] at b355
                  refine pm_laload (len := 9) (v := y353) hC 112 rfl rfl (by decide) ⟨by exact ow_83_14 b324, by exact ow_83_15 b299 c348⟩ (by decide) e354 dX12_weighs_261 ?_
                  refine pm_ladd hC dX12_weighs_262 ?_
                  refine pm_putf hC 90 fl_X12_362 rfl rfl rfl (by decide) rfl trivial dX12_weighs_263 ?_
                  obtain ⟨x356, ei357⟩ : ∃ y : Int, x323 + 1 = y := ⟨_, rfl⟩
                  replace hb343 := hb343.trans (pf_let_eq ei357)
                  refine pm_iinc (y := x356) (lv' := [(3, (0, x356)), (0, (3, 90)), (1, (0, a1)), (2, (0, x1))]) hC 3 dX12_weighs_266 (by decide) rfl ei357 rfl ?_
                  refine pm_goto (tgt := 243) hC dX12_weighs_269 (by decide) ?_
                  refine pm_lvsub [1, 2, 3, 0] (lv' := [(0, (3, 90)), (1, (0, a1)), (2, (0, x1)), (3, (0, x356))]) rfl ?_
                  exact ih347 _ (by exact ow_83_16 b299 hm345 c348 ei357) x356 (pm_up V325 90 51 (y349 + y353)) ⟨by exact ow_83_17 b324 ei357, by exact ow_83_18 b299 c348 ei357⟩ (hV326.put 90 51 (x := (y349 + y353)) (lo := 0) (hi := 720000000) rfl ⟨by exact ow_83_19 b351 b355, by omega⟩) (hF327.upf 51 (y349 + y353) rfl) e328 e329 e330 e331 e332 (pm_w1.fr hp333 rfl rfl rfl rfl rfl) (pm_h1.fr hp334 rfl rfl) (pm_h2.fr hp335 rfl rfl rfl) (pm_w3.fr hp336 rfl rfl rfl rfl) (pm_pos.fr hp337 rfl rfl) (show (y349 + y353) ≤ 80000000 * x356 by omega) (by have h0 := hx339; rw [e350] at h0; have h1 : ((x356) : Int).toNat = ((x323) : Int).toNat + 1 := (by exact ow_83_30 b324 ei357); show (y349 + y353) = pm_sum (V325 112) ((x356) : Int).toNat; rw [h1]; show (y349 + y353) = pm_sum (V325 112) ((x323) : Int).toNat + V325 112 ((x323) : Int).toNat; rw [e354]; exact ow_83_21 h0) (by show x356 ≤ V325 90 16; exact ow_83_22 e331 c348 ei357) (hb292.trans (pf_val_inl hb343)) rfl
              refine pm_lvsub [1, 2, 3, 0] (lv' := [(0, (3, 90)), (1, (0, a1)), (2, (0, x1)), (3, (0, 0))]) rfl ?_
              exact L344 _ 0 V308 ⟨by decide, by decide⟩ hV310 hF311 e312 e313 e314 e315 e316 hp318 hp319 hp320 hp321 hp322 (by (have e : V308 90 51 = 0 := e317); rw [e]; exact ow_83_23) (by rw [e317]; rfl) (by show 0 ≤ V308 90 16; exact ow_83_24 b299 e315) hb292 rfl
            · skip
              replace hb292 := hb292.trans (if_neg (fun q => q c306))
              refine pm_aload_n hC 0 (by decide) dX12_weighs_215 rfl ?_
              refine pm_callV (ci := 12) (as := []) (st := []) hC 90 fB_X12_takesVoice lm_X12_344 li_X12_takesVoice (by decide) (by decide) rfl rfl rfl (by decide) rfl rfl (Nat.le_of_ble_eq_true rfl) ⟨Nat.le_refl _, Or.inl rfl⟩ dX12_weighs_216 ⟨rfl, hV280, hp285⟩ (fun r358 V359 hp360 => ?_)
              obtain ⟨rfl, hV361, hF362, hg363, hE364⟩ := hp360
              replace hb292 := hb292.trans (pf_call_eq hE364)
              change pm_J X 219 [(0, (3, 90)), (1, (0, a1)), (2, (0, x1)), (3, (0, x277))] [] 118 V359
              have hF365 := pm_fs.tr hF281 hF362 (by decide) (by decide)
              have e366 : V359 90 42 = z0 := by rw [hF362.2 42 (by decide)]; exact e282
              have e367 : V359 90 43 = z1 := by rw [hF362.2 43 (by decide)]; exact e283
              have e368 : V359 90 21 = y22 := by rw [hF362.2 21 (by decide)]; exact e284
              have e369 : V359 90 16 = y297 := by rw [hF362.2 16 (by decide)]; exact e298
              have e370 : V359 90 46 = y301 := by rw [hF362.2 46 (by decide)]; exact e302
              have hp371 : pm_w1 V359 := (pm_w1.fr hp285 (hF362.2 16 (by decide)) (hF362.2 48 (by decide)) (hF362.2 49 (by decide)) (hF362.1 110 (by decide) (by decide)) (hF362.1 111 (by decide) (by decide)))
              have hp372 : pm_h1 V359 := (pm_h1.fr hp286 (hF362.2 16 (by decide)) (hF362.1 97 (by decide) (by decide)))
              have hp373 : pm_h2 V359 := (pm_h2.fr hp287 (hF362.2 16 (by decide)) (hF362.2 21 (by decide)) (hF362.1 99 (by decide) (by decide)))
              have hp374 : pm_w3 V359 := (pm_w3.fr hp288 (hF362.2 16 (by decide)) (hF362.2 46 (by decide)) (hF362.1 110 (by decide) (by decide)) (hF362.1 111 (by decide) (by decide)))
              refine pm_goto (tgt := 236) hC dX12_weighs_219 (by decide) ?_
              refine pm_aload_n hC 0 (by decide) dX12_weighs_236 rfl ?_
              refine pm_lconst (x := 0) hC dX12_weighs_237 rfl ?_
              refine pm_putf hC 90 fl_X12_362 rfl rfl rfl (by decide) rfl trivial dX12_weighs_238 ?_
              refine pm_iconst (v := 0) hC dX12_weighs_241 ?_
              refine pm_istore_n (lv' := [(3, (0, 0)), (0, (3, 90)), (1, (0, a1)), (2, (0, x1))]) hC dX12_weighs_242 (by decide) rfl ?_
              have hV377 := (hV361.put 90 51 (x := 0) (lo := 0) (hi := 720000000) rfl ⟨by decide, by decide⟩)
              have hF378 := (hF365.upf 51 0 rfl)
              obtain ⟨V375, hv376⟩ : ∃ V, V = (pm_up V359 90 51 0) := ⟨_, rfl⟩
              rw [← hv376] at hV377 hF378
              rw [← hv376]
              replace hb292 := hb292.trans (pf_let_eq hv376.symm)
              have e379 : V375 90 42 = z0 := by rw [hv376]; exact e366
              have e380 : V375 90 43 = z1 := by rw [hv376]; exact e367
              have e381 : V375 90 21 = y22 := by rw [hv376]; exact e368
              have e382 : V375 90 16 = y297 := by rw [hv376]; exact e369
              have e383 : V375 90 46 = y301 := by rw [hv376]; exact e370
              have e384 : V375 90 51 = 0 := by rw [hv376]; rfl
              have hp385 : pm_w1 V375 := by rw [hv376]; exact (pm_w1.fr hp371 rfl rfl rfl rfl rfl)
              have hp386 : pm_h1 V375 := by rw [hv376]; exact (pm_h1.fr hp372 rfl rfl)
              have hp387 : pm_h2 V375 := by rw [hv376]; exact (pm_h2.fr hp373 rfl rfl rfl)
              have hp388 : pm_w3 V375 := by rw [hv376]; exact (pm_w3.fr hp374 rfl rfl rfl rfl)
              have hp389 : pm_pos V375 := by rw [hv376]; exact (pm_pos.fr hg363 rfl rfl)
              obtain ⟨B408, hB409, hb292⟩ := pf_loop hb292
              have L411 : ∀ (N413 : Nat) (x390 : Int) (V392 : pm_M), (0 ≤ x390 ∧ x390 ≤ 9) → pm_oq pm_qB V392 → pm_fs [112] [51] V0 V392 → V392 90 42 = z0 → V392 90 43 = z1 → V392 90 21 = y22 → V392 90 16 = y297 → V392 90 46 = y301 → pm_w1 V392 → pm_h1 V392 → pm_h2 V392 → pm_w3 V392 → pm_pos V392 → (V392 90 51 ≤ 80000000 * x390) → (V392 90 51 = pm_sum (V392 112) ((x390) : Int).toNat) → (x390 ≤ V392 90 16) → B290 (x277, V279) = pf_val (.inr (.inr ((0 : Int), V0))) B408 (x390, V392) → (Int.toNat (9 - x390)) = N413 → pm_J X 243 [(0, (3, 90)), (1, (0, a1)), (2, (0, x1)), (3, (0, x390))] [] 118 V392 := by
                intro N413
                induction N413 using Nat.strongRecOn with
                | _ N413 ih414 =>
                intro x390 V392 b391 hV393 hF394 e395 e396 e397 e398 e399 hp400 hp401 hp402 hp403 hp404 hm405 hx406 hx407 hb292 hm412
                have hb410 := congrFun hB409 (x390, V392)
                refine pm_iload_n hC 3 dX12_weighs_243 rfl ?_
                refine pm_aload_n hC 0 (by decide) dX12_weighs_244 rfl ?_
                refine pm_getf (v := y297) hC 90 fl_X12_220 rfl rfl (by decide) rfl e398 dX12_weighs_245 ?_
                refine pm_icmp_ge (tgt := 272) hC ⟨by exact ow_83_6 b391, by exact ow_83_7 b391⟩ ⟨by exact ow_83_8 b299, by exact ow_83_9 b299⟩ dX12_weighs_248 (by decide) (fun c415 => ?_) (fun c415 => ?_)
                · skip
                  replace hb410 := hb410.trans (if_pos c415)
                  replace hb292 := hb292.trans (pf_val_inr hb410)
                  replace hb17 := hb17.trans (pf_val_inr hb292)
                  replace hT := hT.trans (pf_val_inr hb17)
                  exact pm_vret hC hR ⟨rfl, hV393, hF394, (by have h0 := hx406; have h2 := hx407; have hx : x390 = V392 90 16 := (by exact ow_83_10 e398 hx407 c415); rw [hx] at h0; refine ⟨?_, h0⟩; rw [h0]; obtain ⟨q, q1, q2⟩ := hp404; exact pm_sum_pos _ (fun j hj => (hV393.get 112 j (lo := 0) (hi := 80000000) (t := 0) (by decide) (show j < 9 by exact ow_83_11 b299 e398 hj) rfl).1) q (by exact ow_83_12 q1) q2), hT⟩ dX12_weighs_272
                · skip
                  replace hb410 := hb410.trans (if_neg (Int.not_le.mpr c415))
                  refine pm_aload_n hC 0 (by decide) dX12_weighs_251 rfl ?_
                  refine pm_dup hC rfl dX12_weighs_252 ?_
                  obtain ⟨y416, e417⟩ : ∃ y, V392 90 51 = y := ⟨_, rfl⟩
                  have b418 := hV393.get 90 51 (lo := 0) (hi := 720000000) (by decide) (by decide) rfl
                  rw [e417] at b418
                  replace hb410 := hb410.trans (pf_let_eq e417)
                  refine pm_getf (v := y416) hC 90 fl_X12_362 rfl rfl (by decide) rfl e417 dX12_weighs_253 ?_
                  refine pm_aload_n hC 0 (by decide) dX12_weighs_256 rfl ?_
                  have e419 : V392 90 50 = 112 := hV393.one 90 50 (by decide) (by decide) rfl
                  refine pm_getf (v := 112) hC 90 fl_X12_76 rfl rfl (by decide) rfl e419 dX12_weighs_257 ?_
                  refine pm_iload_n hC 3 dX12_weighs_260 rfl ?_
                  obtain ⟨y420, e421⟩ : ∃ y, V392 112 (x390 : Int).toNat = y := ⟨_, rfl⟩
                  replace hb410 := hb410.trans (pf_let_eq e421)
                  have b422 := hV393.get 112 (x390 : Int).toNat (lo := 0) (hi := 80000000) (t := 0) (by decide) (show _ < 9 by exact ow_83_13 b299 c415) rfl
                  rw [e421] at b422
                  refine pm_laload (len := 9) (v := y420) hC 112 rfl rfl (by decide) ⟨by exact ow_83_37 hm405 e417 b418, by exact ow_83_15 b299 c415⟩ (by decide) e421 dX12_weighs_261 ?_
                  refine pm_ladd hC dX12_weighs_262 ?_
                  refine pm_putf hC 90 fl_X12_362 rfl rfl rfl (by decide) rfl trivial dX12_weighs_263 ?_
                  obtain ⟨x423, ei424⟩ : ∃ y : Int, x390 + 1 = y := ⟨_, rfl⟩
                  replace hb410 := hb410.trans (pf_let_eq ei424)
                  refine pm_iinc (y := x423) (lv' := [(3, (0, x423)), (0, (3, 90)), (1, (0, a1)), (2, (0, x1))]) hC 3 dX12_weighs_266 (by decide) rfl ei424 rfl ?_
                  refine pm_goto (tgt := 243) hC dX12_weighs_269 (by decide) ?_
                  refine pm_lvsub [1, 2, 3, 0] (lv' := [(0, (3, 90)), (1, (0, a1)), (2, (0, x1)), (3, (0, x423))]) rfl ?_
                  exact ih414 _ (by exact ow_83_16 b299 hm412 c415 ei424) x423 (pm_up V392 90 51 (y416 + y420)) ⟨by exact ow_83_38 hm405 e417 b418 ei424, by exact ow_83_18 b299 c415 ei424⟩ (hV393.put 90 51 (x := (y416 + y420)) (lo := 0) (hi := 720000000) rfl ⟨by exact ow_83_19 b418 b422, by omega⟩) (hF394.upf 51 (y416 + y420) rfl) e395 e396 e397 e398 e399 (pm_w1.fr hp400 rfl rfl rfl rfl rfl) (pm_h1.fr hp401 rfl rfl) (pm_h2.fr hp402 rfl rfl rfl) (pm_w3.fr hp403 rfl rfl rfl rfl) (pm_pos.fr hp404 rfl rfl) (show (y416 + y420) ≤ 80000000 * x423 by omega) (by have h0 := hx406; rw [e417] at h0; have h1 : ((x423) : Int).toNat = ((x390) : Int).toNat + 1 := (by omega); show (y416 + y420) = pm_sum (V392 112) ((x423) : Int).toNat; rw [h1]; show (y416 + y420) = pm_sum (V392 112) ((x390) : Int).toNat + V392 112 ((x390) : Int).toNat; rw [e421]; exact ow_83_21 h0) (by show x423 ≤ V392 90 16; exact ow_83_22 e398 c415 ei424) (hb292.trans (pf_val_inl hb410)) rfl
              refine pm_lvsub [1, 2, 3, 0] (lv' := [(0, (3, 90)), (1, (0, a1)), (2, (0, x1)), (3, (0, 0))]) rfl ?_
              exact L411 _ 0 V375 ⟨by decide, by decide⟩ hV377 hF378 e379 e380 e381 e382 e383 hp385 hp386 hp387 hp388 hp389 (by (have e : V375 90 51 = 0 := e384); rw [e]; exact ow_83_23) (by rw [e384]; rfl) (by show 0 ≤ V375 90 16; exact ow_83_24 b299 e382) hb292 rfl
          · skip
            replace hb292 := hb292.trans (if_neg (Int.not_le.mpr c300))
            refine pm_aload_n hC 0 (by decide) dX12_weighs_179 rfl ?_
            have e425 : V279 90 50 = 112 := hV280.one 90 50 (by decide) (by decide) rfl
            refine pm_getf (v := 112) hC 90 fl_X12_76 rfl rfl (by decide) rfl e425 dX12_weighs_180 ?_
            refine pm_iload_n hC 3 dX12_weighs_183 rfl ?_
            refine pm_aload_n hC 0 (by decide) dX12_weighs_184 rfl ?_
            have e426 : V279 90 40 = 110 := hV280.one 90 40 (by decide) (by decide) rfl
            refine pm_getf (v := 110) hC 90 fl_X12_70 rfl rfl (by decide) rfl e426 dX12_weighs_185 ?_
            refine pm_iload_n hC 3 dX12_weighs_188 rfl ?_
            obtain ⟨y427, e428⟩ : ∃ y, V279 110 (x277 : Int).toNat = y := ⟨_, rfl⟩
            replace hb292 := hb292.trans (pf_let_eq e428)
            have b429 := hV280.get 110 (x277 : Int).toNat (lo := 0) (hi := 1539) (t := 0) (by decide) (show _ < 9 by exact ow_83_13 b299 c300) rfl
            rw [e428] at b429
            refine pm_iaload (len := 9) (v := y427) hC 110 rfl rfl (by decide) ⟨by exact ow_83_14 b278, by exact ow_83_15 b299 c300⟩ (by decide) e428 dX12_weighs_189 ?_
            refine pm_i2l hC ⟨by exact ow_83_60 b429, by exact ow_83_61 b429⟩ dX12_weighs_190 ?_
            refine pm_aload_n hC 0 (by decide) dX12_weighs_191 rfl ?_
            have e430 : V279 90 41 = 111 := hV280.one 90 41 (by decide) (by decide) rfl
            refine pm_getf (v := 111) hC 90 fl_X12_73 rfl rfl (by decide) rfl e430 dX12_weighs_192 ?_
            refine pm_iload_n hC 3 dX12_weighs_195 rfl ?_
            obtain ⟨y431, e432⟩ : ∃ y, V279 111 (x277 : Int).toNat = y := ⟨_, rfl⟩
            replace hb292 := hb292.trans (pf_let_eq e432)
            have b433 := hV280.get 111 (x277 : Int).toNat (lo := 0) (hi := 171) (t := 0) (by decide) (show _ < 9 by exact ow_83_13 b299 c300) rfl
            rw [e432] at b433
            refine pm_iaload (len := 9) (v := y431) hC 111 rfl rfl (by decide) ⟨by exact ow_83_14 b278, by exact ow_83_15 b299 c300⟩ (by decide) e432 dX12_weighs_196 ?_
            refine pm_i2l hC ⟨by exact ow_83_62 b433, by exact ow_83_63 b433⟩ dX12_weighs_197 ?_
            refine pm_lmul hC dX12_weighs_198 ?_
            have b435 : 0 ≤ (y427 * y431) ∧ (y427 * y431) ≤ 263169 := pm_mulb (by exact ow_83_64 b429) (by exact ow_83_65 b433) (show y427 ≤ 1539 by exact ow_83_66 b429) (show y431 ≤ 171 by exact ow_83_67 b433) (by decide)
            obtain ⟨y434, hey434⟩ : ∃ z, (y427 * y431) = z := ⟨_, rfl⟩
            rw [hey434] at b435 ⊢
            replace hb292 := hb292.trans (pf_let_eq hey434)
            refine pm_lastore (len := 9) hC 112 rfl rfl (by decide) ⟨by exact ow_83_14 b278, by exact ow_83_15 b299 c300⟩ (by decide) dX12_weighs_199 ?_
            obtain ⟨x436, ei437⟩ : ∃ y : Int, x277 + 1 = y := ⟨_, rfl⟩
            replace hb292 := hb292.trans (pf_let_eq ei437)
            refine pm_iinc (y := x436) (lv' := [(3, (0, x436)), (0, (3, 90)), (1, (0, a1)), (2, (0, x1))]) hC 3 dX12_weighs_200 (by decide) rfl ei437 rfl ?_
            refine pm_goto (tgt := 171) hC dX12_weighs_203 (by decide) ?_
            refine pm_lvsub [1, 2, 3, 0] (lv' := [(0, (3, 90)), (1, (0, a1)), (2, (0, x1)), (3, (0, x436))]) rfl ?_
            exact ih296 _ (by exact ow_83_68 hm294 b299 c300 ei437) x436 (pm_up V279 112 (x277 : Int).toNat y434) ⟨by exact ow_83_17 b278 ei437, by exact ow_83_18 b299 c300 ei437⟩ (hV280.put 112 (x277 : Int).toNat (x := y434) (lo := 0) (hi := 80000000) rfl ⟨by exact ow_83_69 b435, by exact ow_83_70 b435⟩) (hF281.up 112 (x277 : Int).toNat y434 (by decide) rfl) e282 e283 e284 (pm_w1.fr hp285 rfl rfl rfl rfl rfl) (pm_h1.fr hp286 rfl rfl) (pm_h2.fr hp287 rfl rfl rfl) (pm_w3.fr hp288 rfl rfl rfl rfl) (fun q h => by (by_cases hq : q = (x277 : Int).toNat); (subst hq; show pm_up V279 112 (x277 : Int).toNat y434 112 (x277 : Int).toNat = V279 110 _ * V279 111 _; rw [pm_up_s, e428, e432]; omega); (show pm_up V279 112 (x277 : Int).toNat y434 112 q = V279 110 q * V279 111 q; rw [pm_up_i hq]; exact hx289 q (by exact ow_83_71 ei437 h hq))) (hb17.trans (pf_val_inl hb292)) rfl
        refine pm_lvsub [1, 2, 3, 0] (lv' := [(0, (3, 90)), (1, (0, a1)), (2, (0, x1)), (3, (0, 0))]) rfl ?_
        exact L293 _ 0 V5 ⟨by decide, by decide⟩ hV6 hF7 e8 e9 e23 hp10 hp11 hp12 hp13 (fun q h => absurd h (by exact ow_83_72 h)) hb17 rfl
      · skip
        refine pm_tableIn (tgt := 222) (off := 116) hC ⟨by exact ow_83_73 c26, by exact ow_83_74 c26⟩ dX12_weighs_106 (by exact ow_83_75 c26) (by exact ow_83_76 c26) (by rw [c26]; rfl) (by decide) ?_
        replace hb17 := hb17.trans (if_neg (by exact ow_83_77 c26))
        replace hb17 := hb17.trans (if_neg (by exact ow_83_78 c26))
        replace hb17 := hb17.trans (if_neg (by exact ow_83_79 c26))
        replace hb17 := hb17.trans (if_neg (by exact ow_83_80 c26))
        replace hb17 := hb17.trans (if_neg (by exact ow_83_81 c26))
        replace hb17 := hb17.trans (if_pos c26)
        refine pm_aload_n hC 0 (by decide) dX12_weighs_222 rfl ?_
        refine pm_callV (ci := 12) (as := []) (st := []) hC 90 fB_X12_takesOdds lm_X12_356 li_X12_takesOdds (by decide) (by decide) rfl rfl rfl (by decide) rfl rfl (Nat.le_of_ble_eq_true rfl) ⟨Nat.le_refl _, Or.inl rfl⟩ dX12_weighs_223 ⟨rfl, hV6, hp10⟩ (fun r438 V439 hp440 => ?_)
        obtain ⟨rfl, hV441, hF442, hg443, hE444⟩ := hp440
        replace hb17 := hb17.trans (pf_call_eq hE444)
        change pm_J X 226 [(0, (3, 90)), (1, (0, a1)), (2, (0, x1)), (3, (0, x3))] [] 118 V439
        have hF445 := pm_fs.tr hF7 hF442 (by decide) (by decide)
        have e446 : V439 90 42 = z0 := by rw [hF442.2 42 (by decide)]; exact e8
        have e447 : V439 90 43 = z1 := by rw [hF442.2 43 (by decide)]; exact e9
        have e448 : V439 90 21 = y22 := by rw [hF442.2 21 (by decide)]; exact e23
        have hp449 : pm_w1 V439 := (pm_w1.fr hp10 (hF442.2 16 (by decide)) (hF442.2 48 (by decide)) (hF442.2 49 (by decide)) (hF442.1 110 (by decide) (by decide)) (hF442.1 111 (by decide) (by decide)))
        have hp450 : pm_h1 V439 := (pm_h1.fr hp11 (hF442.2 16 (by decide)) (hF442.1 97 (by decide) (by decide)))
        have hp451 : pm_h2 V439 := (pm_h2.fr hp12 (hF442.2 16 (by decide)) (hF442.2 21 (by decide)) (hF442.1 99 (by decide) (by decide)))
        have hp452 : pm_w3 V439 := (pm_w3.fr hp13 (hF442.2 16 (by decide)) (hF442.2 46 (by decide)) (hF442.1 110 (by decide) (by decide)) (hF442.1 111 (by decide) (by decide)))
        refine pm_goto (tgt := 236) hC dX12_weighs_226 (by decide) ?_
        refine pm_aload_n hC 0 (by decide) dX12_weighs_236 rfl ?_
        refine pm_lconst (x := 0) hC dX12_weighs_237 rfl ?_
        refine pm_putf hC 90 fl_X12_362 rfl rfl rfl (by decide) rfl trivial dX12_weighs_238 ?_
        refine pm_iconst (v := 0) hC dX12_weighs_241 ?_
        obtain ⟨y453, e454⟩ : ∃ y, V439 90 16 = y := ⟨_, rfl⟩
        have b455 := hV441.get 90 16 (lo := 2) (hi := 9) (by decide) (by decide) rfl
        rw [e454] at b455
        replace hb17 := hb17.trans (pf_let_eq e454)
        refine pm_istore_n (lv' := [(3, (0, 0)), (0, (3, 90)), (1, (0, a1)), (2, (0, x1))]) hC dX12_weighs_242 (by decide) rfl ?_
        have hV458 := (hV441.put 90 51 (x := 0) (lo := 0) (hi := 720000000) rfl ⟨by decide, by decide⟩)
        have hF459 := (hF445.upf 51 0 rfl)
        obtain ⟨V456, hv457⟩ : ∃ V, V = (pm_up V439 90 51 0) := ⟨_, rfl⟩
        rw [← hv457] at hV458 hF459
        rw [← hv457]
        replace hb17 := hb17.trans (pf_let_eq hv457.symm)
        have e460 : V456 90 42 = z0 := by rw [hv457]; exact e446
        have e461 : V456 90 43 = z1 := by rw [hv457]; exact e447
        have e462 : V456 90 21 = y22 := by rw [hv457]; exact e448
        have e463 : V456 90 16 = y453 := by rw [hv457]; exact e454
        have e464 : V456 90 51 = 0 := by rw [hv457]; rfl
        have hp465 : pm_w1 V456 := by rw [hv457]; exact (pm_w1.fr hp449 rfl rfl rfl rfl rfl)
        have hp466 : pm_h1 V456 := by rw [hv457]; exact (pm_h1.fr hp450 rfl rfl)
        have hp467 : pm_h2 V456 := by rw [hv457]; exact (pm_h2.fr hp451 rfl rfl rfl)
        have hp468 : pm_w3 V456 := by rw [hv457]; exact (pm_w3.fr hp452 rfl rfl rfl rfl)
        have hp469 : pm_pos V456 := by rw [hv457]; exact (pm_pos.fr hg443 rfl rfl)
        obtain ⟨B487, hB488, hb17⟩ := pf_loop hb17
        have L490 : ∀ (N492 : Nat) (x470 : Int) (V472 : pm_M), (0 ≤ x470 ∧ x470 ≤ 9) → pm_oq pm_qB V472 → pm_fs [112] [51] V0 V472 → V472 90 42 = z0 → V472 90 43 = z1 → V472 90 21 = y22 → V472 90 16 = y453 → pm_w1 V472 → pm_h1 V472 → pm_h2 V472 → pm_w3 V472 → pm_pos V472 → (V472 90 51 ≤ 80000000 * x470) → (V472 90 51 = pm_sum (V472 112) ((x470) : Int).toNat) → (x470 ≤ V472 90 16) → B15 (x1, x3, V5) = pf_val (.inr ((0 : Int), V0)) B487 (x470, V472) → (Int.toNat (9 - x470)) = N492 → pm_J X 243 [(0, (3, 90)), (1, (0, a1)), (2, (0, x1)), (3, (0, x470))] [] 118 V472 := by
          intro N492
          induction N492 using Nat.strongRecOn with
          | _ N492 ih493 =>
          intro x470 V472 b471 hV473 hF474 e475 e476 e477 e478 hp479 hp480 hp481 hp482 hp483 hm484 hx485 hx486 hb17 hm491
          have hb489 := congrFun hB488 (x470, V472)
          refine pm_iload_n hC 3 dX12_weighs_243 rfl ?_
          refine pm_aload_n hC 0 (by decide) dX12_weighs_244 rfl ?_
          refine pm_getf (v := y453) hC 90 fl_X12_220 rfl rfl (by decide) rfl e478 dX12_weighs_245 ?_
          refine pm_icmp_ge (tgt := 272) hC ⟨by exact ow_83_6 b471, by exact ow_83_7 b471⟩ ⟨by exact ow_83_8 b455, by exact ow_83_9 b455⟩ dX12_weighs_248 (by decide) (fun c494 => ?_) (fun c494 => ?_)
          · skip
            replace hb489 := hb489.trans (if_pos c494)
            replace hb17 := hb17.trans (pf_val_inr hb489)
            replace hT := hT.trans (pf_val_inr hb17)
            exact pm_vret hC hR ⟨rfl, hV473, hF474, (by have h0 := hx485; have h2 := hx486; have hx : x470 = V472 90 16 := (by exact ow_83_10 e478 hx486 c494); rw [hx] at h0; refine ⟨?_, h0⟩; rw [h0]; obtain ⟨q, q1, q2⟩ := hp483; exact pm_sum_pos _ (fun j hj => (hV473.get 112 j (lo := 0) (hi := 80000000) (t := 0) (by decide) (show j < 9 by exact ow_83_11 b455 e478 hj) rfl).1) q (by exact ow_83_12 q1) q2), hT⟩ dX12_weighs_272
          · skip
            replace hb489 := hb489.trans (if_neg (Int.not_le.mpr c494))
            refine pm_aload_n hC 0 (by decide) dX12_weighs_251 rfl ?_
            refine pm_dup hC rfl dX12_weighs_252 ?_
            obtain ⟨y495, e496⟩ : ∃ y, V472 90 51 = y := ⟨_, rfl⟩
            have b497 := hV473.get 90 51 (lo := 0) (hi := 720000000) (by decide) (by decide) rfl
            rw [e496] at b497
            replace hb489 := hb489.trans (pf_let_eq e496)
            refine pm_getf (v := y495) hC 90 fl_X12_362 rfl rfl (by decide) rfl e496 dX12_weighs_253 ?_
            refine pm_aload_n hC 0 (by decide) dX12_weighs_256 rfl ?_
            have e498 : V472 90 50 = 112 := hV473.one 90 50 (by decide) (by decide) rfl
            refine pm_getf (v := 112) hC 90 fl_X12_76 rfl rfl (by decide) rfl e498 dX12_weighs_257 ?_
            refine pm_iload_n hC 3 dX12_weighs_260 rfl ?_
            obtain ⟨y499, e500⟩ : ∃ y, V472 112 (x470 : Int).toNat = y := ⟨_, rfl⟩
            replace hb489 := hb489.trans (pf_let_eq e500)
            have b501 := hV473.get 112 (x470 : Int).toNat (lo := 0) (hi := 80000000) (t := 0) (by decide) (show _ < 9 by exact ow_83_13 b455 c494) rfl
            rw [e500] at b501
            refine pm_laload (len := 9) (v := y499) hC 112 rfl rfl (by decide) ⟨by exact ow_83_37 hm484 e496 b497, by exact ow_83_15 b455 c494⟩ (by decide) e500 dX12_weighs_261 ?_
            refine pm_ladd hC dX12_weighs_262 ?_
            refine pm_putf hC 90 fl_X12_362 rfl rfl rfl (by decide) rfl trivial dX12_weighs_263 ?_
            obtain ⟨x502, ei503⟩ : ∃ y : Int, x470 + 1 = y := ⟨_, rfl⟩
            replace hb489 := hb489.trans (pf_let_eq ei503)
            refine pm_iinc (y := x502) (lv' := [(3, (0, x502)), (0, (3, 90)), (1, (0, a1)), (2, (0, x1))]) hC 3 dX12_weighs_266 (by decide) rfl ei503 rfl ?_
            refine pm_goto (tgt := 243) hC dX12_weighs_269 (by decide) ?_
            refine pm_lvsub [1, 2, 3, 0] (lv' := [(0, (3, 90)), (1, (0, a1)), (2, (0, x1)), (3, (0, x502))]) rfl ?_
            exact ih493 _ (by exact ow_83_16 b455 hm491 c494 ei503) x502 (pm_up V472 90 51 (y495 + y499)) ⟨by exact ow_83_38 hm484 e496 b497 ei503, by exact ow_83_18 b455 c494 ei503⟩ (hV473.put 90 51 (x := (y495 + y499)) (lo := 0) (hi := 720000000) rfl ⟨by exact ow_83_19 b497 b501, by omega⟩) (hF474.upf 51 (y495 + y499) rfl) e475 e476 e477 e478 (pm_w1.fr hp479 rfl rfl rfl rfl rfl) (pm_h1.fr hp480 rfl rfl) (pm_h2.fr hp481 rfl rfl rfl) (pm_w3.fr hp482 rfl rfl rfl rfl) (pm_pos.fr hp483 rfl rfl) (show (y495 + y499) ≤ 80000000 * x502 by omega) (by have h0 := hx485; rw [e496] at h0; have h1 : ((x502) : Int).toNat = ((x470) : Int).toNat + 1 := (by exact ow_83_82 hm484 e496 b497 ei503); show (y495 + y499) = pm_sum (V472 112) ((x502) : Int).toNat; rw [h1]; show (y495 + y499) = pm_sum (V472 112) ((x470) : Int).toNat + V472 112 ((x470) : Int).toNat; rw [e500]; exact ow_83_21 h0) (by show x502 ≤ V472 90 16; exact ow_83_22 e478 c494 ei503) (hb17.trans (pf_val_inl hb489)) rfl
        refine pm_lvsub [1, 2, 3, 0] (lv' := [(0, (3, 90)), (1, (0, a1)), (2, (0, x1)), (3, (0, 0))]) rfl ?_
        exact L490 _ 0 V456 ⟨by decide, by decide⟩ hV458 hF459 e460 e461 e462 e463 hp465 hp466 hp467 hp468 hp469 (by (have e : V456 90 51 = 0 := e464); rw [e]; exact ow_83_23) (by rw [e464]; rfl) (by show 0 ≤ V456 90 16; exact ow_83_24 b455 e463) hb17 rfl
      · skip
        refine pm_tableIn (tgt := 222) (off := 116) hC ⟨by exact ow_83_83 c26, by exact ow_83_84 c26⟩ dX12_weighs_106 (by exact ow_83_85 c26) (by exact ow_83_86 c26) (by rw [c26]; rfl) (by decide) ?_
        replace hb17 := hb17.trans (if_neg (by exact ow_83_87 c26))
        replace hb17 := hb17.trans (if_neg (by exact ow_83_88 c26))
        replace hb17 := hb17.trans (if_neg (by exact ow_83_89 c26))
        replace hb17 := hb17.trans (if_neg (by exact ow_83_90 c26))
        replace hb17 := hb17.trans (if_neg (by exact ow_83_91 c26))
        replace hb17 := hb17.trans (if_neg (by exact ow_83_92 c26))
        replace hb17 := hb17.trans (if_pos c26)
        refine pm_aload_n hC 0 (by decide) dX12_weighs_222 rfl ?_
        refine pm_callV (ci := 12) (as := []) (st := []) hC 90 fB_X12_takesOdds lm_X12_356 li_X12_takesOdds (by decide) (by decide) rfl rfl rfl (by decide) rfl rfl (Nat.le_of_ble_eq_true rfl) ⟨Nat.le_refl _, Or.inl rfl⟩ dX12_weighs_223 ⟨rfl, hV6, hp10⟩ (fun r504 V505 hp506 => ?_)
        obtain ⟨rfl, hV507, hF508, hg509, hE510⟩ := hp506
        replace hb17 := hb17.trans (pf_call_eq hE510)
        change pm_J X 226 [(0, (3, 90)), (1, (0, a1)), (2, (0, x1)), (3, (0, x3))] [] 118 V505
        have hF511 := pm_fs.tr hF7 hF508 (by decide) (by decide)
        have e512 : V505 90 42 = z0 := by rw [hF508.2 42 (by decide)]; exact e8
        have e513 : V505 90 43 = z1 := by rw [hF508.2 43 (by decide)]; exact e9
        have e514 : V505 90 21 = y22 := by rw [hF508.2 21 (by decide)]; exact e23
        have hp515 : pm_w1 V505 := (pm_w1.fr hp10 (hF508.2 16 (by decide)) (hF508.2 48 (by decide)) (hF508.2 49 (by decide)) (hF508.1 110 (by decide) (by decide)) (hF508.1 111 (by decide) (by decide)))
        have hp516 : pm_h1 V505 := (pm_h1.fr hp11 (hF508.2 16 (by decide)) (hF508.1 97 (by decide) (by decide)))
        have hp517 : pm_h2 V505 := (pm_h2.fr hp12 (hF508.2 16 (by decide)) (hF508.2 21 (by decide)) (hF508.1 99 (by decide) (by decide)))
        have hp518 : pm_w3 V505 := (pm_w3.fr hp13 (hF508.2 16 (by decide)) (hF508.2 46 (by decide)) (hF508.1 110 (by decide) (by decide)) (hF508.1 111 (by decide) (by decide)))
        refine pm_goto (tgt := 236) hC dX12_weighs_226 (by decide) ?_
        refine pm_aload_n hC 0 (by decide) dX12_weighs_236 rfl ?_
        refine pm_lconst (x := 0) hC dX12_weighs_237 rfl ?_
        refine pm_putf hC 90 fl_X12_362 rfl rfl rfl (by decide) rfl trivial dX12_weighs_238 ?_
        refine pm_iconst (v := 0) hC dX12_weighs_241 ?_
        obtain ⟨y519, e520⟩ : ∃ y, V505 90 16 = y := ⟨_, rfl⟩
        have b521 := hV507.get 90 16 (lo := 2) (hi := 9) (by decide) (by decide) rfl
        rw [e520] at b521
        replace hb17 := hb17.trans (pf_let_eq e520)
        refine pm_istore_n (lv' := [(3, (0, 0)), (0, (3, 90)), (1, (0, a1)), (2, (0, x1))]) hC dX12_weighs_242 (by decide) rfl ?_
        have hV524 := (hV507.put 90 51 (x := 0) (lo := 0) (hi := 720000000) rfl ⟨by decide, by decide⟩)
        have hF525 := (hF511.upf 51 0 rfl)
        obtain ⟨V522, hv523⟩ : ∃ V, V = (pm_up V505 90 51 0) := ⟨_, rfl⟩
        rw [← hv523] at hV524 hF525
        rw [← hv523]
        replace hb17 := hb17.trans (pf_let_eq hv523.symm)
        have e526 : V522 90 42 = z0 := by rw [hv523]; exact e512
        have e527 : V522 90 43 = z1 := by rw [hv523]; exact e513
        have e528 : V522 90 21 = y22 := by rw [hv523]; exact e514
        have e529 : V522 90 16 = y519 := by rw [hv523]; exact e520
        have e530 : V522 90 51 = 0 := by rw [hv523]; rfl
        have hp531 : pm_w1 V522 := by rw [hv523]; exact (pm_w1.fr hp515 rfl rfl rfl rfl rfl)
        have hp532 : pm_h1 V522 := by rw [hv523]; exact (pm_h1.fr hp516 rfl rfl)
        have hp533 : pm_h2 V522 := by rw [hv523]; exact (pm_h2.fr hp517 rfl rfl rfl)
        have hp534 : pm_w3 V522 := by rw [hv523]; exact (pm_w3.fr hp518 rfl rfl rfl rfl)
        have hp535 : pm_pos V522 := by rw [hv523]; exact (pm_pos.fr hg509 rfl rfl)
        obtain ⟨B553, hB554, hb17⟩ := pf_loop hb17
        have L556 : ∀ (N558 : Nat) (x536 : Int) (V538 : pm_M), (0 ≤ x536 ∧ x536 ≤ 9) → pm_oq pm_qB V538 → pm_fs [112] [51] V0 V538 → V538 90 42 = z0 → V538 90 43 = z1 → V538 90 21 = y22 → V538 90 16 = y519 → pm_w1 V538 → pm_h1 V538 → pm_h2 V538 → pm_w3 V538 → pm_pos V538 → (V538 90 51 ≤ 80000000 * x536) → (V538 90 51 = pm_sum (V538 112) ((x536) : Int).toNat) → (x536 ≤ V538 90 16) → B15 (x1, x3, V5) = pf_val (.inr ((0 : Int), V0)) B553 (x536, V538) → (Int.toNat (9 - x536)) = N558 → pm_J X 243 [(0, (3, 90)), (1, (0, a1)), (2, (0, x1)), (3, (0, x536))] [] 118 V538 := by
          intro N558
          induction N558 using Nat.strongRecOn with
          | _ N558 ih559 =>
          intro x536 V538 b537 hV539 hF540 e541 e542 e543 e544 hp545 hp546 hp547 hp548 hp549 hm550 hx551 hx552 hb17 hm557
          have hb555 := congrFun hB554 (x536, V538)
          refine pm_iload_n hC 3 dX12_weighs_243 rfl ?_
          refine pm_aload_n hC 0 (by decide) dX12_weighs_244 rfl ?_
          refine pm_getf (v := y519) hC 90 fl_X12_220 rfl rfl (by decide) rfl e544 dX12_weighs_245 ?_
          refine pm_icmp_ge (tgt := 272) hC ⟨by exact ow_83_6 b537, by exact ow_83_7 b537⟩ ⟨by exact ow_83_8 b521, by exact ow_83_9 b521⟩ dX12_weighs_248 (by decide) (fun c560 => ?_) (fun c560 => ?_)
          · skip
            replace hb555 := hb555.trans (if_pos c560)
            replace hb17 := hb17.trans (pf_val_inr hb555)
            replace hT := hT.trans (pf_val_inr hb17)
            exact pm_vret hC hR ⟨rfl, hV539, hF540, (by have h0 := hx551; have h2 := hx552; have hx : x536 = V538 90 16 := (by exact ow_83_10 e544 hx552 c560); rw [hx] at h0; refine ⟨?_, h0⟩; rw [h0]; obtain ⟨q, q1, q2⟩ := hp549; exact pm_sum_pos _ (fun j hj => (hV539.get 112 j (lo := 0) (hi := 80000000) (t := 0) (by decide) (show j < 9 by exact ow_83_11 b521 e544 hj) rfl).1) q (by exact ow_83_12 q1) q2), hT⟩ dX12_weighs_272
          · skip
            replace hb555 := hb555.trans (if_neg (Int.not_le.mpr c560))
            refine pm_aload_n hC 0 (by decide) dX12_weighs_251 rfl ?_
            refine pm_dup hC rfl dX12_weighs_252 ?_
            obtain ⟨y561, e562⟩ : ∃ y, V538 90 51 = y := ⟨_, rfl⟩
            have b563 := hV539.get 90 51 (lo := 0) (hi := 720000000) (by decide) (by decide) rfl
            rw [e562] at b563
            replace hb555 := hb555.trans (pf_let_eq e562)
            refine pm_getf (v := y561) hC 90 fl_X12_362 rfl rfl (by decide) rfl e562 dX12_weighs_253 ?_
            refine pm_aload_n hC 0 (by decide) dX12_weighs_256 rfl ?_
            have e564 : V538 90 50 = 112 := hV539.one 90 50 (by decide) (by decide) rfl
            refine pm_getf (v := 112) hC 90 fl_X12_76 rfl rfl (by decide) rfl e564 dX12_weighs_257 ?_
            refine pm_iload_n hC 3 dX12_weighs_260 rfl ?_
            obtain ⟨y565, e566⟩ : ∃ y, V538 112 (x536 : Int).toNat = y := ⟨_, rfl⟩
            replace hb555 := hb555.trans (pf_let_eq e566)
            have b567 := hV539.get 112 (x536 : Int).toNat (lo := 0) (hi := 80000000) (t := 0) (by decide) (show _ < 9 by exact ow_83_13 b521 c560) rfl
            rw [e566] at b567
            refine pm_laload (len := 9) (v := y565) hC 112 rfl rfl (by decide) ⟨by exact ow_83_14 b537, by exact ow_83_15 b521 c560⟩ (by decide) e566 dX12_weighs_261 ?_
            refine pm_ladd hC dX12_weighs_262 ?_
            refine pm_putf hC 90 fl_X12_362 rfl rfl rfl (by decide) rfl trivial dX12_weighs_263 ?_
            obtain ⟨x568, ei569⟩ : ∃ y : Int, x536 + 1 = y := ⟨_, rfl⟩
            replace hb555 := hb555.trans (pf_let_eq ei569)
            refine pm_iinc (y := x568) (lv' := [(3, (0, x568)), (0, (3, 90)), (1, (0, a1)), (2, (0, x1))]) hC 3 dX12_weighs_266 (by decide) rfl ei569 rfl ?_
            refine pm_goto (tgt := 243) hC dX12_weighs_269 (by decide) ?_
            refine pm_lvsub [1, 2, 3, 0] (lv' := [(0, (3, 90)), (1, (0, a1)), (2, (0, x1)), (3, (0, x568))]) rfl ?_
            exact ih559 _ (by exact ow_83_16 b521 hm557 c560 ei569) x568 (pm_up V538 90 51 (y561 + y565)) ⟨by exact ow_83_17 b537 ei569, by exact ow_83_18 b521 c560 ei569⟩ (hV539.put 90 51 (x := (y561 + y565)) (lo := 0) (hi := 720000000) rfl ⟨by exact ow_83_19 b563 b567, by omega⟩) (hF540.upf 51 (y561 + y565) rfl) e541 e542 e543 e544 (pm_w1.fr hp545 rfl rfl rfl rfl rfl) (pm_h1.fr hp546 rfl rfl) (pm_h2.fr hp547 rfl rfl rfl) (pm_w3.fr hp548 rfl rfl rfl rfl) (pm_pos.fr hp549 rfl rfl) (show (y561 + y565) ≤ 80000000 * x568 by omega) (by have h0 := hx551; rw [e562] at h0; have h1 : ((x568) : Int).toNat = ((x536) : Int).toNat + 1 := (by exact ow_83_30 b537 ei569); show (y561 + y565) = pm_sum (V538 112) ((x568) : Int).toNat; rw [h1]; show (y561 + y565) = pm_sum (V538 112) ((x536) : Int).toNat + V538 112 ((x536) : Int).toNat; rw [e566]; exact ow_83_21 h0) (by show x568 ≤ V538 90 16; exact ow_83_22 e544 c560 ei569) (hb17.trans (pf_val_inl hb555)) rfl
        refine pm_lvsub [1, 2, 3, 0] (lv' := [(0, (3, 90)), (1, (0, a1)), (2, (0, x1)), (3, (0, 0))]) rfl ?_
        exact L556 _ 0 V522 ⟨by decide, by decide⟩ hV524 hF525 e526 e527 e528 e529 hp531 hp532 hp533 hp534 hp535 (by (have e : V522 90 51 = 0 := e530); rw [e]; exact ow_83_23) (by rw [e530]; rfl) (by show 0 ≤ V522 90 16; exact ow_83_24 b521 e529) hb17 rfl
      · skip
        refine pm_tableIn (tgt := 229) (off := 123) hC ⟨by exact ow_83_93 c26, by exact ow_83_4 b2⟩ dX12_weighs_106 (by exact ow_83_94 c26) (by exact ow_83_95 b2) (by rw [c26]; rfl) (by decide) ?_
        replace hb17 := hb17.trans (if_neg (by exact ow_83_96 b2 c26))
        replace hb17 := hb17.trans (if_neg (by exact ow_83_97 c26))
        replace hb17 := hb17.trans (if_neg (by exact ow_83_98 c26))
        replace hb17 := hb17.trans (if_neg (by exact ow_83_99 c26))
        replace hb17 := hb17.trans (if_neg (by exact ow_83_100 c26))
        replace hb17 := hb17.trans (if_neg (by exact ow_83_101 c26))
        replace hb17 := hb17.trans (if_neg (by exact ow_83_102 c26))
        replace hb17 := hb17.trans (if_pos c26)
        refine pm_aload_n hC 0 (by decide) dX12_weighs_229 rfl ?_
        have q573 : 1 ≤ V5 90 42 ∧ V5 90 42 ≤ 171 := by (have e : V5 90 42 = z0 := e8); rw [e]; exact ⟨by exact ow_83_103 hq0, by exact ow_83_104 hq0⟩
        have q574 : 1 ≤ V5 90 43 ∧ V5 90 43 ≤ 171 := by (have e : V5 90 43 = z1 := e9); rw [e]; exact ⟨by exact ow_83_103 hq1, by exact ow_83_104 hq1⟩
        refine pm_callV (ci := 12) (as := []) (st := []) hC 90 fB_X12_takesBetween lm_X12_359 li_X12_takesBetween (by decide) (by decide) rfl rfl rfl (by decide) rfl rfl (Nat.le_of_ble_eq_true rfl) ⟨Nat.le_refl _, Or.inl rfl⟩ dX12_weighs_230 ⟨rfl, hV6, q573, q574, hp10⟩ (fun r570 V571 hp572 => ?_)
        obtain ⟨rfl, hV575, hF576, hg577, hE578⟩ := hp572
        replace hb17 := hb17.trans (pf_call_eq hE578)
        change pm_J X 233 [(0, (3, 90)), (1, (0, a1)), (2, (0, x1)), (3, (0, x3))] [] 118 V571
        have hF579 := pm_fs.tr hF7 hF576 (by decide) (by decide)
        have e580 : V571 90 42 = z0 := by rw [hF576.2 42 (by decide)]; exact e8
        have e581 : V571 90 43 = z1 := by rw [hF576.2 43 (by decide)]; exact e9
        have e582 : V571 90 21 = y22 := by rw [hF576.2 21 (by decide)]; exact e23
        have hp583 : pm_w1 V571 := (pm_w1.fr hp10 (hF576.2 16 (by decide)) (hF576.2 48 (by decide)) (hF576.2 49 (by decide)) (hF576.1 110 (by decide) (by decide)) (hF576.1 111 (by decide) (by decide)))
        have hp584 : pm_h1 V571 := (pm_h1.fr hp11 (hF576.2 16 (by decide)) (hF576.1 97 (by decide) (by decide)))
        have hp585 : pm_h2 V571 := (pm_h2.fr hp12 (hF576.2 16 (by decide)) (hF576.2 21 (by decide)) (hF576.1 99 (by decide) (by decide)))
        have hp586 : pm_w3 V571 := (pm_w3.fr hp13 (hF576.2 16 (by decide)) (hF576.2 46 (by decide)) (hF576.1 110 (by decide) (by decide)) (hF576.1 111 (by decide) (by decide)))
        refine pm_goto (tgt := 236) hC dX12_weighs_233 (by decide) ?_
        refine pm_aload_n hC 0 (by decide) dX12_weighs_236 rfl ?_
        refine pm_lconst (x := 0) hC dX12_weighs_237 rfl ?_
        refine pm_putf hC 90 fl_X12_362 rfl rfl rfl (by decide) rfl trivial dX12_weighs_238 ?_
        refine pm_iconst (v := 0) hC dX12_weighs_241 ?_
        obtain ⟨y587, e588⟩ : ∃ y, V571 90 16 = y := ⟨_, rfl⟩
        have b589 := hV575.get 90 16 (lo := 2) (hi := 9) (by decide) (by decide) rfl
        rw [e588] at b589
        replace hb17 := hb17.trans (pf_let_eq e588)
        refine pm_istore_n (lv' := [(3, (0, 0)), (0, (3, 90)), (1, (0, a1)), (2, (0, x1))]) hC dX12_weighs_242 (by decide) rfl ?_
        have hV592 := (hV575.put 90 51 (x := 0) (lo := 0) (hi := 720000000) rfl ⟨by decide, by decide⟩)
        have hF593 := (hF579.upf 51 0 rfl)
        obtain ⟨V590, hv591⟩ : ∃ V, V = (pm_up V571 90 51 0) := ⟨_, rfl⟩
        rw [← hv591] at hV592 hF593
        rw [← hv591]
        replace hb17 := hb17.trans (pf_let_eq hv591.symm)
        have e594 : V590 90 42 = z0 := by rw [hv591]; exact e580
        have e595 : V590 90 43 = z1 := by rw [hv591]; exact e581
        have e596 : V590 90 21 = y22 := by rw [hv591]; exact e582
        have e597 : V590 90 16 = y587 := by rw [hv591]; exact e588
        have e598 : V590 90 51 = 0 := by rw [hv591]; rfl
        have hp599 : pm_w1 V590 := by rw [hv591]; exact (pm_w1.fr hp583 rfl rfl rfl rfl rfl)
        have hp600 : pm_h1 V590 := by rw [hv591]; exact (pm_h1.fr hp584 rfl rfl)
        have hp601 : pm_h2 V590 := by rw [hv591]; exact (pm_h2.fr hp585 rfl rfl rfl)
        have hp602 : pm_w3 V590 := by rw [hv591]; exact (pm_w3.fr hp586 rfl rfl rfl rfl)
        have hp603 : pm_pos V590 := by rw [hv591]; exact (pm_pos.fr hg577 rfl rfl)
        obtain ⟨B621, hB622, hb17⟩ := pf_loop hb17
        have L624 : ∀ (N626 : Nat) (x604 : Int) (V606 : pm_M), (0 ≤ x604 ∧ x604 ≤ 9) → pm_oq pm_qB V606 → pm_fs [112] [51] V0 V606 → V606 90 42 = z0 → V606 90 43 = z1 → V606 90 21 = y22 → V606 90 16 = y587 → pm_w1 V606 → pm_h1 V606 → pm_h2 V606 → pm_w3 V606 → pm_pos V606 → (V606 90 51 ≤ 80000000 * x604) → (V606 90 51 = pm_sum (V606 112) ((x604) : Int).toNat) → (x604 ≤ V606 90 16) → B15 (x1, x3, V5) = pf_val (.inr ((0 : Int), V0)) B621 (x604, V606) → (Int.toNat (9 - x604)) = N626 → pm_J X 243 [(0, (3, 90)), (1, (0, a1)), (2, (0, x1)), (3, (0, x604))] [] 118 V606 := by
          intro N626
          induction N626 using Nat.strongRecOn with
          | _ N626 ih627 =>
          intro x604 V606 b605 hV607 hF608 e609 e610 e611 e612 hp613 hp614 hp615 hp616 hp617 hm618 hx619 hx620 hb17 hm625
          have hb623 := congrFun hB622 (x604, V606)
          refine pm_iload_n hC 3 dX12_weighs_243 rfl ?_
          refine pm_aload_n hC 0 (by decide) dX12_weighs_244 rfl ?_
          refine pm_getf (v := y587) hC 90 fl_X12_220 rfl rfl (by decide) rfl e612 dX12_weighs_245 ?_
          refine pm_icmp_ge (tgt := 272) hC ⟨by exact ow_83_6 b605, by exact ow_83_7 b605⟩ ⟨by exact ow_83_8 b589, by exact ow_83_9 b589⟩ dX12_weighs_248 (by decide) (fun c628 => ?_) (fun c628 => ?_)
          · skip
            replace hb623 := hb623.trans (if_pos c628)
            replace hb17 := hb17.trans (pf_val_inr hb623)
            replace hT := hT.trans (pf_val_inr hb17)
            exact pm_vret hC hR ⟨rfl, hV607, hF608, (by have h0 := hx619; have h2 := hx620; have hx : x604 = V606 90 16 := (by exact ow_83_10 e612 hx620 c628); rw [hx] at h0; refine ⟨?_, h0⟩; rw [h0]; obtain ⟨q, q1, q2⟩ := hp617; exact pm_sum_pos _ (fun j hj => (hV607.get 112 j (lo := 0) (hi := 80000000) (t := 0) (by decide) (show j < 9 by exact ow_83_11 b589 e612 hj) rfl).1) q (by exact ow_83_12 q1) q2), hT⟩ dX12_weighs_272
          · skip
            replace hb623 := hb623.trans (if_neg (Int.not_le.mpr c628))
            refine pm_aload_n hC 0 (by decide) dX12_weighs_251 rfl ?_
            refine pm_dup hC rfl dX12_weighs_252 ?_
            obtain ⟨y629, e630⟩ : ∃ y, V606 90 51 = y := ⟨_, rfl⟩
            have b631 := hV607.get 90 51 (lo := 0) (hi := 720000000) (by decide) (by decide) rfl
            rw [e630] at b631
            replace hb623 := hb623.trans (pf_let_eq e630)
            refine pm_getf (v := y629) hC 90 fl_X12_362 rfl rfl (by decide) rfl e630 dX12_weighs_253 ?_
            refine pm_aload_n hC 0 (by decide) dX12_weighs_256 rfl ?_
            have e632 : V606 90 50 = 112 := hV607.one 90 50 (by decide) (by decide) rfl
            refine pm_getf (v := 112) hC 90 fl_X12_76 rfl rfl (by decide) rfl e632 dX12_weighs_257 ?_
            refine pm_iload_n hC 3 dX12_weighs_260 rfl ?_
            obtain ⟨y633, e634⟩ : ∃ y, V606 112 (x604 : Int).toNat = y := ⟨_, rfl⟩
            replace hb623 := hb623.trans (pf_let_eq e634)
            have b635 := hV607.get 112 (x604 : Int).toNat (lo := 0) (hi := 80000000) (t := 0) (by decide) (show _ < 9 by exact ow_83_13 b589 c628) rfl
            rw [e634] at b635
            refine pm_laload (len := 9) (v := y633) hC 112 rfl rfl (by decide) ⟨by exact ow_83_37 hm618 e630 b631, by exact ow_83_15 b589 c628⟩ (by decide) e634 dX12_weighs_261 ?_
            refine pm_ladd hC dX12_weighs_262 ?_
            refine pm_putf hC 90 fl_X12_362 rfl rfl rfl (by decide) rfl trivial dX12_weighs_263 ?_
            obtain ⟨x636, ei637⟩ : ∃ y : Int, x604 + 1 = y := ⟨_, rfl⟩
            replace hb623 := hb623.trans (pf_let_eq ei637)
            refine pm_iinc (y := x636) (lv' := [(3, (0, x636)), (0, (3, 90)), (1, (0, a1)), (2, (0, x1))]) hC 3 dX12_weighs_266 (by decide) rfl ei637 rfl ?_
            refine pm_goto (tgt := 243) hC dX12_weighs_269 (by decide) ?_
            refine pm_lvsub [1, 2, 3, 0] (lv' := [(0, (3, 90)), (1, (0, a1)), (2, (0, x1)), (3, (0, x636))]) rfl ?_
            exact ih627 _ (by exact ow_83_16 b589 hm625 c628 ei637) x636 (pm_up V606 90 51 (y629 + y633)) ⟨by exact ow_83_38 hm618 e630 b631 ei637, by exact ow_83_18 b589 c628 ei637⟩ (hV607.put 90 51 (x := (y629 + y633)) (lo := 0) (hi := 720000000) rfl ⟨by exact ow_83_19 b631 b635, by omega⟩) (hF608.upf 51 (y629 + y633) rfl) e609 e610 e611 e612 (pm_w1.fr hp613 rfl rfl rfl rfl rfl) (pm_h1.fr hp614 rfl rfl) (pm_h2.fr hp615 rfl rfl rfl) (pm_w3.fr hp616 rfl rfl rfl rfl) (pm_pos.fr hp617 rfl rfl) (show (y629 + y633) ≤ 80000000 * x636 by omega) (by have h0 := hx619; rw [e630] at h0; have h1 : ((x636) : Int).toNat = ((x604) : Int).toNat + 1 := (by omega); show (y629 + y633) = pm_sum (V606 112) ((x636) : Int).toNat; rw [h1]; show (y629 + y633) = pm_sum (V606 112) ((x604) : Int).toNat + V606 112 ((x604) : Int).toNat; rw [e634]; exact ow_83_21 h0) (by show x636 ≤ V606 90 16; exact ow_83_22 e612 c628 ei637) (hb17.trans (pf_val_inl hb623)) rfl
        refine pm_lvsub [1, 2, 3, 0] (lv' := [(0, (3, 90)), (1, (0, a1)), (2, (0, x1)), (3, (0, 0))]) rfl ?_
        exact L624 _ 0 V590 ⟨by decide, by decide⟩ hV592 hF593 e594 e595 e596 e597 hp599 hp600 hp601 hp602 hp603 (by (have e : V590 90 51 = 0 := e598); rw [e]; exact ow_83_23) (by rw [e598]; rfl) (by show 0 ≤ V590 90 16; exact ow_83_24 b589 e597) hb17 rfl
    · skip
      replace hb17 := hb17.trans (if_neg (Int.not_le.mpr c25))
      refine pm_iload_n hC 2 dX12_weighs_12 rfl ?_
      refine pm_iconst (v := 5) hC dX12_weighs_13 ?_
      refine pm_icmp_ne (tgt := 105) hC ⟨by exact ow_83_3 b2, by exact ow_83_4 b2⟩ ⟨by decide, by decide⟩ dX12_weighs_14 (by decide) (fun c638 => ?_) (fun c638 => ?_)
      · skip
        replace hb17 := hb17.trans (if_pos c638)
        refine pm_iload_n hC 2 dX12_weighs_105 rfl ?_
        rcases (show (x1 < 0 ∨ 6 < x1) ∨ x1 = (0 : Int) ∨ x1 = (1 : Int) ∨ x1 = (2 : Int) ∨ x1 = (3 : Int) ∨ x1 = (4 : Int) ∨ x1 = (5 : Int) ∨ x1 = (6 : Int) by exact ow_83_2) with c639 | c639 | c639 | c639 | c639 | c639 | c639 | c639
        · skip
          refine pm_tableOut (tgt := 236) hC ⟨by exact ow_83_3 b2, by exact ow_83_4 b2⟩ dX12_weighs_106 c639 (by decide) ?_
          replace hb17 := hb17.trans (if_pos c639)
          have hpos640 : pm_pos V5 := hx14 (by exact ow_83_5 b2 c639)
          refine pm_aload_n hC 0 (by decide) dX12_weighs_236 rfl ?_
          refine pm_lconst (x := 0) hC dX12_weighs_237 rfl ?_
          refine pm_putf hC 90 fl_X12_362 rfl rfl rfl (by decide) rfl trivial dX12_weighs_238 ?_
          refine pm_iconst (v := 0) hC dX12_weighs_241 ?_
          obtain ⟨y641, e642⟩ : ∃ y, V5 90 16 = y := ⟨_, rfl⟩
          have b643 := hV6.get 90 16 (lo := 2) (hi := 9) (by decide) (by decide) rfl
          rw [e642] at b643
          replace hb17 := hb17.trans (pf_let_eq e642)
          refine pm_istore_n (lv' := [(3, (0, 0)), (0, (3, 90)), (1, (0, a1)), (2, (0, x1))]) hC dX12_weighs_242 (by decide) rfl ?_
          have hV646 := (hV6.put 90 51 (x := 0) (lo := 0) (hi := 720000000) rfl ⟨by decide, by decide⟩)
          have hF647 := (hF7.upf 51 0 rfl)
          obtain ⟨V644, hv645⟩ : ∃ V, V = (pm_up V5 90 51 0) := ⟨_, rfl⟩
          rw [← hv645] at hV646 hF647
          rw [← hv645]
          replace hb17 := hb17.trans (pf_let_eq hv645.symm)
          have e648 : V644 90 42 = z0 := by rw [hv645]; exact e8
          have e649 : V644 90 43 = z1 := by rw [hv645]; exact e9
          have e650 : V644 90 21 = y22 := by rw [hv645]; exact e23
          have e651 : V644 90 16 = y641 := by rw [hv645]; exact e642
          have e652 : V644 90 51 = 0 := by rw [hv645]; rfl
          have hp653 : pm_w1 V644 := by rw [hv645]; exact (pm_w1.fr hp10 rfl rfl rfl rfl rfl)
          have hp654 : pm_h1 V644 := by rw [hv645]; exact (pm_h1.fr hp11 rfl rfl)
          have hp655 : pm_h2 V644 := by rw [hv645]; exact (pm_h2.fr hp12 rfl rfl rfl)
          have hp656 : pm_w3 V644 := by rw [hv645]; exact (pm_w3.fr hp13 rfl rfl rfl rfl)
          have hp657 : pm_pos V644 := by rw [hv645]; exact (pm_pos.fr hpos640 rfl rfl)
          obtain ⟨B675, hB676, hb17⟩ := pf_loop hb17
          have L678 : ∀ (N680 : Nat) (x658 : Int) (V660 : pm_M), (0 ≤ x658 ∧ x658 ≤ 9) → pm_oq pm_qB V660 → pm_fs [112] [51] V0 V660 → V660 90 42 = z0 → V660 90 43 = z1 → V660 90 21 = y22 → V660 90 16 = y641 → pm_w1 V660 → pm_h1 V660 → pm_h2 V660 → pm_w3 V660 → pm_pos V660 → (V660 90 51 ≤ 80000000 * x658) → (V660 90 51 = pm_sum (V660 112) ((x658) : Int).toNat) → (x658 ≤ V660 90 16) → B15 (x1, x3, V5) = pf_val (.inr ((0 : Int), V0)) B675 (x658, V660) → (Int.toNat (9 - x658)) = N680 → pm_J X 243 [(0, (3, 90)), (1, (0, a1)), (2, (0, x1)), (3, (0, x658))] [] 118 V660 := by
            intro N680
            induction N680 using Nat.strongRecOn with
            | _ N680 ih681 =>
            intro x658 V660 b659 hV661 hF662 e663 e664 e665 e666 hp667 hp668 hp669 hp670 hp671 hm672 hx673 hx674 hb17 hm679
            have hb677 := congrFun hB676 (x658, V660)
            refine pm_iload_n hC 3 dX12_weighs_243 rfl ?_
            refine pm_aload_n hC 0 (by decide) dX12_weighs_244 rfl ?_
            refine pm_getf (v := y641) hC 90 fl_X12_220 rfl rfl (by decide) rfl e666 dX12_weighs_245 ?_
            refine pm_icmp_ge (tgt := 272) hC ⟨by exact ow_83_6 b659, by exact ow_83_7 b659⟩ ⟨by exact ow_83_8 b643, by exact ow_83_9 b643⟩ dX12_weighs_248 (by decide) (fun c682 => ?_) (fun c682 => ?_)
            · skip
              replace hb677 := hb677.trans (if_pos c682)
              replace hb17 := hb17.trans (pf_val_inr hb677)
              replace hT := hT.trans (pf_val_inr hb17)
              exact pm_vret hC hR ⟨rfl, hV661, hF662, (by have h0 := hx673; have h2 := hx674; have hx : x658 = V660 90 16 := (by exact ow_83_10 e666 hx674 c682); rw [hx] at h0; refine ⟨?_, h0⟩; rw [h0]; obtain ⟨q, q1, q2⟩ := hp671; exact pm_sum_pos _ (fun j hj => (hV661.get 112 j (lo := 0) (hi := 80000000) (t := 0) (by decide) (show j < 9 by exact ow_83_11 b643 e666 hj) rfl).1) q (by exact ow_83_12 q1) q2), hT⟩ dX12_weighs_272
            · skip
              replace hb677 := hb677.trans (if_neg (Int.not_le.mpr c682))
              refine pm_aload_n hC 0 (by decide) dX12_weighs_251 rfl ?_
              refine pm_dup hC rfl dX12_weighs_252 ?_
              obtain ⟨y683, e684⟩ : ∃ y, V660 90 51 = y := ⟨_, rfl⟩
              have b685 := hV661.get 90 51 (lo := 0) (hi := 720000000) (by decide) (by decide) rfl
              rw [e684] at b685
              replace hb677 := hb677.trans (pf_let_eq e684)
              refine pm_getf (v := y683) hC 90 fl_X12_362 rfl rfl (by decide) rfl e684 dX12_weighs_253 ?_
              refine pm_aload_n hC 0 (by decide) dX12_weighs_256 rfl ?_
              have e686 : V660 90 50 = 112 := hV661.one 90 50 (by decide) (by decide) rfl
              refine pm_getf (v := 112) hC 90 fl_X12_76 rfl rfl (by decide) rfl e686 dX12_weighs_257 ?_
              refine pm_iload_n hC 3 dX12_weighs_260 rfl ?_
              obtain ⟨y687, e688⟩ : ∃ y, V660 112 (x658 : Int).toNat = y := ⟨_, rfl⟩
              replace hb677 := hb677.trans (pf_let_eq e688)
              have b689 := hV661.get 112 (x658 : Int).toNat (lo := 0) (hi := 80000000) (t := 0) (by decide) (show _ < 9 by exact ow_83_13 b643 c682) rfl
              rw [e688] at b689
              refine pm_laload (len := 9) (v := y687) hC 112 rfl rfl (by decide) ⟨by exact ow_83_14 b659, by exact ow_83_15 b643 c682⟩ (by decide) e688 dX12_weighs_261 ?_
              refine pm_ladd hC dX12_weighs_262 ?_
              refine pm_putf hC 90 fl_X12_362 rfl rfl rfl (by decide) rfl trivial dX12_weighs_263 ?_
              obtain ⟨x690, ei691⟩ : ∃ y : Int, x658 + 1 = y := ⟨_, rfl⟩
              replace hb677 := hb677.trans (pf_let_eq ei691)
              refine pm_iinc (y := x690) (lv' := [(3, (0, x690)), (0, (3, 90)), (1, (0, a1)), (2, (0, x1))]) hC 3 dX12_weighs_266 (by decide) rfl ei691 rfl ?_
              refine pm_goto (tgt := 243) hC dX12_weighs_269 (by decide) ?_
              refine pm_lvsub [1, 2, 3, 0] (lv' := [(0, (3, 90)), (1, (0, a1)), (2, (0, x1)), (3, (0, x690))]) rfl ?_
              exact ih681 _ (by exact ow_83_16 b643 hm679 c682 ei691) x690 (pm_up V660 90 51 (y683 + y687)) ⟨by exact ow_83_17 b659 ei691, by exact ow_83_18 b643 c682 ei691⟩ (hV661.put 90 51 (x := (y683 + y687)) (lo := 0) (hi := 720000000) rfl ⟨by exact ow_83_19 b685 b689, by omega⟩) (hF662.upf 51 (y683 + y687) rfl) e663 e664 e665 e666 (pm_w1.fr hp667 rfl rfl rfl rfl rfl) (pm_h1.fr hp668 rfl rfl) (pm_h2.fr hp669 rfl rfl rfl) (pm_w3.fr hp670 rfl rfl rfl rfl) (pm_pos.fr hp671 rfl rfl) (show (y683 + y687) ≤ 80000000 * x690 by omega) (by have h0 := hx673; rw [e684] at h0; have h1 : ((x690) : Int).toNat = ((x658) : Int).toNat + 1 := (by exact ow_83_30 b659 ei691); show (y683 + y687) = pm_sum (V660 112) ((x690) : Int).toNat; rw [h1]; show (y683 + y687) = pm_sum (V660 112) ((x658) : Int).toNat + V660 112 ((x658) : Int).toNat; rw [e688]; exact ow_83_21 h0) (by show x690 ≤ V660 90 16; exact ow_83_22 e666 c682 ei691) (hb17.trans (pf_val_inl hb677)) rfl
          refine pm_lvsub [1, 2, 3, 0] (lv' := [(0, (3, 90)), (1, (0, a1)), (2, (0, x1)), (3, (0, 0))]) rfl ?_
          exact L678 _ 0 V644 ⟨by decide, by decide⟩ hV646 hF647 e648 e649 e650 e651 hp653 hp654 hp655 hp656 hp657 (by (have e : V644 90 51 = 0 := e652); rw [e]; exact ow_83_23) (by rw [e652]; rfl) (by show 0 ≤ V644 90 16; exact ow_83_24 b643 e651) hb17 rfl
        · skip
          refine pm_tableIn (tgt := 148) (off := 42) hC ⟨by exact ow_83_25 c639, by exact ow_83_26 c639⟩ dX12_weighs_106 (by exact ow_83_27 c639) (by exact ow_83_28 c639) (by rw [c639]; rfl) (by decide) ?_
          replace hb17 := hb17.trans (if_neg (by exact ow_83_29 c639))
          replace hb17 := hb17.trans (if_pos c639)
          refine pm_aload_n hC 0 (by decide) dX12_weighs_148 rfl ?_
          refine pm_callV (ci := 12) (as := []) (st := []) hC 90 fB_X12_takesVoice lm_X12_344 li_X12_takesVoice (by decide) (by decide) rfl rfl rfl (by decide) rfl rfl (Nat.le_of_ble_eq_true rfl) ⟨Nat.le_refl _, Or.inl rfl⟩ dX12_weighs_149 ⟨rfl, hV6, hp10⟩ (fun r692 V693 hp694 => ?_)
          obtain ⟨rfl, hV695, hF696, hg697, hE698⟩ := hp694
          replace hb17 := hb17.trans (pf_call_eq hE698)
          change pm_J X 152 [(0, (3, 90)), (1, (0, a1)), (2, (0, x1)), (3, (0, x3))] [] 118 V693
          have hF699 := pm_fs.tr hF7 hF696 (by decide) (by decide)
          have e700 : V693 90 42 = z0 := by rw [hF696.2 42 (by decide)]; exact e8
          have e701 : V693 90 43 = z1 := by rw [hF696.2 43 (by decide)]; exact e9
          have e702 : V693 90 21 = y22 := by rw [hF696.2 21 (by decide)]; exact e23
          have hp703 : pm_w1 V693 := (pm_w1.fr hp10 (hF696.2 16 (by decide)) (hF696.2 48 (by decide)) (hF696.2 49 (by decide)) (hF696.1 110 (by decide) (by decide)) (hF696.1 111 (by decide) (by decide)))
          have hp704 : pm_h1 V693 := (pm_h1.fr hp11 (hF696.2 16 (by decide)) (hF696.1 97 (by decide) (by decide)))
          have hp705 : pm_h2 V693 := (pm_h2.fr hp12 (hF696.2 16 (by decide)) (hF696.2 21 (by decide)) (hF696.1 99 (by decide) (by decide)))
          have hp706 : pm_w3 V693 := (pm_w3.fr hp13 (hF696.2 16 (by decide)) (hF696.2 46 (by decide)) (hF696.1 110 (by decide) (by decide)) (hF696.1 111 (by decide) (by decide)))
          refine pm_goto (tgt := 236) hC dX12_weighs_152 (by decide) ?_
          refine pm_aload_n hC 0 (by decide) dX12_weighs_236 rfl ?_
          refine pm_lconst (x := 0) hC dX12_weighs_237 rfl ?_
          refine pm_putf hC 90 fl_X12_362 rfl rfl rfl (by decide) rfl trivial dX12_weighs_238 ?_
          refine pm_iconst (v := 0) hC dX12_weighs_241 ?_
          obtain ⟨y707, e708⟩ : ∃ y, V693 90 16 = y := ⟨_, rfl⟩
          have b709 := hV695.get 90 16 (lo := 2) (hi := 9) (by decide) (by decide) rfl
          rw [e708] at b709
          replace hb17 := hb17.trans (pf_let_eq e708)
          refine pm_istore_n (lv' := [(3, (0, 0)), (0, (3, 90)), (1, (0, a1)), (2, (0, x1))]) hC dX12_weighs_242 (by decide) rfl ?_
          have hV712 := (hV695.put 90 51 (x := 0) (lo := 0) (hi := 720000000) rfl ⟨by decide, by decide⟩)
          have hF713 := (hF699.upf 51 0 rfl)
          obtain ⟨V710, hv711⟩ : ∃ V, V = (pm_up V693 90 51 0) := ⟨_, rfl⟩
          rw [← hv711] at hV712 hF713
          rw [← hv711]
          replace hb17 := hb17.trans (pf_let_eq hv711.symm)
          have e714 : V710 90 42 = z0 := by rw [hv711]; exact e700
          have e715 : V710 90 43 = z1 := by rw [hv711]; exact e701
          have e716 : V710 90 21 = y22 := by rw [hv711]; exact e702
          have e717 : V710 90 16 = y707 := by rw [hv711]; exact e708
          have e718 : V710 90 51 = 0 := by rw [hv711]; rfl
          have hp719 : pm_w1 V710 := by rw [hv711]; exact (pm_w1.fr hp703 rfl rfl rfl rfl rfl)
          have hp720 : pm_h1 V710 := by rw [hv711]; exact (pm_h1.fr hp704 rfl rfl)
          have hp721 : pm_h2 V710 := by rw [hv711]; exact (pm_h2.fr hp705 rfl rfl rfl)
          have hp722 : pm_w3 V710 := by rw [hv711]; exact (pm_w3.fr hp706 rfl rfl rfl rfl)
          have hp723 : pm_pos V710 := by rw [hv711]; exact (pm_pos.fr hg697 rfl rfl)
          obtain ⟨B741, hB742, hb17⟩ := pf_loop hb17
          have L744 : ∀ (N746 : Nat) (x724 : Int) (V726 : pm_M), (0 ≤ x724 ∧ x724 ≤ 9) → pm_oq pm_qB V726 → pm_fs [112] [51] V0 V726 → V726 90 42 = z0 → V726 90 43 = z1 → V726 90 21 = y22 → V726 90 16 = y707 → pm_w1 V726 → pm_h1 V726 → pm_h2 V726 → pm_w3 V726 → pm_pos V726 → (V726 90 51 ≤ 80000000 * x724) → (V726 90 51 = pm_sum (V726 112) ((x724) : Int).toNat) → (x724 ≤ V726 90 16) → B15 (x1, x3, V5) = pf_val (.inr ((0 : Int), V0)) B741 (x724, V726) → (Int.toNat (9 - x724)) = N746 → pm_J X 243 [(0, (3, 90)), (1, (0, a1)), (2, (0, x1)), (3, (0, x724))] [] 118 V726 := by
            intro N746
            induction N746 using Nat.strongRecOn with
            | _ N746 ih747 =>
            intro x724 V726 b725 hV727 hF728 e729 e730 e731 e732 hp733 hp734 hp735 hp736 hp737 hm738 hx739 hx740 hb17 hm745
            have hb743 := congrFun hB742 (x724, V726)
            refine pm_iload_n hC 3 dX12_weighs_243 rfl ?_
            refine pm_aload_n hC 0 (by decide) dX12_weighs_244 rfl ?_
            refine pm_getf (v := y707) hC 90 fl_X12_220 rfl rfl (by decide) rfl e732 dX12_weighs_245 ?_
            refine pm_icmp_ge (tgt := 272) hC ⟨by exact ow_83_6 b725, by exact ow_83_7 b725⟩ ⟨by exact ow_83_8 b709, by exact ow_83_9 b709⟩ dX12_weighs_248 (by decide) (fun c748 => ?_) (fun c748 => ?_)
            · skip
              replace hb743 := hb743.trans (if_pos c748)
              replace hb17 := hb17.trans (pf_val_inr hb743)
              replace hT := hT.trans (pf_val_inr hb17)
              exact pm_vret hC hR ⟨rfl, hV727, hF728, (by have h0 := hx739; have h2 := hx740; have hx : x724 = V726 90 16 := (by exact ow_83_10 e732 hx740 c748); rw [hx] at h0; refine ⟨?_, h0⟩; rw [h0]; obtain ⟨q, q1, q2⟩ := hp737; exact pm_sum_pos _ (fun j hj => (hV727.get 112 j (lo := 0) (hi := 80000000) (t := 0) (by decide) (show j < 9 by exact ow_83_11 b709 e732 hj) rfl).1) q (by exact ow_83_12 q1) q2), hT⟩ dX12_weighs_272
            · skip
              replace hb743 := hb743.trans (if_neg (Int.not_le.mpr c748))
              refine pm_aload_n hC 0 (by decide) dX12_weighs_251 rfl ?_
              refine pm_dup hC rfl dX12_weighs_252 ?_
              obtain ⟨y749, e750⟩ : ∃ y, V726 90 51 = y := ⟨_, rfl⟩
              have b751 := hV727.get 90 51 (lo := 0) (hi := 720000000) (by decide) (by decide) rfl
              rw [e750] at b751
              replace hb743 := hb743.trans (pf_let_eq e750)
              refine pm_getf (v := y749) hC 90 fl_X12_362 rfl rfl (by decide) rfl e750 dX12_weighs_253 ?_
              refine pm_aload_n hC 0 (by decide) dX12_weighs_256 rfl ?_
              have e752 : V726 90 50 = 112 := hV727.one 90 50 (by decide) (by decide) rfl
              refine pm_getf (v := 112) hC 90 fl_X12_76 rfl rfl (by decide) rfl e752 dX12_weighs_257 ?_
              refine pm_iload_n hC 3 dX12_weighs_260 rfl ?_
              obtain ⟨y753, e754⟩ : ∃ y, V726 112 (x724 : Int).toNat = y := ⟨_, rfl⟩
              replace hb743 := hb743.trans (pf_let_eq e754)
              have b755 := hV727.get 112 (x724 : Int).toNat (lo := 0) (hi := 80000000) (t := 0) (by decide) (show _ < 9 by exact ow_83_13 b709 c748) rfl
              rw [e754] at b755
              refine pm_laload (len := 9) (v := y753) hC 112 rfl rfl (by decide) ⟨by exact ow_83_37 hm738 e750 b751, by exact ow_83_15 b709 c748⟩ (by decide) e754 dX12_weighs_261 ?_
              refine pm_ladd hC dX12_weighs_262 ?_
              refine pm_putf hC 90 fl_X12_362 rfl rfl rfl (by decide) rfl trivial dX12_weighs_263 ?_
              obtain ⟨x756, ei757⟩ : ∃ y : Int, x724 + 1 = y := ⟨_, rfl⟩
              replace hb743 := hb743.trans (pf_let_eq ei757)
              refine pm_iinc (y := x756) (lv' := [(3, (0, x756)), (0, (3, 90)), (1, (0, a1)), (2, (0, x1))]) hC 3 dX12_weighs_266 (by decide) rfl ei757 rfl ?_
              refine pm_goto (tgt := 243) hC dX12_weighs_269 (by decide) ?_
              refine pm_lvsub [1, 2, 3, 0] (lv' := [(0, (3, 90)), (1, (0, a1)), (2, (0, x1)), (3, (0, x756))]) rfl ?_
              exact ih747 _ (by exact ow_83_16 b709 hm745 c748 ei757) x756 (pm_up V726 90 51 (y749 + y753)) ⟨by exact ow_83_38 hm738 e750 b751 ei757, by exact ow_83_18 b709 c748 ei757⟩ (hV727.put 90 51 (x := (y749 + y753)) (lo := 0) (hi := 720000000) rfl ⟨by exact ow_83_19 b751 b755, by omega⟩) (hF728.upf 51 (y749 + y753) rfl) e729 e730 e731 e732 (pm_w1.fr hp733 rfl rfl rfl rfl rfl) (pm_h1.fr hp734 rfl rfl) (pm_h2.fr hp735 rfl rfl rfl) (pm_w3.fr hp736 rfl rfl rfl rfl) (pm_pos.fr hp737 rfl rfl) (show (y749 + y753) ≤ 80000000 * x756 by omega) (by have h0 := hx739; rw [e750] at h0; have h1 : ((x756) : Int).toNat = ((x724) : Int).toNat + 1 := (by exact ow_83_20 hm738 hx739 b751 ei757 h0); show (y749 + y753) = pm_sum (V726 112) ((x756) : Int).toNat; rw [h1]; show (y749 + y753) = pm_sum (V726 112) ((x724) : Int).toNat + V726 112 ((x724) : Int).toNat; rw [e754]; exact ow_83_21 h0) (by show x756 ≤ V726 90 16; exact ow_83_22 e732 c748 ei757) (hb17.trans (pf_val_inl hb743)) rfl
          refine pm_lvsub [1, 2, 3, 0] (lv' := [(0, (3, 90)), (1, (0, a1)), (2, (0, x1)), (3, (0, 0))]) rfl ?_
          exact L744 _ 0 V710 ⟨by decide, by decide⟩ hV712 hF713 e714 e715 e716 e717 hp719 hp720 hp721 hp722 hp723 (by (have e : V710 90 51 = 0 := e718); rw [e]; exact ow_83_23) (by rw [e718]; rfl) (by show 0 ≤ V710 90 16; exact ow_83_24 b709 e717) hb17 rfl
        · skip
          refine pm_tableIn (tgt := 155) (off := 49) hC ⟨by exact ow_83_31 c639, by exact ow_83_32 c639⟩ dX12_weighs_106 (by exact ow_83_33 c639) (by exact ow_83_34 c639) (by rw [c639]; rfl) (by decide) ?_
          replace hb17 := hb17.trans (if_neg (by exact ow_83_35 c639))
          replace hb17 := hb17.trans (if_neg (by exact ow_83_36 c639))
          replace hb17 := hb17.trans (if_pos c639)
          refine pm_aload_n hC 0 (by decide) dX12_weighs_155 rfl ?_
          refine pm_callV (ci := 12) (as := []) (st := []) hC 90 fB_X12_takesFace lm_X12_347 li_X12_takesFace (by decide) (by decide) rfl rfl rfl (by decide) rfl rfl (Nat.le_of_ble_eq_true rfl) ⟨Nat.le_refl _, Or.inl rfl⟩ dX12_weighs_156 ⟨rfl, hV6, hp10, hp11⟩ (fun r758 V759 hp760 => ?_)
          obtain ⟨rfl, hV761, hF762, hg763, hE764⟩ := hp760
          replace hb17 := hb17.trans (pf_call_eq hE764)
          change pm_J X 159 [(0, (3, 90)), (1, (0, a1)), (2, (0, x1)), (3, (0, x3))] [] 118 V759
          have hF765 := pm_fs.tr hF7 hF762 (by decide) (by decide)
          have e766 : V759 90 42 = z0 := by rw [hF762.2 42 (by decide)]; exact e8
          have e767 : V759 90 43 = z1 := by rw [hF762.2 43 (by decide)]; exact e9
          have e768 : V759 90 21 = y22 := by rw [hF762.2 21 (by decide)]; exact e23
          have hp769 : pm_w1 V759 := (pm_w1.fr hp10 (hF762.2 16 (by decide)) (hF762.2 48 (by decide)) (hF762.2 49 (by decide)) (hF762.1 110 (by decide) (by decide)) (hF762.1 111 (by decide) (by decide)))
          have hp770 : pm_h1 V759 := (pm_h1.fr hp11 (hF762.2 16 (by decide)) (hF762.1 97 (by decide) (by decide)))
          have hp771 : pm_h2 V759 := (pm_h2.fr hp12 (hF762.2 16 (by decide)) (hF762.2 21 (by decide)) (hF762.1 99 (by decide) (by decide)))
          have hp772 : pm_w3 V759 := (pm_w3.fr hp13 (hF762.2 16 (by decide)) (hF762.2 46 (by decide)) (hF762.1 110 (by decide) (by decide)) (hF762.1 111 (by decide) (by decide)))
          refine pm_goto (tgt := 236) hC dX12_weighs_159 (by decide) ?_
          refine pm_aload_n hC 0 (by decide) dX12_weighs_236 rfl ?_
          refine pm_lconst (x := 0) hC dX12_weighs_237 rfl ?_
          refine pm_putf hC 90 fl_X12_362 rfl rfl rfl (by decide) rfl trivial dX12_weighs_238 ?_
          refine pm_iconst (v := 0) hC dX12_weighs_241 ?_
          obtain ⟨y773, e774⟩ : ∃ y, V759 90 16 = y := ⟨_, rfl⟩
          have b775 := hV761.get 90 16 (lo := 2) (hi := 9) (by decide) (by decide) rfl
          rw [e774] at b775
          replace hb17 := hb17.trans (pf_let_eq e774)
          refine pm_istore_n (lv' := [(3, (0, 0)), (0, (3, 90)), (1, (0, a1)), (2, (0, x1))]) hC dX12_weighs_242 (by decide) rfl ?_
          have hV778 := (hV761.put 90 51 (x := 0) (lo := 0) (hi := 720000000) rfl ⟨by decide, by decide⟩)
          have hF779 := (hF765.upf 51 0 rfl)
          obtain ⟨V776, hv777⟩ : ∃ V, V = (pm_up V759 90 51 0) := ⟨_, rfl⟩
          rw [← hv777] at hV778 hF779
          rw [← hv777]
          replace hb17 := hb17.trans (pf_let_eq hv777.symm)
          have e780 : V776 90 42 = z0 := by rw [hv777]; exact e766
          have e781 : V776 90 43 = z1 := by rw [hv777]; exact e767
          have e782 : V776 90 21 = y22 := by rw [hv777]; exact e768
          have e783 : V776 90 16 = y773 := by rw [hv777]; exact e774
          have e784 : V776 90 51 = 0 := by rw [hv777]; rfl
          have hp785 : pm_w1 V776 := by rw [hv777]; exact (pm_w1.fr hp769 rfl rfl rfl rfl rfl)
          have hp786 : pm_h1 V776 := by rw [hv777]; exact (pm_h1.fr hp770 rfl rfl)
          have hp787 : pm_h2 V776 := by rw [hv777]; exact (pm_h2.fr hp771 rfl rfl rfl)
          have hp788 : pm_w3 V776 := by rw [hv777]; exact (pm_w3.fr hp772 rfl rfl rfl rfl)
          have hp789 : pm_pos V776 := by rw [hv777]; exact (pm_pos.fr hg763 rfl rfl)
          obtain ⟨B807, hB808, hb17⟩ := pf_loop hb17
          have L810 : ∀ (N812 : Nat) (x790 : Int) (V792 : pm_M), (0 ≤ x790 ∧ x790 ≤ 9) → pm_oq pm_qB V792 → pm_fs [112] [51] V0 V792 → V792 90 42 = z0 → V792 90 43 = z1 → V792 90 21 = y22 → V792 90 16 = y773 → pm_w1 V792 → pm_h1 V792 → pm_h2 V792 → pm_w3 V792 → pm_pos V792 → (V792 90 51 ≤ 80000000 * x790) → (V792 90 51 = pm_sum (V792 112) ((x790) : Int).toNat) → (x790 ≤ V792 90 16) → B15 (x1, x3, V5) = pf_val (.inr ((0 : Int), V0)) B807 (x790, V792) → (Int.toNat (9 - x790)) = N812 → pm_J X 243 [(0, (3, 90)), (1, (0, a1)), (2, (0, x1)), (3, (0, x790))] [] 118 V792 := by
            intro N812
            induction N812 using Nat.strongRecOn with
            | _ N812 ih813 =>
            intro x790 V792 b791 hV793 hF794 e795 e796 e797 e798 hp799 hp800 hp801 hp802 hp803 hm804 hx805 hx806 hb17 hm811
            have hb809 := congrFun hB808 (x790, V792)
            refine pm_iload_n hC 3 dX12_weighs_243 rfl ?_
            refine pm_aload_n hC 0 (by decide) dX12_weighs_244 rfl ?_
            refine pm_getf (v := y773) hC 90 fl_X12_220 rfl rfl (by decide) rfl e798 dX12_weighs_245 ?_
            refine pm_icmp_ge (tgt := 272) hC ⟨by exact ow_83_6 b791, by exact ow_83_7 b791⟩ ⟨by exact ow_83_8 b775, by exact ow_83_9 b775⟩ dX12_weighs_248 (by decide) (fun c814 => ?_) (fun c814 => ?_)
            · skip
              replace hb809 := hb809.trans (if_pos c814)
              replace hb17 := hb17.trans (pf_val_inr hb809)
              replace hT := hT.trans (pf_val_inr hb17)
              exact pm_vret hC hR ⟨rfl, hV793, hF794, (by have h0 := hx805; have h2 := hx806; have hx : x790 = V792 90 16 := (by exact ow_83_10 e798 hx806 c814); rw [hx] at h0; refine ⟨?_, h0⟩; rw [h0]; obtain ⟨q, q1, q2⟩ := hp803; exact pm_sum_pos _ (fun j hj => (hV793.get 112 j (lo := 0) (hi := 80000000) (t := 0) (by decide) (show j < 9 by exact ow_83_11 b775 e798 hj) rfl).1) q (by exact ow_83_12 q1) q2), hT⟩ dX12_weighs_272
            · skip
              replace hb809 := hb809.trans (if_neg (Int.not_le.mpr c814))
              refine pm_aload_n hC 0 (by decide) dX12_weighs_251 rfl ?_
              refine pm_dup hC rfl dX12_weighs_252 ?_
              obtain ⟨y815, e816⟩ : ∃ y, V792 90 51 = y := ⟨_, rfl⟩
              have b817 := hV793.get 90 51 (lo := 0) (hi := 720000000) (by decide) (by decide) rfl
              rw [e816] at b817
              replace hb809 := hb809.trans (pf_let_eq e816)
              refine pm_getf (v := y815) hC 90 fl_X12_362 rfl rfl (by decide) rfl e816 dX12_weighs_253 ?_
              refine pm_aload_n hC 0 (by decide) dX12_weighs_256 rfl ?_
              have e818 : V792 90 50 = 112 := hV793.one 90 50 (by decide) (by decide) rfl
              refine pm_getf (v := 112) hC 90 fl_X12_76 rfl rfl (by decide) rfl e818 dX12_weighs_257 ?_
              refine pm_iload_n hC 3 dX12_weighs_260 rfl ?_
              obtain ⟨y819, e820⟩ : ∃ y, V792 112 (x790 : Int).toNat = y := ⟨_, rfl⟩
              replace hb809 := hb809.trans (pf_let_eq e820)
              have b821 := hV793.get 112 (x790 : Int).toNat (lo := 0) (hi := 80000000) (t := 0) (by decide) (show _ < 9 by exact ow_83_13 b775 c814) rfl
              rw [e820] at b821
              refine pm_laload (len := 9) (v := y819) hC 112 rfl rfl (by decide) ⟨by exact ow_83_14 b791, by exact ow_83_15 b775 c814⟩ (by decide) e820 dX12_weighs_261 ?_
              refine pm_ladd hC dX12_weighs_262 ?_
              refine pm_putf hC 90 fl_X12_362 rfl rfl rfl (by decide) rfl trivial dX12_weighs_263 ?_
              obtain ⟨x822, ei823⟩ : ∃ y : Int, x790 + 1 = y := ⟨_, rfl⟩
              replace hb809 := hb809.trans (pf_let_eq ei823)
              refine pm_iinc (y := x822) (lv' := [(3, (0, x822)), (0, (3, 90)), (1, (0, a1)), (2, (0, x1))]) hC 3 dX12_weighs_266 (by decide) rfl ei823 rfl ?_
              refine pm_goto (tgt := 243) hC dX12_weighs_269 (by decide) ?_
              refine pm_lvsub [1, 2, 3, 0] (lv' := [(0, (3, 90)), (1, (0, a1)), (2, (0, x1)), (3, (0, x822))]) rfl ?_
              exact ih813 _ (by exact ow_83_16 b775 hm811 c814 ei823) x822 (pm_up V792 90 51 (y815 + y819)) ⟨by exact ow_83_17 b791 ei823, by exact ow_83_18 b775 c814 ei823⟩ (hV793.put 90 51 (x := (y815 + y819)) (lo := 0) (hi := 720000000) rfl ⟨by exact ow_83_19 b817 b821, by omega⟩) (hF794.upf 51 (y815 + y819) rfl) e795 e796 e797 e798 (pm_w1.fr hp799 rfl rfl rfl rfl rfl) (pm_h1.fr hp800 rfl rfl) (pm_h2.fr hp801 rfl rfl rfl) (pm_w3.fr hp802 rfl rfl rfl rfl) (pm_pos.fr hp803 rfl rfl) (show (y815 + y819) ≤ 80000000 * x822 by omega) (by have h0 := hx805; rw [e816] at h0; have h1 : ((x822) : Int).toNat = ((x790) : Int).toNat + 1 := (by omega); show (y815 + y819) = pm_sum (V792 112) ((x822) : Int).toNat; rw [h1]; show (y815 + y819) = pm_sum (V792 112) ((x790) : Int).toNat + V792 112 ((x790) : Int).toNat; rw [e820]; exact ow_83_21 h0) (by show x822 ≤ V792 90 16; exact ow_83_22 e798 c814 ei823) (hb17.trans (pf_val_inl hb809)) rfl
          refine pm_lvsub [1, 2, 3, 0] (lv' := [(0, (3, 90)), (1, (0, a1)), (2, (0, x1)), (3, (0, 0))]) rfl ?_
          exact L810 _ 0 V776 ⟨by decide, by decide⟩ hV778 hF779 e780 e781 e782 e783 hp785 hp786 hp787 hp788 hp789 (by (have e : V776 90 51 = 0 := e784); rw [e]; exact ow_83_23) (by rw [e784]; rfl) (by show 0 ≤ V776 90 16; exact ow_83_24 b775 e783) hb17 rfl
        · skip
          refine pm_tableIn (tgt := 162) (off := 56) hC ⟨by exact ow_83_39 c639, by exact ow_83_40 c639⟩ dX12_weighs_106 (by exact ow_83_41 c639) (by exact ow_83_42 c639) (by rw [c639]; rfl) (by decide) ?_
          replace hb17 := hb17.trans (if_neg (by exact ow_83_43 c639))
          replace hb17 := hb17.trans (if_neg (by exact ow_83_44 c639))
          replace hb17 := hb17.trans (if_neg (by exact ow_83_45 c639))
          replace hb17 := hb17.trans (if_pos c639)
          refine pm_aload_n hC 0 (by decide) dX12_weighs_162 rfl ?_
          refine pm_callV (ci := 12) (as := []) (st := []) hC 90 fB_X12_takesSurer lm_X12_353 li_X12_takesSurer (by decide) (by decide) rfl rfl rfl (by decide) rfl rfl (Nat.le_of_ble_eq_true rfl) ⟨Nat.le_refl _, Or.inl rfl⟩ dX12_weighs_163 ⟨rfl, hV6, hp10, hp11⟩ (fun r824 V825 hp826 => ?_)
          obtain ⟨rfl, hV827, hF828, hg829, hE830⟩ := hp826
          replace hb17 := hb17.trans (pf_call_eq hE830)
          change pm_J X 166 [(0, (3, 90)), (1, (0, a1)), (2, (0, x1)), (3, (0, x3))] [] 118 V825
          have hF831 := pm_fs.tr hF7 hF828 (by decide) (by decide)
          have e832 : V825 90 42 = z0 := by rw [hF828.2 42 (by decide)]; exact e8
          have e833 : V825 90 43 = z1 := by rw [hF828.2 43 (by decide)]; exact e9
          have e834 : V825 90 21 = y22 := by rw [hF828.2 21 (by decide)]; exact e23
          have hp835 : pm_w1 V825 := (pm_w1.fr hp10 (hF828.2 16 (by decide)) (hF828.2 48 (by decide)) (hF828.2 49 (by decide)) (hF828.1 110 (by decide) (by decide)) (hF828.1 111 (by decide) (by decide)))
          have hp836 : pm_h1 V825 := (pm_h1.fr hp11 (hF828.2 16 (by decide)) (hF828.1 97 (by decide) (by decide)))
          have hp837 : pm_h2 V825 := (pm_h2.fr hp12 (hF828.2 16 (by decide)) (hF828.2 21 (by decide)) (hF828.1 99 (by decide) (by decide)))
          have hp838 : pm_w3 V825 := (pm_w3.fr hp13 (hF828.2 16 (by decide)) (hF828.2 46 (by decide)) (hF828.1 110 (by decide) (by decide)) (hF828.1 111 (by decide) (by decide)))
          refine pm_goto (tgt := 236) hC dX12_weighs_166 (by decide) ?_
          refine pm_aload_n hC 0 (by decide) dX12_weighs_236 rfl ?_
          refine pm_lconst (x := 0) hC dX12_weighs_237 rfl ?_
          refine pm_putf hC 90 fl_X12_362 rfl rfl rfl (by decide) rfl trivial dX12_weighs_238 ?_
          refine pm_iconst (v := 0) hC dX12_weighs_241 ?_
          obtain ⟨y839, e840⟩ : ∃ y, V825 90 16 = y := ⟨_, rfl⟩
          have b841 := hV827.get 90 16 (lo := 2) (hi := 9) (by decide) (by decide) rfl
          rw [e840] at b841
          replace hb17 := hb17.trans (pf_let_eq e840)
          refine pm_istore_n (lv' := [(3, (0, 0)), (0, (3, 90)), (1, (0, a1)), (2, (0, x1))]) hC dX12_weighs_242 (by decide) rfl ?_
          have hV844 := (hV827.put 90 51 (x := 0) (lo := 0) (hi := 720000000) rfl ⟨by decide, by decide⟩)
          have hF845 := (hF831.upf 51 0 rfl)
          obtain ⟨V842, hv843⟩ : ∃ V, V = (pm_up V825 90 51 0) := ⟨_, rfl⟩
          rw [← hv843] at hV844 hF845
          rw [← hv843]
          replace hb17 := hb17.trans (pf_let_eq hv843.symm)
          have e846 : V842 90 42 = z0 := by rw [hv843]; exact e832
          have e847 : V842 90 43 = z1 := by rw [hv843]; exact e833
          have e848 : V842 90 21 = y22 := by rw [hv843]; exact e834
          have e849 : V842 90 16 = y839 := by rw [hv843]; exact e840
          have e850 : V842 90 51 = 0 := by rw [hv843]; rfl
          have hp851 : pm_w1 V842 := by rw [hv843]; exact (pm_w1.fr hp835 rfl rfl rfl rfl rfl)
          have hp852 : pm_h1 V842 := by rw [hv843]; exact (pm_h1.fr hp836 rfl rfl)
          have hp853 : pm_h2 V842 := by rw [hv843]; exact (pm_h2.fr hp837 rfl rfl rfl)
          have hp854 : pm_w3 V842 := by rw [hv843]; exact (pm_w3.fr hp838 rfl rfl rfl rfl)
          have hp855 : pm_pos V842 := by rw [hv843]; exact (pm_pos.fr hg829 rfl rfl)
          obtain ⟨B873, hB874, hb17⟩ := pf_loop hb17
          have L876 : ∀ (N878 : Nat) (x856 : Int) (V858 : pm_M), (0 ≤ x856 ∧ x856 ≤ 9) → pm_oq pm_qB V858 → pm_fs [112] [51] V0 V858 → V858 90 42 = z0 → V858 90 43 = z1 → V858 90 21 = y22 → V858 90 16 = y839 → pm_w1 V858 → pm_h1 V858 → pm_h2 V858 → pm_w3 V858 → pm_pos V858 → (V858 90 51 ≤ 80000000 * x856) → (V858 90 51 = pm_sum (V858 112) ((x856) : Int).toNat) → (x856 ≤ V858 90 16) → B15 (x1, x3, V5) = pf_val (.inr ((0 : Int), V0)) B873 (x856, V858) → (Int.toNat (9 - x856)) = N878 → pm_J X 243 [(0, (3, 90)), (1, (0, a1)), (2, (0, x1)), (3, (0, x856))] [] 118 V858 := by
            intro N878
            induction N878 using Nat.strongRecOn with
            | _ N878 ih879 =>
            intro x856 V858 b857 hV859 hF860 e861 e862 e863 e864 hp865 hp866 hp867 hp868 hp869 hm870 hx871 hx872 hb17 hm877
            have hb875 := congrFun hB874 (x856, V858)
            refine pm_iload_n hC 3 dX12_weighs_243 rfl ?_
            refine pm_aload_n hC 0 (by decide) dX12_weighs_244 rfl ?_
            refine pm_getf (v := y839) hC 90 fl_X12_220 rfl rfl (by decide) rfl e864 dX12_weighs_245 ?_
            refine pm_icmp_ge (tgt := 272) hC ⟨by exact ow_83_6 b857, by exact ow_83_7 b857⟩ ⟨by exact ow_83_8 b841, by exact ow_83_9 b841⟩ dX12_weighs_248 (by decide) (fun c880 => ?_) (fun c880 => ?_)
            · skip
              replace hb875 := hb875.trans (if_pos c880)
              replace hb17 := hb17.trans (pf_val_inr hb875)
              replace hT := hT.trans (pf_val_inr hb17)
              exact pm_vret hC hR ⟨rfl, hV859, hF860, (by have h0 := hx871; have h2 := hx872; have hx : x856 = V858 90 16 := (by exact ow_83_10 e864 hx872 c880); rw [hx] at h0; refine ⟨?_, h0⟩; rw [h0]; obtain ⟨q, q1, q2⟩ := hp869; exact pm_sum_pos _ (fun j hj => (hV859.get 112 j (lo := 0) (hi := 80000000) (t := 0) (by decide) (show j < 9 by exact ow_83_11 b841 e864 hj) rfl).1) q (by exact ow_83_12 q1) q2), hT⟩ dX12_weighs_272
            · skip
              replace hb875 := hb875.trans (if_neg (Int.not_le.mpr c880))
              refine pm_aload_n hC 0 (by decide) dX12_weighs_251 rfl ?_
              refine pm_dup hC rfl dX12_weighs_252 ?_
              obtain ⟨y881, e882⟩ : ∃ y, V858 90 51 = y := ⟨_, rfl⟩
              have b883 := hV859.get 90 51 (lo := 0) (hi := 720000000) (by decide) (by decide) rfl
              rw [e882] at b883
              replace hb875 := hb875.trans (pf_let_eq e882)
              refine pm_getf (v := y881) hC 90 fl_X12_362 rfl rfl (by decide) rfl e882 dX12_weighs_253 ?_
              refine pm_aload_n hC 0 (by decide) dX12_weighs_256 rfl ?_
              have e884 : V858 90 50 = 112 := hV859.one 90 50 (by decide) (by decide) rfl
              refine pm_getf (v := 112) hC 90 fl_X12_76 rfl rfl (by decide) rfl e884 dX12_weighs_257 ?_
              refine pm_iload_n hC 3 dX12_weighs_260 rfl ?_
              obtain ⟨y885, e886⟩ : ∃ y, V858 112 (x856 : Int).toNat = y := ⟨_, rfl⟩
              replace hb875 := hb875.trans (pf_let_eq e886)
              have b887 := hV859.get 112 (x856 : Int).toNat (lo := 0) (hi := 80000000) (t := 0) (by decide) (show _ < 9 by exact ow_83_13 b841 c880) rfl
              rw [e886] at b887
              refine pm_laload (len := 9) (v := y885) hC 112 rfl rfl (by decide) ⟨by exact ow_83_14 b857, by exact ow_83_15 b841 c880⟩ (by decide) e886 dX12_weighs_261 ?_
              refine pm_ladd hC dX12_weighs_262 ?_
              refine pm_putf hC 90 fl_X12_362 rfl rfl rfl (by decide) rfl trivial dX12_weighs_263 ?_
              obtain ⟨x888, ei889⟩ : ∃ y : Int, x856 + 1 = y := ⟨_, rfl⟩
              replace hb875 := hb875.trans (pf_let_eq ei889)
              refine pm_iinc (y := x888) (lv' := [(3, (0, x888)), (0, (3, 90)), (1, (0, a1)), (2, (0, x1))]) hC 3 dX12_weighs_266 (by decide) rfl ei889 rfl ?_
              refine pm_goto (tgt := 243) hC dX12_weighs_269 (by decide) ?_
              refine pm_lvsub [1, 2, 3, 0] (lv' := [(0, (3, 90)), (1, (0, a1)), (2, (0, x1)), (3, (0, x888))]) rfl ?_
              exact ih879 _ (by exact ow_83_16 b841 hm877 c880 ei889) x888 (pm_up V858 90 51 (y881 + y885)) ⟨by exact ow_83_17 b857 ei889, by exact ow_83_18 b841 c880 ei889⟩ (hV859.put 90 51 (x := (y881 + y885)) (lo := 0) (hi := 720000000) rfl ⟨by exact ow_83_19 b883 b887, by omega⟩) (hF860.upf 51 (y881 + y885) rfl) e861 e862 e863 e864 (pm_w1.fr hp865 rfl rfl rfl rfl rfl) (pm_h1.fr hp866 rfl rfl) (pm_h2.fr hp867 rfl rfl rfl) (pm_w3.fr hp868 rfl rfl rfl rfl) (pm_pos.fr hp869 rfl rfl) (show (y881 + y885) ≤ 80000000 * x888 by omega) (by have h0 := hx871; rw [e882] at h0; have h1 : ((x888) : Int).toNat = ((x856) : Int).toNat + 1 := (by exact ow_83_30 b857 ei889); show (y881 + y885) = pm_sum (V858 112) ((x888) : Int).toNat; rw [h1]; show (y881 + y885) = pm_sum (V858 112) ((x856) : Int).toNat + V858 112 ((x856) : Int).toNat; rw [e886]; exact ow_83_21 h0) (by show x888 ≤ V858 90 16; exact ow_83_22 e864 c880 ei889) (hb17.trans (pf_val_inl hb875)) rfl
          refine pm_lvsub [1, 2, 3, 0] (lv' := [(0, (3, 90)), (1, (0, a1)), (2, (0, x1)), (3, (0, 0))]) rfl ?_
          exact L876 _ 0 V842 ⟨by decide, by decide⟩ hV844 hF845 e846 e847 e848 e849 hp851 hp852 hp853 hp854 hp855 (by (have e : V842 90 51 = 0 := e850); rw [e]; exact ow_83_23) (by rw [e850]; rfl) (by show 0 ≤ V842 90 16; exact ow_83_24 b841 e849) hb17 rfl
        · skip
          refine pm_tableIn (tgt := 169) (off := 63) hC ⟨by exact ow_83_46 c639, by exact ow_83_47 c639⟩ dX12_weighs_106 (by exact ow_83_48 c639) (by exact ow_83_49 c639) (by rw [c639]; rfl) (by decide) ?_
          replace hb17 := hb17.trans (if_neg (by exact ow_83_50 c639))
          replace hb17 := hb17.trans (if_neg (by exact ow_83_51 c639))
          replace hb17 := hb17.trans (if_neg (by exact ow_83_52 c639))
          replace hb17 := hb17.trans (if_neg (by exact ow_83_53 c639))
          replace hb17 := hb17.trans (if_pos c639)
          refine pm_iconst (v := 0) hC dX12_weighs_169 ?_
          refine pm_istore_n (lv' := [(3, (0, 0)), (0, (3, 90)), (1, (0, a1)), (2, (0, x1))]) hC dX12_weighs_170 (by decide) rfl ?_
          obtain ⟨B903, hB904, hb17⟩ := pf_loop hb17
          have L906 : ∀ (N908 : Nat) (x890 : Int) (V892 : pm_M), (0 ≤ x890 ∧ x890 ≤ 9) → pm_oq pm_qB V892 → pm_fs [112] [51] V0 V892 → V892 90 42 = z0 → V892 90 43 = z1 → V892 90 21 = y22 → pm_w1 V892 → pm_h1 V892 → pm_h2 V892 → pm_w3 V892 → (∀ q : Nat, (q : Int) < x890 → V892 112 q = V892 110 q * V892 111 q) → B15 (x1, x3, V5) = pf_val (.inr ((0 : Int), V0)) B903 (x890, V892) → (Int.toNat (9 - x890)) = N908 → pm_J X 171 [(0, (3, 90)), (1, (0, a1)), (2, (0, x1)), (3, (0, x890))] [] 118 V892 := by
            intro N908
            induction N908 using Nat.strongRecOn with
            | _ N908 ih909 =>
            intro x890 V892 b891 hV893 hF894 e895 e896 e897 hp898 hp899 hp900 hp901 hx902 hb17 hm907
            have hb905 := congrFun hB904 (x890, V892)
            refine pm_iload_n hC 3 dX12_weighs_171 rfl ?_
            refine pm_aload_n hC 0 (by decide) dX12_weighs_172 rfl ?_
            obtain ⟨y910, e911⟩ : ∃ y, V892 90 16 = y := ⟨_, rfl⟩
            have b912 := hV893.get 90 16 (lo := 2) (hi := 9) (by decide) (by decide) rfl
            rw [e911] at b912
            replace hb905 := hb905.trans (pf_let_eq e911)
            refine pm_getf (v := y910) hC 90 fl_X12_220 rfl rfl (by decide) rfl e911 dX12_weighs_173 ?_
            refine pm_icmp_ge (tgt := 206) hC ⟨by exact ow_83_6 b891, by exact ow_83_7 b891⟩ ⟨by exact ow_83_8 b912, by exact ow_83_9 b912⟩ dX12_weighs_176 (by decide) (fun c913 => ?_) (fun c913 => ?_)
            · skip
              replace hb905 := hb905.trans (if_pos c913)
              refine pm_aload_n hC 0 (by decide) dX12_weighs_206 rfl ?_
              obtain ⟨y914, e915⟩ : ∃ y, V892 90 46 = y := ⟨_, rfl⟩
              have b916 := hV893.get 90 46 (lo := 0) (hi := 2368521) (by decide) (by decide) rfl
              rw [e915] at b916
              replace hb905 := hb905.trans (pf_let_eq e915)
              refine pm_getf (v := y914) hC 90 fl_X12_332 rfl rfl (by decide) rfl e915 dX12_weighs_207 ?_
              refine pm_lconst (x := 0) hC dX12_weighs_210 rfl ?_
              refine pm_lcmp hC ⟨by exact ow_83_54 b916, by exact ow_83_55 b916⟩ ⟨by decide, by decide⟩ dX12_weighs_211 (fun y917 b918 => ?_)
              replace hb905 := hb905.trans (pf_let_eq (pm_cmp_u b918))
              refine pm_if_ne (tgt := 236) hC ⟨by exact ow_83_56 b918, by exact ow_83_57 b918⟩ dX12_weighs_212 (by decide) (fun c919 => ?_) (fun c919 => ?_)
              · skip
                replace hb905 := hb905.trans (if_pos c919)
                have hpos920 : pm_pos V892 := by
                  have h3 := hp901
                  unfold pm_w3 at h3
                  rw [e915, e911] at h3
                  obtain ⟨q, q1, q2, q3⟩ := h3 (by exact ow_83_58 b916 b918 c919)
                  exact ⟨q, by rw [e911]; exact q1, by rw [hx902 q (by exact ow_83_59 c913 q1)]; exact pm_mul1 q2 q3⟩
                refine pm_aload_n hC 0 (by decide) dX12_weighs_236 rfl ?_
                refine pm_lconst (x := 0) hC dX12_weighs_237 rfl ?_
                refine pm_putf hC 90 fl_X12_362 rfl rfl rfl (by decide) rfl trivial dX12_weighs_238 ?_
                refine pm_iconst (v := 0) hC dX12_weighs_241 ?_
                refine pm_istore_n (lv' := [(3, (0, 0)), (0, (3, 90)), (1, (0, a1)), (2, (0, x1))]) hC dX12_weighs_242 (by decide) rfl ?_
                have hV923 := (hV893.put 90 51 (x := 0) (lo := 0) (hi := 720000000) rfl ⟨by decide, by decide⟩)
                have hF924 := (hF894.upf 51 0 rfl)
                obtain ⟨V921, hv922⟩ : ∃ V, V = (pm_up V892 90 51 0) := ⟨_, rfl⟩
                rw [← hv922] at hV923 hF924
                rw [← hv922]
                replace hb905 := hb905.trans (pf_let_eq hv922.symm)
                have e925 : V921 90 42 = z0 := by rw [hv922]; exact e895
                have e926 : V921 90 43 = z1 := by rw [hv922]; exact e896
                have e927 : V921 90 21 = y22 := by rw [hv922]; exact e897
                have e928 : V921 90 16 = y910 := by rw [hv922]; exact e911
                have e929 : V921 90 46 = y914 := by rw [hv922]; exact e915
                have e930 : V921 90 51 = 0 := by rw [hv922]; rfl
                have hp931 : pm_w1 V921 := by rw [hv922]; exact (pm_w1.fr hp898 rfl rfl rfl rfl rfl)
                have hp932 : pm_h1 V921 := by rw [hv922]; exact (pm_h1.fr hp899 rfl rfl)
                have hp933 : pm_h2 V921 := by rw [hv922]; exact (pm_h2.fr hp900 rfl rfl rfl)
                have hp934 : pm_w3 V921 := by rw [hv922]; exact (pm_w3.fr hp901 rfl rfl rfl rfl)
                have hp935 : pm_pos V921 := by rw [hv922]; exact (pm_pos.fr hpos920 rfl rfl)
                obtain ⟨B954, hB955, hb905⟩ := pf_loop hb905
                have L957 : ∀ (N959 : Nat) (x936 : Int) (V938 : pm_M), (0 ≤ x936 ∧ x936 ≤ 9) → pm_oq pm_qB V938 → pm_fs [112] [51] V0 V938 → V938 90 42 = z0 → V938 90 43 = z1 → V938 90 21 = y22 → V938 90 16 = y910 → V938 90 46 = y914 → pm_w1 V938 → pm_h1 V938 → pm_h2 V938 → pm_w3 V938 → pm_pos V938 → (V938 90 51 ≤ 80000000 * x936) → (V938 90 51 = pm_sum (V938 112) ((x936) : Int).toNat) → (x936 ≤ V938 90 16) → B903 (x890, V892) = pf_val (.inr (.inr ((0 : Int), V0))) B954 (x936, V938) → (Int.toNat (9 - x936)) = N959 → pm_J X 243 [(0, (3, 90)), (1, (0, a1)), (2, (0, x1)), (3, (0, x936))] [] 118 V938 := by
                  intro N959
                  induction N959 using Nat.strongRecOn with
                  | _ N959 ih960 =>
                  intro x936 V938 b937 hV939 hF940 e941 e942 e943 e944 e945 hp946 hp947 hp948 hp949 hp950 hm951 hx952 hx953 hb905 hm958
                  have hb956 := congrFun hB955 (x936, V938)
                  refine pm_iload_n hC 3 dX12_weighs_243 rfl ?_
                  refine pm_aload_n hC 0 (by decide) dX12_weighs_244 rfl ?_
                  refine pm_getf (v := y910) hC 90 fl_X12_220 rfl rfl (by decide) rfl e944 dX12_weighs_245 ?_
                  refine pm_icmp_ge (tgt := 272) hC ⟨by exact ow_83_6 b937, by exact ow_83_7 b937⟩ ⟨by exact ow_83_8 b912, by exact ow_83_9 b912⟩ dX12_weighs_248 (by decide) (fun c961 => ?_) (fun c961 => ?_)
                  · skip
                    replace hb956 := hb956.trans (if_pos c961)
                    replace hb905 := hb905.trans (pf_val_inr hb956)
                    replace hb17 := hb17.trans (pf_val_inr hb905)
                    replace hT := hT.trans (pf_val_inr hb17)
                    exact pm_vret hC hR ⟨rfl, hV939, hF940, (by have h0 := hx952; have h2 := hx953; have hx : x936 = V938 90 16 := (by exact ow_83_10 e944 hx953 c961); rw [hx] at h0; refine ⟨?_, h0⟩; rw [h0]; obtain ⟨q, q1, q2⟩ := hp950; exact pm_sum_pos _ (fun j hj => (hV939.get 112 j (lo := 0) (hi := 80000000) (t := 0) (by decide) (show j < 9 by exact ow_83_11 b912 e944 hj) rfl).1) q (by exact ow_83_12 q1) q2), hT⟩ dX12_weighs_272
                  · skip
                    replace hb956 := hb956.trans (if_neg (Int.not_le.mpr c961))
                    refine pm_aload_n hC 0 (by decide) dX12_weighs_251 rfl ?_
                    refine pm_dup hC rfl dX12_weighs_252 ?_
                    obtain ⟨y962, e963⟩ : ∃ y, V938 90 51 = y := ⟨_, rfl⟩
                    have b964 := hV939.get 90 51 (lo := 0) (hi := 720000000) (by decide) (by decide) rfl
                    rw [e963] at b964
                    replace hb956 := hb956.trans (pf_let_eq e963)
                    refine pm_getf (v := y962) hC 90 fl_X12_362 rfl rfl (by decide) rfl e963 dX12_weighs_253 ?_
                    refine pm_aload_n hC 0 (by decide) dX12_weighs_256 rfl ?_
                    have e965 : V938 90 50 = 112 := hV939.one 90 50 (by decide) (by decide) rfl
                    refine pm_getf (v := 112) hC 90 fl_X12_76 rfl rfl (by decide) rfl e965 dX12_weighs_257 ?_
                    refine pm_iload_n hC 3 dX12_weighs_260 rfl ?_
                    obtain ⟨y966, e967⟩ : ∃ y, V938 112 (x936 : Int).toNat = y := ⟨_, rfl⟩
                    replace hb956 := hb956.trans (pf_let_eq e967)
                    have b968 := hV939.get 112 (x936 : Int).toNat (lo := 0) (hi := 80000000) (t := 0) (by decide) (show _ < 9 by exact ow_83_13 b912 c961) rfl
                    rw [e967] at b968
                    refine pm_laload (len := 9) (v := y966) hC 112 rfl rfl (by decide) ⟨by exact ow_83_14 b937, by exact ow_83_15 b912 c961⟩ (by decide) e967 dX12_weighs_261 ?_
                    refine pm_ladd hC dX12_weighs_262 ?_
                    refine pm_putf hC 90 fl_X12_362 rfl rfl rfl (by decide) rfl trivial dX12_weighs_263 ?_
                    obtain ⟨x969, ei970⟩ : ∃ y : Int, x936 + 1 = y := ⟨_, rfl⟩
                    replace hb956 := hb956.trans (pf_let_eq ei970)
                    refine pm_iinc (y := x969) (lv' := [(3, (0, x969)), (0, (3, 90)), (1, (0, a1)), (2, (0, x1))]) hC 3 dX12_weighs_266 (by decide) rfl ei970 rfl ?_
                    refine pm_goto (tgt := 243) hC dX12_weighs_269 (by decide) ?_
                    refine pm_lvsub [1, 2, 3, 0] (lv' := [(0, (3, 90)), (1, (0, a1)), (2, (0, x1)), (3, (0, x969))]) rfl ?_
                    exact ih960 _ (by exact ow_83_16 b912 hm958 c961 ei970) x969 (pm_up V938 90 51 (y962 + y966)) ⟨by exact ow_83_17 b937 ei970, by exact ow_83_18 b912 c961 ei970⟩ (hV939.put 90 51 (x := (y962 + y966)) (lo := 0) (hi := 720000000) rfl ⟨by exact ow_83_19 b964 b968, by omega⟩) (hF940.upf 51 (y962 + y966) rfl) e941 e942 e943 e944 e945 (pm_w1.fr hp946 rfl rfl rfl rfl rfl) (pm_h1.fr hp947 rfl rfl) (pm_h2.fr hp948 rfl rfl rfl) (pm_w3.fr hp949 rfl rfl rfl rfl) (pm_pos.fr hp950 rfl rfl) (show (y962 + y966) ≤ 80000000 * x969 by omega) (by have h0 := hx952; rw [e963] at h0; have h1 : ((x969) : Int).toNat = ((x936) : Int).toNat + 1 := (by exact ow_83_30 b937 ei970); show (y962 + y966) = pm_sum (V938 112) ((x969) : Int).toNat; rw [h1]; show (y962 + y966) = pm_sum (V938 112) ((x936) : Int).toNat + V938 112 ((x936) : Int).toNat; rw [e967]; exact ow_83_21 h0) (by show x969 ≤ V938 90 16; exact ow_83_22 e944 c961 ei970) (hb905.trans (pf_val_inl hb956)) rfl
                refine pm_lvsub [1, 2, 3, 0] (lv' := [(0, (3, 90)), (1, (0, a1)), (2, (0, x1)), (3, (0, 0))]) rfl ?_
                exact L957 _ 0 V921 ⟨by decide, by decide⟩ hV923 hF924 e925 e926 e927 e928 e929 hp931 hp932 hp933 hp934 hp935 (by (have e : V921 90 51 = 0 := e930); rw [e]; exact ow_83_23) (by rw [e930]; rfl) (by show 0 ≤ V921 90 16; exact ow_83_24 b912 e928) hb905 rfl
              · skip
                replace hb905 := hb905.trans (if_neg (fun q => q c919))
                refine pm_aload_n hC 0 (by decide) dX12_weighs_215 rfl ?_
                refine pm_callV (ci := 12) (as := []) (st := []) hC 90 fB_X12_takesVoice lm_X12_344 li_X12_takesVoice (by decide) (by decide) rfl rfl rfl (by decide) rfl rfl (Nat.le_of_ble_eq_true rfl) ⟨Nat.le_refl _, Or.inl rfl⟩ dX12_weighs_216 ⟨rfl, hV893, hp898⟩ (fun r971 V972 hp973 => ?_)
                obtain ⟨rfl, hV974, hF975, hg976, hE977⟩ := hp973
                replace hb905 := hb905.trans (pf_call_eq hE977)
                change pm_J X 219 [(0, (3, 90)), (1, (0, a1)), (2, (0, x1)), (3, (0, x890))] [] 118 V972
                have hF978 := pm_fs.tr hF894 hF975 (by decide) (by decide)
                have e979 : V972 90 42 = z0 := by rw [hF975.2 42 (by decide)]; exact e895
                have e980 : V972 90 43 = z1 := by rw [hF975.2 43 (by decide)]; exact e896
                have e981 : V972 90 21 = y22 := by rw [hF975.2 21 (by decide)]; exact e897
                have e982 : V972 90 16 = y910 := by rw [hF975.2 16 (by decide)]; exact e911
                have e983 : V972 90 46 = y914 := by rw [hF975.2 46 (by decide)]; exact e915
                have hp984 : pm_w1 V972 := (pm_w1.fr hp898 (hF975.2 16 (by decide)) (hF975.2 48 (by decide)) (hF975.2 49 (by decide)) (hF975.1 110 (by decide) (by decide)) (hF975.1 111 (by decide) (by decide)))
                have hp985 : pm_h1 V972 := (pm_h1.fr hp899 (hF975.2 16 (by decide)) (hF975.1 97 (by decide) (by decide)))
                have hp986 : pm_h2 V972 := (pm_h2.fr hp900 (hF975.2 16 (by decide)) (hF975.2 21 (by decide)) (hF975.1 99 (by decide) (by decide)))
                have hp987 : pm_w3 V972 := (pm_w3.fr hp901 (hF975.2 16 (by decide)) (hF975.2 46 (by decide)) (hF975.1 110 (by decide) (by decide)) (hF975.1 111 (by decide) (by decide)))
                refine pm_goto (tgt := 236) hC dX12_weighs_219 (by decide) ?_
                refine pm_aload_n hC 0 (by decide) dX12_weighs_236 rfl ?_
                refine pm_lconst (x := 0) hC dX12_weighs_237 rfl ?_
                refine pm_putf hC 90 fl_X12_362 rfl rfl rfl (by decide) rfl trivial dX12_weighs_238 ?_
                refine pm_iconst (v := 0) hC dX12_weighs_241 ?_
                refine pm_istore_n (lv' := [(3, (0, 0)), (0, (3, 90)), (1, (0, a1)), (2, (0, x1))]) hC dX12_weighs_242 (by decide) rfl ?_
                have hV990 := (hV974.put 90 51 (x := 0) (lo := 0) (hi := 720000000) rfl ⟨by decide, by decide⟩)
                have hF991 := (hF978.upf 51 0 rfl)
                obtain ⟨V988, hv989⟩ : ∃ V, V = (pm_up V972 90 51 0) := ⟨_, rfl⟩
                rw [← hv989] at hV990 hF991
                rw [← hv989]
                replace hb905 := hb905.trans (pf_let_eq hv989.symm)
                have e992 : V988 90 42 = z0 := by rw [hv989]; exact e979
                have e993 : V988 90 43 = z1 := by rw [hv989]; exact e980
                have e994 : V988 90 21 = y22 := by rw [hv989]; exact e981
                have e995 : V988 90 16 = y910 := by rw [hv989]; exact e982
                have e996 : V988 90 46 = y914 := by rw [hv989]; exact e983
                have e997 : V988 90 51 = 0 := by rw [hv989]; rfl
                have hp998 : pm_w1 V988 := by rw [hv989]; exact (pm_w1.fr hp984 rfl rfl rfl rfl rfl)
                have hp999 : pm_h1 V988 := by rw [hv989]; exact (pm_h1.fr hp985 rfl rfl)
                have hp1000 : pm_h2 V988 := by rw [hv989]; exact (pm_h2.fr hp986 rfl rfl rfl)
                have hp1001 : pm_w3 V988 := by rw [hv989]; exact (pm_w3.fr hp987 rfl rfl rfl rfl)
                have hp1002 : pm_pos V988 := by rw [hv989]; exact (pm_pos.fr hg976 rfl rfl)
                obtain ⟨B1021, hB1022, hb905⟩ := pf_loop hb905
                have L1024 : ∀ (N1026 : Nat) (x1003 : Int) (V1005 : pm_M), (0 ≤ x1003 ∧ x1003 ≤ 9) → pm_oq pm_qB V1005 → pm_fs [112] [51] V0 V1005 → V1005 90 42 = z0 → V1005 90 43 = z1 → V1005 90 21 = y22 → V1005 90 16 = y910 → V1005 90 46 = y914 → pm_w1 V1005 → pm_h1 V1005 → pm_h2 V1005 → pm_w3 V1005 → pm_pos V1005 → (V1005 90 51 ≤ 80000000 * x1003) → (V1005 90 51 = pm_sum (V1005 112) ((x1003) : Int).toNat) → (x1003 ≤ V1005 90 16) → B903 (x890, V892) = pf_val (.inr (.inr ((0 : Int), V0))) B1021 (x1003, V1005) → (Int.toNat (9 - x1003)) = N1026 → pm_J X 243 [(0, (3, 90)), (1, (0, a1)), (2, (0, x1)), (3, (0, x1003))] [] 118 V1005 := by
                  intro N1026
                  induction N1026 using Nat.strongRecOn with
                  | _ N1026 ih1027 =>
                  intro x1003 V1005 b1004 hV1006 hF1007 e1008 e1009 e1010 e1011 e1012 hp1013 hp1014 hp1015 hp1016 hp1017 hm1018 hx1019 hx1020 hb905 hm1025
                  have hb1023 := congrFun hB1022 (x1003, V1005)
                  refine pm_iload_n hC 3 dX12_weighs_243 rfl ?_
                  refine pm_aload_n hC 0 (by decide) dX12_weighs_244 rfl ?_
                  refine pm_getf (v := y910) hC 90 fl_X12_220 rfl rfl (by decide) rfl e1011 dX12_weighs_245 ?_
                  refine pm_icmp_ge (tgt := 272) hC ⟨by exact ow_83_6 b1004, by exact ow_83_7 b1004⟩ ⟨by exact ow_83_8 b912, by exact ow_83_9 b912⟩ dX12_weighs_248 (by decide) (fun c1028 => ?_) (fun c1028 => ?_)
                  · skip
                    replace hb1023 := hb1023.trans (if_pos c1028)
                    replace hb905 := hb905.trans (pf_val_inr hb1023)
                    replace hb17 := hb17.trans (pf_val_inr hb905)
                    replace hT := hT.trans (pf_val_inr hb17)
                    exact pm_vret hC hR ⟨rfl, hV1006, hF1007, (by have h0 := hx1019; have h2 := hx1020; have hx : x1003 = V1005 90 16 := (by exact ow_83_10 e1011 hx1020 c1028); rw [hx] at h0; refine ⟨?_, h0⟩; rw [h0]; obtain ⟨q, q1, q2⟩ := hp1017; exact pm_sum_pos _ (fun j hj => (hV1006.get 112 j (lo := 0) (hi := 80000000) (t := 0) (by decide) (show j < 9 by exact ow_83_11 b912 e1011 hj) rfl).1) q (by exact ow_83_12 q1) q2), hT⟩ dX12_weighs_272
                  · skip
                    replace hb1023 := hb1023.trans (if_neg (Int.not_le.mpr c1028))
                    refine pm_aload_n hC 0 (by decide) dX12_weighs_251 rfl ?_
                    refine pm_dup hC rfl dX12_weighs_252 ?_
                    obtain ⟨y1029, e1030⟩ : ∃ y, V1005 90 51 = y := ⟨_, rfl⟩
                    have b1031 := hV1006.get 90 51 (lo := 0) (hi := 720000000) (by decide) (by decide) rfl
                    rw [e1030] at b1031
                    replace hb1023 := hb1023.trans (pf_let_eq e1030)
                    refine pm_getf (v := y1029) hC 90 fl_X12_362 rfl rfl (by decide) rfl e1030 dX12_weighs_253 ?_
                    refine pm_aload_n hC 0 (by decide) dX12_weighs_256 rfl ?_
                    have e1032 : V1005 90 50 = 112 := hV1006.one 90 50 (by decide) (by decide) rfl
                    refine pm_getf (v := 112) hC 90 fl_X12_76 rfl rfl (by decide) rfl e1032 dX12_weighs_257 ?_
                    refine pm_iload_n hC 3 dX12_weighs_260 rfl ?_
                    obtain ⟨y1033, e1034⟩ : ∃ y, V1005 112 (x1003 : Int).toNat = y := ⟨_, rfl⟩
                    replace hb1023 := hb1023.trans (pf_let_eq e1034)
                    have b1035 := hV1006.get 112 (x1003 : Int).toNat (lo := 0) (hi := 80000000) (t := 0) (by decide) (show _ < 9 by exact ow_83_13 b912 c1028) rfl
                    rw [e1034] at b1035
                    refine pm_laload (len := 9) (v := y1033) hC 112 rfl rfl (by decide) ⟨by exact ow_83_14 b1004, by exact ow_83_15 b912 c1028⟩ (by decide) e1034 dX12_weighs_261 ?_
                    refine pm_ladd hC dX12_weighs_262 ?_
                    refine pm_putf hC 90 fl_X12_362 rfl rfl rfl (by decide) rfl trivial dX12_weighs_263 ?_
                    obtain ⟨x1036, ei1037⟩ : ∃ y : Int, x1003 + 1 = y := ⟨_, rfl⟩
                    replace hb1023 := hb1023.trans (pf_let_eq ei1037)
                    refine pm_iinc (y := x1036) (lv' := [(3, (0, x1036)), (0, (3, 90)), (1, (0, a1)), (2, (0, x1))]) hC 3 dX12_weighs_266 (by decide) rfl ei1037 rfl ?_
                    refine pm_goto (tgt := 243) hC dX12_weighs_269 (by decide) ?_
                    refine pm_lvsub [1, 2, 3, 0] (lv' := [(0, (3, 90)), (1, (0, a1)), (2, (0, x1)), (3, (0, x1036))]) rfl ?_
                    exact ih1027 _ (by exact ow_83_16 b912 hm1025 c1028 ei1037) x1036 (pm_up V1005 90 51 (y1029 + y1033)) ⟨by exact ow_83_17 b1004 ei1037, by exact ow_83_18 b912 c1028 ei1037⟩ (hV1006.put 90 51 (x := (y1029 + y1033)) (lo := 0) (hi := 720000000) rfl ⟨by exact ow_83_19 b1031 b1035, by omega⟩) (hF1007.upf 51 (y1029 + y1033) rfl) e1008 e1009 e1010 e1011 e1012 (pm_w1.fr hp1013 rfl rfl rfl rfl rfl) (pm_h1.fr hp1014 rfl rfl) (pm_h2.fr hp1015 rfl rfl rfl) (pm_w3.fr hp1016 rfl rfl rfl rfl) (pm_pos.fr hp1017 rfl rfl) (show (y1029 + y1033) ≤ 80000000 * x1036 by omega) (by have h0 := hx1019; rw [e1030] at h0; have h1 : ((x1036) : Int).toNat = ((x1003) : Int).toNat + 1 := (by exact ow_83_30 b1004 ei1037); show (y1029 + y1033) = pm_sum (V1005 112) ((x1036) : Int).toNat; rw [h1]; show (y1029 + y1033) = pm_sum (V1005 112) ((x1003) : Int).toNat + V1005 112 ((x1003) : Int).toNat; rw [e1034]; exact ow_83_21 h0) (by show x1036 ≤ V1005 90 16; exact ow_83_22 e1011 c1028 ei1037) (hb905.trans (pf_val_inl hb1023)) rfl
                refine pm_lvsub [1, 2, 3, 0] (lv' := [(0, (3, 90)), (1, (0, a1)), (2, (0, x1)), (3, (0, 0))]) rfl ?_
                exact L1024 _ 0 V988 ⟨by decide, by decide⟩ hV990 hF991 e992 e993 e994 e995 e996 hp998 hp999 hp1000 hp1001 hp1002 (by (have e : V988 90 51 = 0 := e997); rw [e]; exact ow_83_23) (by rw [e997]; rfl) (by show 0 ≤ V988 90 16; exact ow_83_24 b912 e995) hb905 rfl
            · skip
              replace hb905 := hb905.trans (if_neg (Int.not_le.mpr c913))
              refine pm_aload_n hC 0 (by decide) dX12_weighs_179 rfl ?_
              have e1038 : V892 90 50 = 112 := hV893.one 90 50 (by decide) (by decide) rfl
              refine pm_getf (v := 112) hC 90 fl_X12_76 rfl rfl (by decide) rfl e1038 dX12_weighs_180 ?_
              refine pm_iload_n hC 3 dX12_weighs_183 rfl ?_
              refine pm_aload_n hC 0 (by decide) dX12_weighs_184 rfl ?_
              have e1039 : V892 90 40 = 110 := hV893.one 90 40 (by decide) (by decide) rfl
              refine pm_getf (v := 110) hC 90 fl_X12_70 rfl rfl (by decide) rfl e1039 dX12_weighs_185 ?_
              refine pm_iload_n hC 3 dX12_weighs_188 rfl ?_
              obtain ⟨y1040, e1041⟩ : ∃ y, V892 110 (x890 : Int).toNat = y := ⟨_, rfl⟩
              replace hb905 := hb905.trans (pf_let_eq e1041)
              have b1042 := hV893.get 110 (x890 : Int).toNat (lo := 0) (hi := 1539) (t := 0) (by decide) (show _ < 9 by exact ow_83_13 b912 c913) rfl
              rw [e1041] at b1042
              refine pm_iaload (len := 9) (v := y1040) hC 110 rfl rfl (by decide) ⟨by exact ow_83_14 b891, by exact ow_83_15 b912 c913⟩ (by decide) e1041 dX12_weighs_189 ?_
              refine pm_i2l hC ⟨by exact ow_83_60 b1042, by exact ow_83_61 b1042⟩ dX12_weighs_190 ?_
              refine pm_aload_n hC 0 (by decide) dX12_weighs_191 rfl ?_
              have e1043 : V892 90 41 = 111 := hV893.one 90 41 (by decide) (by decide) rfl
              refine pm_getf (v := 111) hC 90 fl_X12_73 rfl rfl (by decide) rfl e1043 dX12_weighs_192 ?_
              refine pm_iload_n hC 3 dX12_weighs_195 rfl ?_
              obtain ⟨y1044, e1045⟩ : ∃ y, V892 111 (x890 : Int).toNat = y := ⟨_, rfl⟩
              replace hb905 := hb905.trans (pf_let_eq e1045)
              have b1046 := hV893.get 111 (x890 : Int).toNat (lo := 0) (hi := 171) (t := 0) (by decide) (show _ < 9 by exact ow_83_13 b912 c913) rfl
              rw [e1045] at b1046
              refine pm_iaload (len := 9) (v := y1044) hC 111 rfl rfl (by decide) ⟨by exact ow_83_14 b891, by exact ow_83_15 b912 c913⟩ (by decide) e1045 dX12_weighs_196 ?_
              refine pm_i2l hC ⟨by exact ow_83_62 b1046, by exact ow_83_63 b1046⟩ dX12_weighs_197 ?_
              refine pm_lmul hC dX12_weighs_198 ?_
              have b1048 : 0 ≤ (y1040 * y1044) ∧ (y1040 * y1044) ≤ 263169 := pm_mulb (by exact ow_83_64 b1042) (by exact ow_83_65 b1046) (show y1040 ≤ 1539 by exact ow_83_66 b1042) (show y1044 ≤ 171 by exact ow_83_67 b1046) (by decide)
              obtain ⟨y1047, hey1047⟩ : ∃ z, (y1040 * y1044) = z := ⟨_, rfl⟩
              rw [hey1047] at b1048 ⊢
              replace hb905 := hb905.trans (pf_let_eq hey1047)
              refine pm_lastore (len := 9) hC 112 rfl rfl (by decide) ⟨by exact ow_83_14 b891, by exact ow_83_15 b912 c913⟩ (by decide) dX12_weighs_199 ?_
              obtain ⟨x1049, ei1050⟩ : ∃ y : Int, x890 + 1 = y := ⟨_, rfl⟩
              replace hb905 := hb905.trans (pf_let_eq ei1050)
              refine pm_iinc (y := x1049) (lv' := [(3, (0, x1049)), (0, (3, 90)), (1, (0, a1)), (2, (0, x1))]) hC 3 dX12_weighs_200 (by decide) rfl ei1050 rfl ?_
              refine pm_goto (tgt := 171) hC dX12_weighs_203 (by decide) ?_
              refine pm_lvsub [1, 2, 3, 0] (lv' := [(0, (3, 90)), (1, (0, a1)), (2, (0, x1)), (3, (0, x1049))]) rfl ?_
              exact ih909 _ (by exact ow_83_68 hm907 b912 c913 ei1050) x1049 (pm_up V892 112 (x890 : Int).toNat y1047) ⟨by exact ow_83_17 b891 ei1050, by exact ow_83_18 b912 c913 ei1050⟩ (hV893.put 112 (x890 : Int).toNat (x := y1047) (lo := 0) (hi := 80000000) rfl ⟨by exact ow_83_69 b1048, by exact ow_83_70 b1048⟩) (hF894.up 112 (x890 : Int).toNat y1047 (by decide) rfl) e895 e896 e897 (pm_w1.fr hp898 rfl rfl rfl rfl rfl) (pm_h1.fr hp899 rfl rfl) (pm_h2.fr hp900 rfl rfl rfl) (pm_w3.fr hp901 rfl rfl rfl rfl) (fun q h => by (by_cases hq : q = (x890 : Int).toNat); (subst hq; show pm_up V892 112 (x890 : Int).toNat y1047 112 (x890 : Int).toNat = V892 110 _ * V892 111 _; rw [pm_up_s, e1041, e1045]; omega); (show pm_up V892 112 (x890 : Int).toNat y1047 112 q = V892 110 q * V892 111 q; rw [pm_up_i hq]; exact hx902 q (by exact ow_83_71 ei1050 h hq))) (hb17.trans (pf_val_inl hb905)) rfl
          refine pm_lvsub [1, 2, 3, 0] (lv' := [(0, (3, 90)), (1, (0, a1)), (2, (0, x1)), (3, (0, 0))]) rfl ?_
          exact L906 _ 0 V5 ⟨by decide, by decide⟩ hV6 hF7 e8 e9 e23 hp10 hp11 hp12 hp13 (fun q h => absurd h (by exact ow_83_72 h)) hb17 rfl
        · skip
          refine pm_tableIn (tgt := 222) (off := 116) hC ⟨by exact ow_83_73 c639, by exact ow_83_74 c639⟩ dX12_weighs_106 (by exact ow_83_75 c639) (by exact ow_83_76 c639) (by rw [c639]; rfl) (by decide) ?_
          replace hb17 := hb17.trans (if_neg (by exact ow_83_77 c639))
          replace hb17 := hb17.trans (if_neg (by exact ow_83_78 c639))
          replace hb17 := hb17.trans (if_neg (by exact ow_83_79 c639))
          replace hb17 := hb17.trans (if_neg (by exact ow_83_80 c639))
          replace hb17 := hb17.trans (if_neg (by exact ow_83_81 c639))
          replace hb17 := hb17.trans (if_pos c639)
          refine pm_aload_n hC 0 (by decide) dX12_weighs_222 rfl ?_
          refine pm_callV (ci := 12) (as := []) (st := []) hC 90 fB_X12_takesOdds lm_X12_356 li_X12_takesOdds (by decide) (by decide) rfl rfl rfl (by decide) rfl rfl (Nat.le_of_ble_eq_true rfl) ⟨Nat.le_refl _, Or.inl rfl⟩ dX12_weighs_223 ⟨rfl, hV6, hp10⟩ (fun r1051 V1052 hp1053 => ?_)
          obtain ⟨rfl, hV1054, hF1055, hg1056, hE1057⟩ := hp1053
          replace hb17 := hb17.trans (pf_call_eq hE1057)
          change pm_J X 226 [(0, (3, 90)), (1, (0, a1)), (2, (0, x1)), (3, (0, x3))] [] 118 V1052
          have hF1058 := pm_fs.tr hF7 hF1055 (by decide) (by decide)
          have e1059 : V1052 90 42 = z0 := by rw [hF1055.2 42 (by decide)]; exact e8
          have e1060 : V1052 90 43 = z1 := by rw [hF1055.2 43 (by decide)]; exact e9
          have e1061 : V1052 90 21 = y22 := by rw [hF1055.2 21 (by decide)]; exact e23
          have hp1062 : pm_w1 V1052 := (pm_w1.fr hp10 (hF1055.2 16 (by decide)) (hF1055.2 48 (by decide)) (hF1055.2 49 (by decide)) (hF1055.1 110 (by decide) (by decide)) (hF1055.1 111 (by decide) (by decide)))
          have hp1063 : pm_h1 V1052 := (pm_h1.fr hp11 (hF1055.2 16 (by decide)) (hF1055.1 97 (by decide) (by decide)))
          have hp1064 : pm_h2 V1052 := (pm_h2.fr hp12 (hF1055.2 16 (by decide)) (hF1055.2 21 (by decide)) (hF1055.1 99 (by decide) (by decide)))
          have hp1065 : pm_w3 V1052 := (pm_w3.fr hp13 (hF1055.2 16 (by decide)) (hF1055.2 46 (by decide)) (hF1055.1 110 (by decide) (by decide)) (hF1055.1 111 (by decide) (by decide)))
          refine pm_goto (tgt := 236) hC dX12_weighs_226 (by decide) ?_
          refine pm_aload_n hC 0 (by decide) dX12_weighs_236 rfl ?_
          refine pm_lconst (x := 0) hC dX12_weighs_237 rfl ?_
          refine pm_putf hC 90 fl_X12_362 rfl rfl rfl (by decide) rfl trivial dX12_weighs_238 ?_
          refine pm_iconst (v := 0) hC dX12_weighs_241 ?_
          obtain ⟨y1066, e1067⟩ : ∃ y, V1052 90 16 = y := ⟨_, rfl⟩
          have b1068 := hV1054.get 90 16 (lo := 2) (hi := 9) (by decide) (by decide) rfl
          rw [e1067] at b1068
          replace hb17 := hb17.trans (pf_let_eq e1067)
          refine pm_istore_n (lv' := [(3, (0, 0)), (0, (3, 90)), (1, (0, a1)), (2, (0, x1))]) hC dX12_weighs_242 (by decide) rfl ?_
          have hV1071 := (hV1054.put 90 51 (x := 0) (lo := 0) (hi := 720000000) rfl ⟨by decide, by decide⟩)
          have hF1072 := (hF1058.upf 51 0 rfl)
          obtain ⟨V1069, hv1070⟩ : ∃ V, V = (pm_up V1052 90 51 0) := ⟨_, rfl⟩
          rw [← hv1070] at hV1071 hF1072
          rw [← hv1070]
          replace hb17 := hb17.trans (pf_let_eq hv1070.symm)
          have e1073 : V1069 90 42 = z0 := by rw [hv1070]; exact e1059
          have e1074 : V1069 90 43 = z1 := by rw [hv1070]; exact e1060
          have e1075 : V1069 90 21 = y22 := by rw [hv1070]; exact e1061
          have e1076 : V1069 90 16 = y1066 := by rw [hv1070]; exact e1067
          have e1077 : V1069 90 51 = 0 := by rw [hv1070]; rfl
          have hp1078 : pm_w1 V1069 := by rw [hv1070]; exact (pm_w1.fr hp1062 rfl rfl rfl rfl rfl)
          have hp1079 : pm_h1 V1069 := by rw [hv1070]; exact (pm_h1.fr hp1063 rfl rfl)
          have hp1080 : pm_h2 V1069 := by rw [hv1070]; exact (pm_h2.fr hp1064 rfl rfl rfl)
          have hp1081 : pm_w3 V1069 := by rw [hv1070]; exact (pm_w3.fr hp1065 rfl rfl rfl rfl)
          have hp1082 : pm_pos V1069 := by rw [hv1070]; exact (pm_pos.fr hg1056 rfl rfl)
          obtain ⟨B1100, hB1101, hb17⟩ := pf_loop hb17
          have L1103 : ∀ (N1105 : Nat) (x1083 : Int) (V1085 : pm_M), (0 ≤ x1083 ∧ x1083 ≤ 9) → pm_oq pm_qB V1085 → pm_fs [112] [51] V0 V1085 → V1085 90 42 = z0 → V1085 90 43 = z1 → V1085 90 21 = y22 → V1085 90 16 = y1066 → pm_w1 V1085 → pm_h1 V1085 → pm_h2 V1085 → pm_w3 V1085 → pm_pos V1085 → (V1085 90 51 ≤ 80000000 * x1083) → (V1085 90 51 = pm_sum (V1085 112) ((x1083) : Int).toNat) → (x1083 ≤ V1085 90 16) → B15 (x1, x3, V5) = pf_val (.inr ((0 : Int), V0)) B1100 (x1083, V1085) → (Int.toNat (9 - x1083)) = N1105 → pm_J X 243 [(0, (3, 90)), (1, (0, a1)), (2, (0, x1)), (3, (0, x1083))] [] 118 V1085 := by
            intro N1105
            induction N1105 using Nat.strongRecOn with
            | _ N1105 ih1106 =>
            intro x1083 V1085 b1084 hV1086 hF1087 e1088 e1089 e1090 e1091 hp1092 hp1093 hp1094 hp1095 hp1096 hm1097 hx1098 hx1099 hb17 hm1104
            have hb1102 := congrFun hB1101 (x1083, V1085)
            refine pm_iload_n hC 3 dX12_weighs_243 rfl ?_
            refine pm_aload_n hC 0 (by decide) dX12_weighs_244 rfl ?_
            refine pm_getf (v := y1066) hC 90 fl_X12_220 rfl rfl (by decide) rfl e1091 dX12_weighs_245 ?_
            refine pm_icmp_ge (tgt := 272) hC ⟨by exact ow_83_6 b1084, by exact ow_83_7 b1084⟩ ⟨by exact ow_83_8 b1068, by exact ow_83_9 b1068⟩ dX12_weighs_248 (by decide) (fun c1107 => ?_) (fun c1107 => ?_)
            · skip
              replace hb1102 := hb1102.trans (if_pos c1107)
              replace hb17 := hb17.trans (pf_val_inr hb1102)
              replace hT := hT.trans (pf_val_inr hb17)
              exact pm_vret hC hR ⟨rfl, hV1086, hF1087, (by have h0 := hx1098; have h2 := hx1099; have hx : x1083 = V1085 90 16 := (by exact ow_83_10 e1091 hx1099 c1107); rw [hx] at h0; refine ⟨?_, h0⟩; rw [h0]; obtain ⟨q, q1, q2⟩ := hp1096; exact pm_sum_pos _ (fun j hj => (hV1086.get 112 j (lo := 0) (hi := 80000000) (t := 0) (by decide) (show j < 9 by exact ow_83_11 b1068 e1091 hj) rfl).1) q (by exact ow_83_12 q1) q2), hT⟩ dX12_weighs_272
            · skip
              replace hb1102 := hb1102.trans (if_neg (Int.not_le.mpr c1107))
              refine pm_aload_n hC 0 (by decide) dX12_weighs_251 rfl ?_
              refine pm_dup hC rfl dX12_weighs_252 ?_
              obtain ⟨y1108, e1109⟩ : ∃ y, V1085 90 51 = y := ⟨_, rfl⟩
              have b1110 := hV1086.get 90 51 (lo := 0) (hi := 720000000) (by decide) (by decide) rfl
              rw [e1109] at b1110
              replace hb1102 := hb1102.trans (pf_let_eq e1109)
              refine pm_getf (v := y1108) hC 90 fl_X12_362 rfl rfl (by decide) rfl e1109 dX12_weighs_253 ?_
              refine pm_aload_n hC 0 (by decide) dX12_weighs_256 rfl ?_
              have e1111 : V1085 90 50 = 112 := hV1086.one 90 50 (by decide) (by decide) rfl
              refine pm_getf (v := 112) hC 90 fl_X12_76 rfl rfl (by decide) rfl e1111 dX12_weighs_257 ?_
              refine pm_iload_n hC 3 dX12_weighs_260 rfl ?_
              obtain ⟨y1112, e1113⟩ : ∃ y, V1085 112 (x1083 : Int).toNat = y := ⟨_, rfl⟩
              replace hb1102 := hb1102.trans (pf_let_eq e1113)
              have b1114 := hV1086.get 112 (x1083 : Int).toNat (lo := 0) (hi := 80000000) (t := 0) (by decide) (show _ < 9 by exact ow_83_13 b1068 c1107) rfl
              rw [e1113] at b1114
              refine pm_laload (len := 9) (v := y1112) hC 112 rfl rfl (by decide) ⟨by exact ow_83_37 hm1097 e1109 b1110, by exact ow_83_15 b1068 c1107⟩ (by decide) e1113 dX12_weighs_261 ?_
              refine pm_ladd hC dX12_weighs_262 ?_
              refine pm_putf hC 90 fl_X12_362 rfl rfl rfl (by decide) rfl trivial dX12_weighs_263 ?_
              obtain ⟨x1115, ei1116⟩ : ∃ y : Int, x1083 + 1 = y := ⟨_, rfl⟩
              replace hb1102 := hb1102.trans (pf_let_eq ei1116)
              refine pm_iinc (y := x1115) (lv' := [(3, (0, x1115)), (0, (3, 90)), (1, (0, a1)), (2, (0, x1))]) hC 3 dX12_weighs_266 (by decide) rfl ei1116 rfl ?_
              refine pm_goto (tgt := 243) hC dX12_weighs_269 (by decide) ?_
              refine pm_lvsub [1, 2, 3, 0] (lv' := [(0, (3, 90)), (1, (0, a1)), (2, (0, x1)), (3, (0, x1115))]) rfl ?_
              exact ih1106 _ (by exact ow_83_16 b1068 hm1104 c1107 ei1116) x1115 (pm_up V1085 90 51 (y1108 + y1112)) ⟨by exact ow_83_38 hm1097 e1109 b1110 ei1116, by exact ow_83_18 b1068 c1107 ei1116⟩ (hV1086.put 90 51 (x := (y1108 + y1112)) (lo := 0) (hi := 720000000) rfl ⟨by exact ow_83_19 b1110 b1114, by omega⟩) (hF1087.upf 51 (y1108 + y1112) rfl) e1088 e1089 e1090 e1091 (pm_w1.fr hp1092 rfl rfl rfl rfl rfl) (pm_h1.fr hp1093 rfl rfl) (pm_h2.fr hp1094 rfl rfl rfl) (pm_w3.fr hp1095 rfl rfl rfl rfl) (pm_pos.fr hp1096 rfl rfl) (show (y1108 + y1112) ≤ 80000000 * x1115 by omega) (by have h0 := hx1098; rw [e1109] at h0; have h1 : ((x1115) : Int).toNat = ((x1083) : Int).toNat + 1 := (by exact ow_83_82 hm1097 e1109 b1110 ei1116); show (y1108 + y1112) = pm_sum (V1085 112) ((x1115) : Int).toNat; rw [h1]; show (y1108 + y1112) = pm_sum (V1085 112) ((x1083) : Int).toNat + V1085 112 ((x1083) : Int).toNat; rw [e1113]; exact ow_83_21 h0) (by show x1115 ≤ V1085 90 16; exact ow_83_22 e1091 c1107 ei1116) (hb17.trans (pf_val_inl hb1102)) rfl
          refine pm_lvsub [1, 2, 3, 0] (lv' := [(0, (3, 90)), (1, (0, a1)), (2, (0, x1)), (3, (0, 0))]) rfl ?_
          exact L1103 _ 0 V1069 ⟨by decide, by decide⟩ hV1071 hF1072 e1073 e1074 e1075 e1076 hp1078 hp1079 hp1080 hp1081 hp1082 (by (have e : V1069 90 51 = 0 := e1077); rw [e]; exact ow_83_23) (by rw [e1077]; rfl) (by show 0 ≤ V1069 90 16; exact ow_83_24 b1068 e1076) hb17 rfl
        · skip
          refine pm_tableIn (tgt := 222) (off := 116) hC ⟨by exact ow_83_83 c639, by exact ow_83_84 c639⟩ dX12_weighs_106 (by exact ow_83_85 c639) (by exact ow_83_86 c639) (by rw [c639]; rfl) (by decide) ?_
          replace hb17 := hb17.trans (if_neg (by exact ow_83_87 c639))
          replace hb17 := hb17.trans (if_neg (by exact ow_83_88 c639))
          replace hb17 := hb17.trans (if_neg (by exact ow_83_89 c639))
          replace hb17 := hb17.trans (if_neg (by exact ow_83_90 c639))
          replace hb17 := hb17.trans (if_neg (by exact ow_83_91 c639))
          replace hb17 := hb17.trans (if_neg (by exact ow_83_92 c639))
          replace hb17 := hb17.trans (if_pos c639)
          refine pm_aload_n hC 0 (by decide) dX12_weighs_222 rfl ?_
          refine pm_callV (ci := 12) (as := []) (st := []) hC 90 fB_X12_takesOdds lm_X12_356 li_X12_takesOdds (by decide) (by decide) rfl rfl rfl (by decide) rfl rfl (Nat.le_of_ble_eq_true rfl) ⟨Nat.le_refl _, Or.inl rfl⟩ dX12_weighs_223 ⟨rfl, hV6, hp10⟩ (fun r1117 V1118 hp1119 => ?_)
          obtain ⟨rfl, hV1120, hF1121, hg1122, hE1123⟩ := hp1119
          replace hb17 := hb17.trans (pf_call_eq hE1123)
          change pm_J X 226 [(0, (3, 90)), (1, (0, a1)), (2, (0, x1)), (3, (0, x3))] [] 118 V1118
          have hF1124 := pm_fs.tr hF7 hF1121 (by decide) (by decide)
          have e1125 : V1118 90 42 = z0 := by rw [hF1121.2 42 (by decide)]; exact e8
          have e1126 : V1118 90 43 = z1 := by rw [hF1121.2 43 (by decide)]; exact e9
          have e1127 : V1118 90 21 = y22 := by rw [hF1121.2 21 (by decide)]; exact e23
          have hp1128 : pm_w1 V1118 := (pm_w1.fr hp10 (hF1121.2 16 (by decide)) (hF1121.2 48 (by decide)) (hF1121.2 49 (by decide)) (hF1121.1 110 (by decide) (by decide)) (hF1121.1 111 (by decide) (by decide)))
          have hp1129 : pm_h1 V1118 := (pm_h1.fr hp11 (hF1121.2 16 (by decide)) (hF1121.1 97 (by decide) (by decide)))
          have hp1130 : pm_h2 V1118 := (pm_h2.fr hp12 (hF1121.2 16 (by decide)) (hF1121.2 21 (by decide)) (hF1121.1 99 (by decide) (by decide)))
          have hp1131 : pm_w3 V1118 := (pm_w3.fr hp13 (hF1121.2 16 (by decide)) (hF1121.2 46 (by decide)) (hF1121.1 110 (by decide) (by decide)) (hF1121.1 111 (by decide) (by decide)))
          refine pm_goto (tgt := 236) hC dX12_weighs_226 (by decide) ?_
          refine pm_aload_n hC 0 (by decide) dX12_weighs_236 rfl ?_
          refine pm_lconst (x := 0) hC dX12_weighs_237 rfl ?_
          refine pm_putf hC 90 fl_X12_362 rfl rfl rfl (by decide) rfl trivial dX12_weighs_238 ?_
          refine pm_iconst (v := 0) hC dX12_weighs_241 ?_
          obtain ⟨y1132, e1133⟩ : ∃ y, V1118 90 16 = y := ⟨_, rfl⟩
          have b1134 := hV1120.get 90 16 (lo := 2) (hi := 9) (by decide) (by decide) rfl
          rw [e1133] at b1134
          replace hb17 := hb17.trans (pf_let_eq e1133)
          refine pm_istore_n (lv' := [(3, (0, 0)), (0, (3, 90)), (1, (0, a1)), (2, (0, x1))]) hC dX12_weighs_242 (by decide) rfl ?_
          have hV1137 := (hV1120.put 90 51 (x := 0) (lo := 0) (hi := 720000000) rfl ⟨by decide, by decide⟩)
          have hF1138 := (hF1124.upf 51 0 rfl)
          obtain ⟨V1135, hv1136⟩ : ∃ V, V = (pm_up V1118 90 51 0) := ⟨_, rfl⟩
          rw [← hv1136] at hV1137 hF1138
          rw [← hv1136]
          replace hb17 := hb17.trans (pf_let_eq hv1136.symm)
          have e1139 : V1135 90 42 = z0 := by rw [hv1136]; exact e1125
          have e1140 : V1135 90 43 = z1 := by rw [hv1136]; exact e1126
          have e1141 : V1135 90 21 = y22 := by rw [hv1136]; exact e1127
          have e1142 : V1135 90 16 = y1132 := by rw [hv1136]; exact e1133
          have e1143 : V1135 90 51 = 0 := by rw [hv1136]; rfl
          have hp1144 : pm_w1 V1135 := by rw [hv1136]; exact (pm_w1.fr hp1128 rfl rfl rfl rfl rfl)
          have hp1145 : pm_h1 V1135 := by rw [hv1136]; exact (pm_h1.fr hp1129 rfl rfl)
          have hp1146 : pm_h2 V1135 := by rw [hv1136]; exact (pm_h2.fr hp1130 rfl rfl rfl)
          have hp1147 : pm_w3 V1135 := by rw [hv1136]; exact (pm_w3.fr hp1131 rfl rfl rfl rfl)
          have hp1148 : pm_pos V1135 := by rw [hv1136]; exact (pm_pos.fr hg1122 rfl rfl)
          obtain ⟨B1166, hB1167, hb17⟩ := pf_loop hb17
          have L1169 : ∀ (N1171 : Nat) (x1149 : Int) (V1151 : pm_M), (0 ≤ x1149 ∧ x1149 ≤ 9) → pm_oq pm_qB V1151 → pm_fs [112] [51] V0 V1151 → V1151 90 42 = z0 → V1151 90 43 = z1 → V1151 90 21 = y22 → V1151 90 16 = y1132 → pm_w1 V1151 → pm_h1 V1151 → pm_h2 V1151 → pm_w3 V1151 → pm_pos V1151 → (V1151 90 51 ≤ 80000000 * x1149) → (V1151 90 51 = pm_sum (V1151 112) ((x1149) : Int).toNat) → (x1149 ≤ V1151 90 16) → B15 (x1, x3, V5) = pf_val (.inr ((0 : Int), V0)) B1166 (x1149, V1151) → (Int.toNat (9 - x1149)) = N1171 → pm_J X 243 [(0, (3, 90)), (1, (0, a1)), (2, (0, x1)), (3, (0, x1149))] [] 118 V1151 := by
            intro N1171
            induction N1171 using Nat.strongRecOn with
            | _ N1171 ih1172 =>
            intro x1149 V1151 b1150 hV1152 hF1153 e1154 e1155 e1156 e1157 hp1158 hp1159 hp1160 hp1161 hp1162 hm1163 hx1164 hx1165 hb17 hm1170
            have hb1168 := congrFun hB1167 (x1149, V1151)
            refine pm_iload_n hC 3 dX12_weighs_243 rfl ?_
            refine pm_aload_n hC 0 (by decide) dX12_weighs_244 rfl ?_
            refine pm_getf (v := y1132) hC 90 fl_X12_220 rfl rfl (by decide) rfl e1157 dX12_weighs_245 ?_
            refine pm_icmp_ge (tgt := 272) hC ⟨by exact ow_83_6 b1150, by exact ow_83_7 b1150⟩ ⟨by exact ow_83_8 b1134, by exact ow_83_9 b1134⟩ dX12_weighs_248 (by decide) (fun c1173 => ?_) (fun c1173 => ?_)
            · skip
              replace hb1168 := hb1168.trans (if_pos c1173)
              replace hb17 := hb17.trans (pf_val_inr hb1168)
              replace hT := hT.trans (pf_val_inr hb17)
              exact pm_vret hC hR ⟨rfl, hV1152, hF1153, (by have h0 := hx1164; have h2 := hx1165; have hx : x1149 = V1151 90 16 := (by exact ow_83_10 e1157 hx1165 c1173); rw [hx] at h0; refine ⟨?_, h0⟩; rw [h0]; obtain ⟨q, q1, q2⟩ := hp1162; exact pm_sum_pos _ (fun j hj => (hV1152.get 112 j (lo := 0) (hi := 80000000) (t := 0) (by decide) (show j < 9 by exact ow_83_11 b1134 e1157 hj) rfl).1) q (by exact ow_83_12 q1) q2), hT⟩ dX12_weighs_272
            · skip
              replace hb1168 := hb1168.trans (if_neg (Int.not_le.mpr c1173))
              refine pm_aload_n hC 0 (by decide) dX12_weighs_251 rfl ?_
              refine pm_dup hC rfl dX12_weighs_252 ?_
              obtain ⟨y1174, e1175⟩ : ∃ y, V1151 90 51 = y := ⟨_, rfl⟩
              have b1176 := hV1152.get 90 51 (lo := 0) (hi := 720000000) (by decide) (by decide) rfl
              rw [e1175] at b1176
              replace hb1168 := hb1168.trans (pf_let_eq e1175)
              refine pm_getf (v := y1174) hC 90 fl_X12_362 rfl rfl (by decide) rfl e1175 dX12_weighs_253 ?_
              refine pm_aload_n hC 0 (by decide) dX12_weighs_256 rfl ?_
              have e1177 : V1151 90 50 = 112 := hV1152.one 90 50 (by decide) (by decide) rfl
              refine pm_getf (v := 112) hC 90 fl_X12_76 rfl rfl (by decide) rfl e1177 dX12_weighs_257 ?_
              refine pm_iload_n hC 3 dX12_weighs_260 rfl ?_
              obtain ⟨y1178, e1179⟩ : ∃ y, V1151 112 (x1149 : Int).toNat = y := ⟨_, rfl⟩
              replace hb1168 := hb1168.trans (pf_let_eq e1179)
              have b1180 := hV1152.get 112 (x1149 : Int).toNat (lo := 0) (hi := 80000000) (t := 0) (by decide) (show _ < 9 by exact ow_83_13 b1134 c1173) rfl
              rw [e1179] at b1180
              refine pm_laload (len := 9) (v := y1178) hC 112 rfl rfl (by decide) ⟨by exact ow_83_14 b1150, by exact ow_83_15 b1134 c1173⟩ (by decide) e1179 dX12_weighs_261 ?_
              refine pm_ladd hC dX12_weighs_262 ?_
              refine pm_putf hC 90 fl_X12_362 rfl rfl rfl (by decide) rfl trivial dX12_weighs_263 ?_
              obtain ⟨x1181, ei1182⟩ : ∃ y : Int, x1149 + 1 = y := ⟨_, rfl⟩
              replace hb1168 := hb1168.trans (pf_let_eq ei1182)
              refine pm_iinc (y := x1181) (lv' := [(3, (0, x1181)), (0, (3, 90)), (1, (0, a1)), (2, (0, x1))]) hC 3 dX12_weighs_266 (by decide) rfl ei1182 rfl ?_
              refine pm_goto (tgt := 243) hC dX12_weighs_269 (by decide) ?_
              refine pm_lvsub [1, 2, 3, 0] (lv' := [(0, (3, 90)), (1, (0, a1)), (2, (0, x1)), (3, (0, x1181))]) rfl ?_
              exact ih1172 _ (by exact ow_83_16 b1134 hm1170 c1173 ei1182) x1181 (pm_up V1151 90 51 (y1174 + y1178)) ⟨by exact ow_83_17 b1150 ei1182, by exact ow_83_18 b1134 c1173 ei1182⟩ (hV1152.put 90 51 (x := (y1174 + y1178)) (lo := 0) (hi := 720000000) rfl ⟨by exact ow_83_19 b1176 b1180, by exact ow_83_105 c638 c639⟩) (hF1153.upf 51 (y1174 + y1178) rfl) e1154 e1155 e1156 e1157 (pm_w1.fr hp1158 rfl rfl rfl rfl rfl) (pm_h1.fr hp1159 rfl rfl) (pm_h2.fr hp1160 rfl rfl rfl) (pm_w3.fr hp1161 rfl rfl rfl rfl) (pm_pos.fr hp1162 rfl rfl) (show (y1174 + y1178) ≤ 80000000 * x1181 by exact ow_83_106 c638 c639) (by have h0 := hx1164; rw [e1175] at h0; have h1 : ((x1181) : Int).toNat = ((x1149) : Int).toNat + 1 := (by exact ow_83_107 c638 c639); show (y1174 + y1178) = pm_sum (V1151 112) ((x1181) : Int).toNat; rw [h1]; show (y1174 + y1178) = pm_sum (V1151 112) ((x1149) : Int).toNat + V1151 112 ((x1149) : Int).toNat; rw [e1179]; exact ow_83_21 h0) (by show x1181 ≤ V1151 90 16; exact ow_83_22 e1157 c1173 ei1182) (hb17.trans (pf_val_inl hb1168)) rfl
          refine pm_lvsub [1, 2, 3, 0] (lv' := [(0, (3, 90)), (1, (0, a1)), (2, (0, x1)), (3, (0, 0))]) rfl ?_
          exact L1169 _ 0 V1135 ⟨by decide, by decide⟩ hV1137 hF1138 e1139 e1140 e1141 e1142 hp1144 hp1145 hp1146 hp1147 hp1148 (by (have e : V1135 90 51 = 0 := e1143); rw [e]; exact ow_83_23) (by rw [e1143]; rfl) (by show 0 ≤ V1135 90 16; exact ow_83_24 b1134 e1142) hb17 rfl
        · skip
          refine pm_tableIn (tgt := 229) (off := 123) hC ⟨by exact ow_83_93 c639, by exact ow_83_4 b2⟩ dX12_weighs_106 (by exact ow_83_94 c639) (by exact ow_83_95 b2) (by rw [c639]; rfl) (by decide) ?_
          replace hb17 := hb17.trans (if_neg (by exact ow_83_96 b2 c639))
          replace hb17 := hb17.trans (if_neg (by exact ow_83_97 c639))
          replace hb17 := hb17.trans (if_neg (by exact ow_83_98 c639))
          replace hb17 := hb17.trans (if_neg (by exact ow_83_99 c639))
          replace hb17 := hb17.trans (if_neg (by exact ow_83_100 c639))
          replace hb17 := hb17.trans (if_neg (by exact ow_83_101 c639))
          replace hb17 := hb17.trans (if_neg (by exact ow_83_102 c639))
          replace hb17 := hb17.trans (if_pos c639)
          refine pm_aload_n hC 0 (by decide) dX12_weighs_229 rfl ?_
          have q1186 : 1 ≤ V5 90 42 ∧ V5 90 42 ≤ 171 := by (have e : V5 90 42 = z0 := e8); rw [e]; exact ⟨by exact ow_83_103 hq0, by exact ow_83_104 hq0⟩
          have q1187 : 1 ≤ V5 90 43 ∧ V5 90 43 ≤ 171 := by (have e : V5 90 43 = z1 := e9); rw [e]; exact ⟨by exact ow_83_103 hq1, by exact ow_83_104 hq1⟩
          refine pm_callV (ci := 12) (as := []) (st := []) hC 90 fB_X12_takesBetween lm_X12_359 li_X12_takesBetween (by decide) (by decide) rfl rfl rfl (by decide) rfl rfl (Nat.le_of_ble_eq_true rfl) ⟨Nat.le_refl _, Or.inl rfl⟩ dX12_weighs_230 ⟨rfl, hV6, q1186, q1187, hp10⟩ (fun r1183 V1184 hp1185 => ?_)
          obtain ⟨rfl, hV1188, hF1189, hg1190, hE1191⟩ := hp1185
          replace hb17 := hb17.trans (pf_call_eq hE1191)
          change pm_J X 233 [(0, (3, 90)), (1, (0, a1)), (2, (0, x1)), (3, (0, x3))] [] 118 V1184
          have hF1192 := pm_fs.tr hF7 hF1189 (by decide) (by decide)
          have e1193 : V1184 90 42 = z0 := by rw [hF1189.2 42 (by decide)]; exact e8
          have e1194 : V1184 90 43 = z1 := by rw [hF1189.2 43 (by decide)]; exact e9
          have e1195 : V1184 90 21 = y22 := by rw [hF1189.2 21 (by decide)]; exact e23
          have hp1196 : pm_w1 V1184 := (pm_w1.fr hp10 (hF1189.2 16 (by decide)) (hF1189.2 48 (by decide)) (hF1189.2 49 (by decide)) (hF1189.1 110 (by decide) (by decide)) (hF1189.1 111 (by decide) (by decide)))
          have hp1197 : pm_h1 V1184 := (pm_h1.fr hp11 (hF1189.2 16 (by decide)) (hF1189.1 97 (by decide) (by decide)))
          have hp1198 : pm_h2 V1184 := (pm_h2.fr hp12 (hF1189.2 16 (by decide)) (hF1189.2 21 (by decide)) (hF1189.1 99 (by decide) (by decide)))
          have hp1199 : pm_w3 V1184 := (pm_w3.fr hp13 (hF1189.2 16 (by decide)) (hF1189.2 46 (by decide)) (hF1189.1 110 (by decide) (by decide)) (hF1189.1 111 (by decide) (by decide)))
          refine pm_goto (tgt := 236) hC dX12_weighs_233 (by decide) ?_
          refine pm_aload_n hC 0 (by decide) dX12_weighs_236 rfl ?_
          refine pm_lconst (x := 0) hC dX12_weighs_237 rfl ?_
          refine pm_putf hC 90 fl_X12_362 rfl rfl rfl (by decide) rfl trivial dX12_weighs_238 ?_
          refine pm_iconst (v := 0) hC dX12_weighs_241 ?_
          obtain ⟨y1200, e1201⟩ : ∃ y, V1184 90 16 = y := ⟨_, rfl⟩
          have b1202 := hV1188.get 90 16 (lo := 2) (hi := 9) (by decide) (by decide) rfl
          rw [e1201] at b1202
          replace hb17 := hb17.trans (pf_let_eq e1201)
          refine pm_istore_n (lv' := [(3, (0, 0)), (0, (3, 90)), (1, (0, a1)), (2, (0, x1))]) hC dX12_weighs_242 (by decide) rfl ?_
          have hV1205 := (hV1188.put 90 51 (x := 0) (lo := 0) (hi := 720000000) rfl ⟨by decide, by decide⟩)
          have hF1206 := (hF1192.upf 51 0 rfl)
          obtain ⟨V1203, hv1204⟩ : ∃ V, V = (pm_up V1184 90 51 0) := ⟨_, rfl⟩
          rw [← hv1204] at hV1205 hF1206
          rw [← hv1204]
          replace hb17 := hb17.trans (pf_let_eq hv1204.symm)
          have e1207 : V1203 90 42 = z0 := by rw [hv1204]; exact e1193
          have e1208 : V1203 90 43 = z1 := by rw [hv1204]; exact e1194
          have e1209 : V1203 90 21 = y22 := by rw [hv1204]; exact e1195
          have e1210 : V1203 90 16 = y1200 := by rw [hv1204]; exact e1201
          have e1211 : V1203 90 51 = 0 := by rw [hv1204]; rfl
          have hp1212 : pm_w1 V1203 := by rw [hv1204]; exact (pm_w1.fr hp1196 rfl rfl rfl rfl rfl)
          have hp1213 : pm_h1 V1203 := by rw [hv1204]; exact (pm_h1.fr hp1197 rfl rfl)
          have hp1214 : pm_h2 V1203 := by rw [hv1204]; exact (pm_h2.fr hp1198 rfl rfl rfl)
          have hp1215 : pm_w3 V1203 := by rw [hv1204]; exact (pm_w3.fr hp1199 rfl rfl rfl rfl)
          have hp1216 : pm_pos V1203 := by rw [hv1204]; exact (pm_pos.fr hg1190 rfl rfl)
          obtain ⟨B1234, hB1235, hb17⟩ := pf_loop hb17
          have L1237 : ∀ (N1239 : Nat) (x1217 : Int) (V1219 : pm_M), (0 ≤ x1217 ∧ x1217 ≤ 9) → pm_oq pm_qB V1219 → pm_fs [112] [51] V0 V1219 → V1219 90 42 = z0 → V1219 90 43 = z1 → V1219 90 21 = y22 → V1219 90 16 = y1200 → pm_w1 V1219 → pm_h1 V1219 → pm_h2 V1219 → pm_w3 V1219 → pm_pos V1219 → (V1219 90 51 ≤ 80000000 * x1217) → (V1219 90 51 = pm_sum (V1219 112) ((x1217) : Int).toNat) → (x1217 ≤ V1219 90 16) → B15 (x1, x3, V5) = pf_val (.inr ((0 : Int), V0)) B1234 (x1217, V1219) → (Int.toNat (9 - x1217)) = N1239 → pm_J X 243 [(0, (3, 90)), (1, (0, a1)), (2, (0, x1)), (3, (0, x1217))] [] 118 V1219 := by
            intro N1239
            induction N1239 using Nat.strongRecOn with
            | _ N1239 ih1240 =>
            intro x1217 V1219 b1218 hV1220 hF1221 e1222 e1223 e1224 e1225 hp1226 hp1227 hp1228 hp1229 hp1230 hm1231 hx1232 hx1233 hb17 hm1238
            have hb1236 := congrFun hB1235 (x1217, V1219)
            refine pm_iload_n hC 3 dX12_weighs_243 rfl ?_
            refine pm_aload_n hC 0 (by decide) dX12_weighs_244 rfl ?_
            refine pm_getf (v := y1200) hC 90 fl_X12_220 rfl rfl (by decide) rfl e1225 dX12_weighs_245 ?_
            refine pm_icmp_ge (tgt := 272) hC ⟨by exact ow_83_6 b1218, by exact ow_83_7 b1218⟩ ⟨by exact ow_83_8 b1202, by exact ow_83_9 b1202⟩ dX12_weighs_248 (by decide) (fun c1241 => ?_) (fun c1241 => ?_)
            · skip
              replace hb1236 := hb1236.trans (if_pos c1241)
              replace hb17 := hb17.trans (pf_val_inr hb1236)
              replace hT := hT.trans (pf_val_inr hb17)
              exact pm_vret hC hR ⟨rfl, hV1220, hF1221, (by have h0 := hx1232; have h2 := hx1233; have hx : x1217 = V1219 90 16 := (by exact ow_83_10 e1225 hx1233 c1241); rw [hx] at h0; refine ⟨?_, h0⟩; rw [h0]; obtain ⟨q, q1, q2⟩ := hp1230; exact pm_sum_pos _ (fun j hj => (hV1220.get 112 j (lo := 0) (hi := 80000000) (t := 0) (by decide) (show j < 9 by exact ow_83_11 b1202 e1225 hj) rfl).1) q (by exact ow_83_12 q1) q2), hT⟩ dX12_weighs_272
            · skip
              replace hb1236 := hb1236.trans (if_neg (Int.not_le.mpr c1241))
              refine pm_aload_n hC 0 (by decide) dX12_weighs_251 rfl ?_
              refine pm_dup hC rfl dX12_weighs_252 ?_
              obtain ⟨y1242, e1243⟩ : ∃ y, V1219 90 51 = y := ⟨_, rfl⟩
              have b1244 := hV1220.get 90 51 (lo := 0) (hi := 720000000) (by decide) (by decide) rfl
              rw [e1243] at b1244
              replace hb1236 := hb1236.trans (pf_let_eq e1243)
              refine pm_getf (v := y1242) hC 90 fl_X12_362 rfl rfl (by decide) rfl e1243 dX12_weighs_253 ?_
              refine pm_aload_n hC 0 (by decide) dX12_weighs_256 rfl ?_
              have e1245 : V1219 90 50 = 112 := hV1220.one 90 50 (by decide) (by decide) rfl
              refine pm_getf (v := 112) hC 90 fl_X12_76 rfl rfl (by decide) rfl e1245 dX12_weighs_257 ?_
              refine pm_iload_n hC 3 dX12_weighs_260 rfl ?_
              obtain ⟨y1246, e1247⟩ : ∃ y, V1219 112 (x1217 : Int).toNat = y := ⟨_, rfl⟩
              replace hb1236 := hb1236.trans (pf_let_eq e1247)
              have b1248 := hV1220.get 112 (x1217 : Int).toNat (lo := 0) (hi := 80000000) (t := 0) (by decide) (show _ < 9 by exact ow_83_13 b1202 c1241) rfl
              rw [e1247] at b1248
              refine pm_laload (len := 9) (v := y1246) hC 112 rfl rfl (by decide) ⟨by exact ow_83_37 hm1231 e1243 b1244, by exact ow_83_15 b1202 c1241⟩ (by decide) e1247 dX12_weighs_261 ?_
              refine pm_ladd hC dX12_weighs_262 ?_
              refine pm_putf hC 90 fl_X12_362 rfl rfl rfl (by decide) rfl trivial dX12_weighs_263 ?_
              obtain ⟨x1249, ei1250⟩ : ∃ y : Int, x1217 + 1 = y := ⟨_, rfl⟩
              replace hb1236 := hb1236.trans (pf_let_eq ei1250)
              refine pm_iinc (y := x1249) (lv' := [(3, (0, x1249)), (0, (3, 90)), (1, (0, a1)), (2, (0, x1))]) hC 3 dX12_weighs_266 (by decide) rfl ei1250 rfl ?_
              refine pm_goto (tgt := 243) hC dX12_weighs_269 (by decide) ?_
              refine pm_lvsub [1, 2, 3, 0] (lv' := [(0, (3, 90)), (1, (0, a1)), (2, (0, x1)), (3, (0, x1249))]) rfl ?_
              exact ih1240 _ (by exact ow_83_16 b1202 hm1238 c1241 ei1250) x1249 (pm_up V1219 90 51 (y1242 + y1246)) ⟨by exact ow_83_38 hm1231 e1243 b1244 ei1250, by exact ow_83_18 b1202 c1241 ei1250⟩ (hV1220.put 90 51 (x := (y1242 + y1246)) (lo := 0) (hi := 720000000) rfl ⟨by exact ow_83_19 b1244 b1248, by omega⟩) (hF1221.upf 51 (y1242 + y1246) rfl) e1222 e1223 e1224 e1225 (pm_w1.fr hp1226 rfl rfl rfl rfl rfl) (pm_h1.fr hp1227 rfl rfl) (pm_h2.fr hp1228 rfl rfl rfl) (pm_w3.fr hp1229 rfl rfl rfl rfl) (pm_pos.fr hp1230 rfl rfl) (show (y1242 + y1246) ≤ 80000000 * x1249 by omega) (by have h0 := hx1232; rw [e1243] at h0; have h1 : ((x1249) : Int).toNat = ((x1217) : Int).toNat + 1 := (by exact ow_83_82 hm1231 e1243 b1244 ei1250); show (y1242 + y1246) = pm_sum (V1219 112) ((x1249) : Int).toNat; rw [h1]; show (y1242 + y1246) = pm_sum (V1219 112) ((x1217) : Int).toNat + V1219 112 ((x1217) : Int).toNat; rw [e1247]; exact ow_83_21 h0) (by show x1249 ≤ V1219 90 16; exact ow_83_22 e1225 c1241 ei1250) (hb17.trans (pf_val_inl hb1236)) rfl
          refine pm_lvsub [1, 2, 3, 0] (lv' := [(0, (3, 90)), (1, (0, a1)), (2, (0, x1)), (3, (0, 0))]) rfl ?_
          exact L1237 _ 0 V1203 ⟨by decide, by decide⟩ hV1205 hF1206 e1207 e1208 e1209 e1210 hp1212 hp1213 hp1214 hp1215 hp1216 (by (have e : V1203 90 51 = 0 := e1211); rw [e]; exact ow_83_23) (by rw [e1211]; rfl) (by show 0 ≤ V1203 90 16; exact ow_83_24 b1202 e1210) hb17 rfl
      · skip
        replace hb17 := hb17.trans (if_neg (fun q => q c638))
        refine pm_aload_n hC 0 (by decide) dX12_weighs_17 rfl ?_
        have e1251 : V5 90 22 = 99 := hV6.one 90 22 (by decide) (by decide) rfl
        refine pm_getf (v := 99) hC 90 fl_X12_37 rfl rfl (by decide) rfl e1251 dX12_weighs_18 ?_
        refine pm_iconst (v := 3) hC dX12_weighs_21 ?_
        refine pm_iload_n hC 3 dX12_weighs_22 rfl ?_
        refine pm_imul hC dX12_weighs_23 ?_
        obtain ⟨y1252, e1253⟩ : ∃ y, V5 99 ((3 * x3) : Int).toNat = y := ⟨_, rfl⟩
        replace hb17 := hb17.trans (pf_let_eq e1253)
        have b1254 := hV6.get 99 ((3 * x3) : Int).toNat (lo := (-1)) (hi := 8) (t := 0) (by decide) (show _ < 36 by exact ow_83_108 b24 c25) rfl
        rw [e1253] at b1254
        refine pm_iaload (len := 36) (v := y1252) hC 99 rfl rfl (by decide) ⟨by exact ow_83_109 b4, by exact ow_83_110 b24 c25⟩ (by decide) e1253 dX12_weighs_24 ?_
        refine pm_aload_n hC 0 (by decide) dX12_weighs_25 rfl ?_
        obtain ⟨y1255, e1256⟩ : ∃ y, V5 90 48 = y := ⟨_, rfl⟩
        have b1257 := hV6.get 90 48 (lo := 0) (hi := 8) (by decide) (by decide) rfl
        rw [e1256] at b1257
        replace hb17 := hb17.trans (pf_let_eq e1256)
        refine pm_getf (v := y1255) hC 90 fl_X12_305 rfl rfl (by decide) rfl e1256 dX12_weighs_26 ?_
        refine pm_icmp_ne (tgt := 99) hC ⟨by exact ow_83_111 b1254, by exact ow_83_112 b1254⟩ ⟨by exact ow_83_113 b1257, by exact ow_83_114 b1257⟩ dX12_weighs_29 (by decide) (fun c1258 => ?_) (fun c1258 => ?_)
        · skip
          replace hb17 := hb17.trans (if_pos c1258)
          obtain ⟨x1259, ei1260⟩ : ∃ y : Int, x3 + 1 = y := ⟨_, rfl⟩
          replace hb17 := hb17.trans (pf_let_eq ei1260)
          refine pm_iinc (y := x1259) (lv' := [(3, (0, x1259)), (0, (3, 90)), (1, (0, a1)), (2, (0, x1))]) hC 3 dX12_weighs_99 (by decide) rfl ei1260 rfl ?_
          refine pm_goto (tgt := 4) hC dX12_weighs_102 (by decide) ?_
          refine pm_lvsub [1, 2, 3, 0] (lv' := [(0, (3, 90)), (1, (0, a1)), (2, (0, x1)), (3, (0, x1259))]) rfl ?_
          exact ih21 _ (by exact ow_83_115 hm19 b24 c25 ei1260) x1 x1259 V5 ⟨by exact ow_83_116 c638, by exact ow_83_86 c638⟩ ⟨by exact ow_83_117 b4 ei1260, by exact ow_83_118 b24 c25 ei1260⟩ hV6 hF7 e8 e9 hp10 hp11 hp12 hp13 (fun h => hx14 h) (hT.trans (pf_val_inl hb17)) rfl
        · skip
          replace hb17 := hb17.trans (if_neg (fun q => q c1258))
          refine pm_aload_n hC 0 (by decide) dX12_weighs_32 rfl ?_
          refine pm_getf (v := 99) hC 90 fl_X12_37 rfl rfl (by decide) rfl e1251 dX12_weighs_33 ?_
          refine pm_iconst (v := 3) hC dX12_weighs_36 ?_
          refine pm_iload_n hC 3 dX12_weighs_37 rfl ?_
          refine pm_imul hC dX12_weighs_38 ?_
          refine pm_iconst (v := 1) hC dX12_weighs_39 ?_
          refine pm_iadd hC dX12_weighs_40 ?_
          obtain ⟨y1261, e1262⟩ : ∃ y, V5 99 (((3 * x3) + 1) : Int).toNat = y := ⟨_, rfl⟩
          replace hb17 := hb17.trans (pf_let_eq e1262)
          have b1263 := hV6.get 99 (((3 * x3) + 1) : Int).toNat (lo := (-1)) (hi := 8) (t := 0) (by decide) (show _ < 36 by exact ow_83_119 b24 c25) rfl
          rw [e1262] at b1263
          refine pm_iaload (len := 36) (v := y1261) hC 99 rfl rfl (by decide) ⟨by exact ow_83_120 b4, by exact ow_83_121 b24 c25⟩ (by decide) e1262 dX12_weighs_41 ?_
          refine pm_aload_n hC 0 (by decide) dX12_weighs_42 rfl ?_
          obtain ⟨y1264, e1265⟩ : ∃ y, V5 90 49 = y := ⟨_, rfl⟩
          have b1266 := hV6.get 90 49 (lo := 0) (hi := 8) (by decide) (by decide) rfl
          rw [e1265] at b1266
          replace hb17 := hb17.trans (pf_let_eq e1265)
          refine pm_getf (v := y1264) hC 90 fl_X12_308 rfl rfl (by decide) rfl e1265 dX12_weighs_43 ?_
          refine pm_icmp_eq (tgt := 52) hC ⟨by exact ow_83_111 b1263, by exact ow_83_112 b1263⟩ ⟨by exact ow_83_113 b1266, by exact ow_83_114 b1266⟩ dX12_weighs_46 (by decide) (fun c1267 => ?_) (fun c1267 => ?_)
          · skip
            replace hb17 := hb17.trans (if_pos c1267)
            obtain ⟨y1268, e1269⟩ : ∃ y, V5 90 16 = y := ⟨_, rfl⟩
            have b1270 := hV6.get 90 16 (lo := 2) (hi := 9) (by decide) (by decide) rfl
            rw [e1269] at b1270
            replace hb17 := hb17.trans (pf_let_eq e1269)
            obtain ⟨sd1271, esd1272⟩ : ∃ z, V5 99 (((3 * x3) + 2) : Int).toNat = z := ⟨_, rfl⟩
            have hs1273 := hp12 x3 (by exact ow_83_122 b4) (by exact ow_83_123 e23 c25)
            rw [esd1272, (show V5 90 16 = y1268 from e1269)] at hs1273
            refine pm_iconst (v := 0) hC dX12_weighs_52 ?_
            refine pm_istore (lv' := [(4, (0, 0)), (0, (3, 90)), (1, (0, a1)), (2, (0, x1)), (3, (0, x3))]) hC dX12_weighs_53 (by decide) rfl ?_
            obtain ⟨B1292, hB1293, hb17⟩ := pf_loop hb17
            have L1295 : ∀ (N1297 : Nat) (x1274 : Int) (V1276 : pm_M), (0 ≤ x1274 ∧ x1274 ≤ 9) → pm_oq pm_qB V1276 → pm_fs [112] [51] V0 V1276 → V1276 90 42 = z0 → V1276 90 43 = z1 → V1276 90 21 = y22 → V1276 90 22 = 99 → V1276 90 48 = y1255 → V1276 90 49 = y1264 → V1276 90 16 = y1268 → pm_w1 V1276 → pm_h1 V1276 → pm_h2 V1276 → pm_w3 V1276 → (sd1271 < x1274 → 1 ≤ V1276 112 (sd1271).toNat) → (V1276 99 (((3 * x3) + 2) : Int).toNat = sd1271) → B15 (x1, x3, V5) = pf_val (.inr ((0 : Int), V0)) B1292 (x1274, V1276) → (Int.toNat (9 - x1274)) = N1297 → pm_J X 55 [(0, (3, 90)), (1, (0, a1)), (2, (0, x1)), (3, (0, x3)), (4, (0, x1274))] [] 118 V1276 := by
              intro N1297
              induction N1297 using Nat.strongRecOn with
              | _ N1297 ih1298 =>
              intro x1274 V1276 b1275 hV1277 hF1278 e1279 e1280 e1281 e1282 e1283 e1284 e1285 hp1286 hp1287 hp1288 hp1289 hx1290 hx1291 hb17 hm1296
              have hb1294 := congrFun hB1293 (x1274, V1276)
              refine pm_iload hC 4 dX12_weighs_55 rfl ?_
              refine pm_aload_n hC 0 (by decide) dX12_weighs_57 rfl ?_
              refine pm_getf (v := y1268) hC 90 fl_X12_220 rfl rfl (by decide) rfl e1285 dX12_weighs_58 ?_
              refine pm_icmp_ge (tgt := 97) hC ⟨by exact ow_83_6 b1275, by exact ow_83_7 b1275⟩ ⟨by exact ow_83_8 b1270, by exact ow_83_9 b1270⟩ dX12_weighs_61 (by decide) (fun c1299 => ?_) (fun c1299 => ?_)
              · skip
                replace hb1294 := hb1294.trans (if_pos c1299)
                refine pm_iconst (v := (-1)) hC dX12_weighs_97 ?_
                refine pm_istore_n (lv' := [(2, (0, (-1))), (0, (3, 90)), (1, (0, a1)), (3, (0, x3)), (4, (0, x1274))]) hC dX12_weighs_98 (by decide) rfl ?_
                obtain ⟨x1300, ei1301⟩ : ∃ y : Int, x3 + 1 = y := ⟨_, rfl⟩
                replace hb1294 := hb1294.trans (pf_let_eq ei1301)
                refine pm_iinc (y := x1300) (lv' := [(3, (0, x1300)), (2, (0, (-1))), (0, (3, 90)), (1, (0, a1)), (4, (0, x1274))]) hC 3 dX12_weighs_99 (by decide) rfl ei1301 rfl ?_
                refine pm_goto (tgt := 4) hC dX12_weighs_102 (by decide) ?_
                replace hb17 := hb17.trans (pf_val_inr hb1294)
                refine pm_lvsub [2, 3, 1, 0] (lv' := [(0, (3, 90)), (1, (0, a1)), (2, (0, (-1))), (3, (0, x1300))]) rfl ?_
                exact ih21 _ (by exact ow_83_115 hm19 b24 c25 ei1301) (-1) x1300 V1276 ⟨by decide, by decide⟩ ⟨by exact ow_83_117 b4 ei1301, by exact ow_83_118 b24 c25 ei1301⟩ hV1277 hF1278 e1279 e1280 hp1286 hp1287 hp1288 hp1289 (fun _ => ⟨(sd1271).toNat, by rw [e1285]; exact ow_83_124 b1270 hs1273, hx1290 (by exact ow_83_125 hs1273 c1299)⟩) (hT.trans (pf_val_inl hb17)) rfl
              · skip
                replace hb1294 := hb1294.trans (if_neg (Int.not_le.mpr c1299))
                refine pm_aload_n hC 0 (by decide) dX12_weighs_64 rfl ?_
                have e1302 : V1276 90 50 = 112 := hV1277.one 90 50 (by decide) (by decide) rfl
                refine pm_getf (v := 112) hC 90 fl_X12_76 rfl rfl (by decide) rfl e1302 dX12_weighs_65 ?_
                refine pm_iload hC 4 dX12_weighs_68 rfl ?_
                refine pm_iload hC 4 dX12_weighs_70 rfl ?_
                refine pm_aload_n hC 0 (by decide) dX12_weighs_72 rfl ?_
                refine pm_getf (v := 99) hC 90 fl_X12_37 rfl rfl (by decide) rfl e1282 dX12_weighs_73 ?_
                refine pm_iconst (v := 3) hC dX12_weighs_76 ?_
                refine pm_iload_n hC 3 dX12_weighs_77 rfl ?_
                refine pm_imul hC dX12_weighs_78 ?_
                refine pm_iconst (v := 2) hC dX12_weighs_79 ?_
                refine pm_iadd hC dX12_weighs_80 ?_
                obtain ⟨y1303, e1304⟩ : ∃ y, V1276 99 (((3 * x3) + 2) : Int).toNat = y := ⟨_, rfl⟩
                replace hb1294 := hb1294.trans (pf_let_eq e1304)
                have b1305 := hV1277.get 99 (((3 * x3) + 2) : Int).toNat (lo := (-1)) (hi := 8) (t := 0) (by decide) (show _ < 36 by exact ow_83_126 b24 c25) rfl
                rw [e1304] at b1305
                refine pm_iaload (len := 36) (v := y1303) hC 99 rfl rfl (by decide) ⟨by exact ow_83_127 b4, by exact ow_83_128 b24 c25⟩ (by decide) e1304 dX12_weighs_81 ?_
                refine pm_icmp_ne (tgt := 89) hC ⟨by exact ow_83_6 b1275, by exact ow_83_7 b1275⟩ ⟨by exact ow_83_111 b1305, by exact ow_83_112 b1305⟩ dX12_weighs_82 (by decide) (fun c1306 => ?_) (fun c1306 => ?_)
                · skip
                  replace hb1294 := hb1294.trans (if_pos c1306)
                  refine pm_lconst (x := 0) hC dX12_weighs_89 rfl ?_
                  refine pm_lastore (len := 9) hC 112 rfl rfl (by decide) ⟨by exact ow_83_14 b1275, by exact ow_83_15 b1270 c1299⟩ (by decide) dX12_weighs_90 ?_
                  obtain ⟨x1307, ei1308⟩ : ∃ y : Int, x1274 + 1 = y := ⟨_, rfl⟩
                  replace hb1294 := hb1294.trans (pf_let_eq ei1308)
                  refine pm_iinc (y := x1307) (lv' := [(4, (0, x1307)), (0, (3, 90)), (1, (0, a1)), (2, (0, x1)), (3, (0, x3))]) hC 4 dX12_weighs_91 (by decide) rfl ei1308 rfl ?_
                  refine pm_goto (tgt := 55) hC dX12_weighs_94 (by decide) ?_
                  refine pm_lvsub [1, 2, 3, 4, 0] (lv' := [(0, (3, 90)), (1, (0, a1)), (2, (0, x1)), (3, (0, x3)), (4, (0, x1307))]) rfl ?_
                  exact ih1298 _ (by exact ow_83_16 b1270 hm1296 c1299 ei1308) x1307 (pm_up V1276 112 (x1274 : Int).toNat 0) ⟨by exact ow_83_17 b1275 ei1308, by exact ow_83_18 b1270 c1299 ei1308⟩ (hV1277.put 112 (x1274 : Int).toNat (x := 0) (lo := 0) (hi := 80000000) rfl ⟨by decide, by decide⟩) (hF1278.up 112 (x1274 : Int).toNat 0 (by decide) rfl) e1279 e1280 e1281 e1282 e1283 e1284 e1285 (pm_w1.fr hp1286 rfl rfl rfl rfl rfl) (pm_h1.fr hp1287 rfl rfl) (pm_h2.fr hp1288 rfl rfl rfl) (pm_w3.fr hp1289 rfl rfl rfl rfl) (fun h => pm_up_get (V := V1276) (k := 112) (i := x1274) (a := sd1271) (x := 0) (p := fun z => 1 ≤ z) (by exact ow_83_14 b1275) (by exact ow_83_129 hs1273) (fun hq => by exact ow_83_130 hx1291 e1304 c1306 hq) (fun hne => hx1290 (by exact ow_83_131 hx1291 e1304 c1306 ei1308 h))) hx1291 (hb17.trans (pf_val_inl hb1294)) rfl
                · skip
                  replace hb1294 := hb1294.trans (if_neg (fun q => q c1306))
                  refine pm_lconst (x := 1) hC dX12_weighs_85 rfl ?_
                  refine pm_goto (tgt := 90) hC dX12_weighs_86 (by decide) ?_
                  refine pm_lastore (len := 9) hC 112 rfl rfl (by decide) ⟨by exact ow_83_14 b1275, by exact ow_83_15 b1270 c1299⟩ (by decide) dX12_weighs_90 ?_
                  obtain ⟨x1309, ei1310⟩ : ∃ y : Int, x1274 + 1 = y := ⟨_, rfl⟩
                  replace hb1294 := hb1294.trans (pf_let_eq ei1310)
                  refine pm_iinc (y := x1309) (lv' := [(4, (0, x1309)), (0, (3, 90)), (1, (0, a1)), (2, (0, x1)), (3, (0, x3))]) hC 4 dX12_weighs_91 (by decide) rfl ei1310 rfl ?_
                  refine pm_goto (tgt := 55) hC dX12_weighs_94 (by decide) ?_
                  refine pm_lvsub [1, 2, 3, 4, 0] (lv' := [(0, (3, 90)), (1, (0, a1)), (2, (0, x1)), (3, (0, x3)), (4, (0, x1309))]) rfl ?_
                  exact ih1298 _ (by exact ow_83_16 b1270 hm1296 c1299 ei1310) x1309 (pm_up V1276 112 (x1274 : Int).toNat 1) ⟨by exact ow_83_17 b1275 ei1310, by exact ow_83_18 b1270 c1299 ei1310⟩ (hV1277.put 112 (x1274 : Int).toNat (x := 1) (lo := 0) (hi := 80000000) rfl ⟨by decide, by decide⟩) (hF1278.up 112 (x1274 : Int).toNat 1 (by decide) rfl) e1279 e1280 e1281 e1282 e1283 e1284 e1285 (pm_w1.fr hp1286 rfl rfl rfl rfl rfl) (pm_h1.fr hp1287 rfl rfl) (pm_h2.fr hp1288 rfl rfl rfl) (pm_w3.fr hp1289 rfl rfl rfl rfl) (fun h => pm_up_get (V := V1276) (k := 112) (i := x1274) (a := sd1271) (x := 1) (p := fun z => 1 ≤ z) (by exact ow_83_14 b1275) (by exact ow_83_129 hs1273) (fun hq => by exact ow_83_132) (fun hne => hx1290 (by exact ow_83_133 ei1310 h hne))) hx1291 (hb17.trans (pf_val_inl hb1294)) rfl
            refine pm_lvsub [1, 2, 3, 4, 0] (lv' := [(0, (3, 90)), (1, (0, a1)), (2, (0, x1)), (3, (0, x3)), (4, (0, 0))]) rfl ?_
            exact L1295 _ 0 V5 ⟨by decide, by decide⟩ hV6 hF7 e8 e9 e23 e1251 e1256 e1265 e1269 hp10 hp11 hp12 hp13 (fun h => absurd h (by exact ow_83_134 hs1273 h)) esd1272 hb17 rfl
          · skip
            replace hb17 := hb17.trans (if_neg c1267)
            refine pm_goto (tgt := 99) hC dX12_weighs_49 (by decide) ?_
            obtain ⟨x1311, ei1312⟩ : ∃ y : Int, x3 + 1 = y := ⟨_, rfl⟩
            replace hb17 := hb17.trans (pf_let_eq ei1312)
            refine pm_iinc (y := x1311) (lv' := [(3, (0, x1311)), (0, (3, 90)), (1, (0, a1)), (2, (0, x1))]) hC 3 dX12_weighs_99 (by decide) rfl ei1312 rfl ?_
            refine pm_goto (tgt := 4) hC dX12_weighs_102 (by decide) ?_
            refine pm_lvsub [1, 2, 3, 0] (lv' := [(0, (3, 90)), (1, (0, a1)), (2, (0, x1)), (3, (0, x1311))]) rfl ?_
            exact ih21 _ (by exact ow_83_115 hm19 b24 c25 ei1312) x1 x1311 V5 ⟨by exact ow_83_116 c638, by exact ow_83_86 c638⟩ ⟨by exact ow_83_117 b4 ei1312, by exact ow_83_118 b24 c25 ei1312⟩ hV6 hF7 e8 e9 hp10 hp11 hp12 hp13 (fun h => hx14 h) (hT.trans (pf_val_inl hb17)) rfl
  refine pm_lvsub [2, 3, 1, 0] (lv' := [(0, (3, 90)), (1, (0, a1)), (2, (0, a1)), (3, (0, 0))]) rfl ?_
  exact L18 _ a1 0 V0 ⟨by exact ow_83_135 h0, by exact ow_83_136 h0⟩ ⟨by decide, by decide⟩ hV0 (pm_fs.rf (cs := [112]) (fs := [51]) (V := V0)) ez0 ez1 hn_pm_w1 hn_pm_h1 hn_pm_h2 hn_pm_w3 (fun h => absurd h (by exact ow_83_137 h0)) hT rfl
