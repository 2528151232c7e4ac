theorem ow_88_0 {a0 a1 a2 : Int} (h0 : (a0 = (a1 : Int))) (h1 : (a2 = (a1 : Int))) : (a2 = (a0 : Int)) := by omega
theorem ow_88_1 {a0 : Int} (h0 : ((0 ≤ (a0 : Int)) ∧ (a0 ≤ (181 : Int)))) : ((-2147483648) ≤ (a0 : Int)) := by omega
theorem ow_88_2 {a0 : Int} (h0 : ((0 ≤ (a0 : Int)) ∧ (a0 ≤ (181 : Int)))) : (a0 ≤ (2147483647 : Int)) := by omega
theorem ow_88_3 {a0 : Int} (h0 : ((1 ≤ (a0 : Int)) ∧ (a0 ≤ (181 : Int)))) : ((-2147483648) ≤ (a0 : Int)) := by omega
theorem ow_88_4 {a0 : Int} (h0 : ((1 ≤ (a0 : Int)) ∧ (a0 ≤ (181 : Int)))) : (a0 ≤ (2147483647 : Int)) := by omega
theorem ow_88_5 {a0 : Int} (h0 : ((0 ≤ (a0 : Int)) ∧ (a0 ≤ (720000000 : Int)))) : ((-9223372036854775808) ≤ (a0 : Int)) := by omega
theorem ow_88_6 {a0 : Int} (h0 : ((0 ≤ (a0 : Int)) ∧ (a0 ≤ (720000000 : Int)))) : (a0 ≤ (9223372036854775807 : Int)) := by omega
theorem ow_88_7 {a0 a1 : Int} (h0 : (((a0 = (1 : Int)) ∧ (0 < (a1 : Int))) ∨ (((a0 = (0 : Int)) ∧ (a1 = (0 : Int))) ∨ ((a0 = ((-1) : Int)) ∧ (a1 < (0 : Int)))))) : ((-2147483648) ≤ (a0 : Int)) := by omega
theorem ow_88_8 {a0 a1 : Int} (h0 : (((a0 = (1 : Int)) ∧ (0 < (a1 : Int))) ∨ (((a0 = (0 : Int)) ∧ (a1 = (0 : Int))) ∨ ((a0 = ((-1) : Int)) ∧ (a1 < (0 : Int)))))) : (a0 ≤ (2147483647 : Int)) := by omega
theorem ow_88_9 {a0 : Int} (h0 : ((0 ≤ (a0 : Int)) ∧ (a0 ≤ (600 : Int)))) : ((-2147483648) ≤ (a0 : Int)) := by omega
theorem ow_88_10 {a0 : Int} (h0 : ((0 ≤ (a0 : Int)) ∧ (a0 ≤ (600 : Int)))) : (a0 ≤ (2147483647 : Int)) := by omega
theorem ow_88_11 {a0 a1 a2 a3 : Int} (h0 : ((1 ≤ (a0 : Int)) ∧ (a0 ≤ (181 : Int)))) (h1 : (a1 = (a0 : Int))) (h2 : ((1 ≤ (a2 : Int)) ∧ (a2 ≤ ((a0 + 3) : Int)))) (h3 : (a2 = (a3 : Int))) (h4 : (a3 ≤ (1 : Int))) : ((1 ≤ (a2 : Int)) ∧ (a2 ≤ ((a1 + 3) : Int))) := by omega
theorem ow_88_12 {a0 : Int} (h0 : ((0 ≤ (a0 : Int)) ∧ (a0 ≤ (600 : Int)))) : ((((0 + a0) - 1) : Int).toNat < (2400 : Nat)) := by omega
theorem ow_88_13 {a0 : Int} (h0 : (1 < (a0 : Int))) : (0 ≤ (((0 + a0) - 1) : Int)) := by omega
theorem ow_88_14 {a0 : Int} (h0 : ((0 ≤ (a0 : Int)) ∧ (a0 ≤ (600 : Int)))) : (((0 + a0) - 1) < (((2400 : Nat) : Int) : Int)) := by omega
theorem ow_88_15 {a0 : Int} (h0 : ((0 ≤ (a0 : Int)) ∧ (a0 ≤ (9999 : Int)))) : ((-2147483648) ≤ (a0 : Int)) := by omega
theorem ow_88_16 {a0 : Int} (h0 : ((0 ≤ (a0 : Int)) ∧ (a0 ≤ (9999 : Int)))) : (a0 ≤ (2147483647 : Int)) := by omega
theorem ow_88_17 {a0 a1 a2 a3 : Int} (h0 : (a0 = (a1 : Int))) (h1 : ((1 ≤ (a2 : Int)) ∧ (a2 ≤ ((a1 + 3) : Int)))) (h2 : (a2 = (a3 : Int))) (h3 : (1 < (a3 : Int))) : ((1 ≤ (a2 : Int)) ∧ (a2 ≤ ((a0 + 3) : Int))) := by omega
theorem ow_88_18 {a0 a2 : Int} {k1 : Nat} (h0 : ((a0 : Int).toNat = (k1 : Nat))) (h1 : (a0 = (a2 : Int))) (h2 : (1 < (a2 : Int))) : (((a2 - 1) : Int).toNat < (k1 : Nat)) := by omega
theorem ow_88_19 {a0 : Int} (h0 : (1 < (a0 : Int))) : (0 ≤ ((a0 - 1) : Int)) := by omega
theorem ow_88_20 {a0 a1 a2 : Int} (h0 : ((1 ≤ (a0 : Int)) ∧ (a0 ≤ (181 : Int)))) (h1 : ((1 ≤ (a1 : Int)) ∧ (a1 ≤ ((a0 + 3) : Int)))) (h2 : (a1 = (a2 : Int))) : ((a2 - 1) ≤ (600 : Int)) := by omega
theorem ow_88_21 {a0 a1 a2 : Int} (h0 : ((1 ≤ (a0 : Int)) ∧ (a0 ≤ ((a1 + 3) : Int)))) (h1 : (a0 = (a2 : Int))) (h2 : (1 < (a2 : Int))) : ((1 ≤ ((a2 - 1) : Int)) ∧ ((a2 - 1) ≤ ((a1 + 3) : Int))) := by omega
theorem ow_88_22 {a0 a1 a2 a3 : Int} (h0 : ((1 ≤ (a0 : Int)) ∧ ((a0 ≤ ((a1 + 3) : Int)) ∧ (((1 ≤ (a2 : Int)) → (a0 ≤ ((a1 + 2) : Int))) ∧ (((8 ≤ (a2 : Int)) → (a0 ≤ ((a1 + 1) : Int))) ∧ ((72001 ≤ (a2 : Int)) → (a0 ≤ (a1 : Int)))))))) (h1 : (a0 = (a3 : Int))) : ((1 ≤ (a3 : Int)) ∧ (a3 ≤ ((a1 + 3) : Int))) := by omega
theorem ow_88_23 {a0 : Int} (h0 : ((0 ≤ (a0 : Int)) ∧ (a0 ≤ (720000000 : Int)))) : (0 ≤ (a0 : Int)) := by omega
theorem ow_88_24 {a0 a1 a2 a3 : Int} (h0 : ((1 ≤ (a0 : Int)) ∧ ((a0 ≤ ((a1 + 3) : Int)) ∧ (((1 ≤ (a2 : Int)) → (a0 ≤ ((a1 + 2) : Int))) ∧ (((8 ≤ (a2 : Int)) → (a0 ≤ ((a1 + 1) : Int))) ∧ ((72001 ≤ (a2 : Int)) → (a0 ≤ (a1 : Int)))))))) (h1 : (a0 = (a3 : Int))) : (0 ≤ ((0 + a3) : Int)) := by omega
theorem ow_88_25 {a0 : Int} (h0 : ((0 ≤ (a0 : Int)) ∧ (a0 ≤ (600 : Int)))) : ((0 + a0) < (((2400 : Nat) : Int) : Int)) := by omega
theorem ow_88_26 {a0 a2 : Int} {k1 : Nat} (h0 : ((a0 : Int).toNat = (k1 : Nat))) (h1 : (((a2 = (1 : Int)) ∧ (0 < (a0 : Int))) ∨ (((a2 = (0 : Int)) ∧ (a0 = (0 : Int))) ∨ ((a2 = ((-1) : Int)) ∧ (a0 < (0 : Int)))))) (h2 : (0 < (a2 : Int))) : (((a0 / 10000) : Int).toNat < (k1 : Nat)) := by omega
theorem ow_88_27 {a0 : Int} (h0 : ((0 ≤ (a0 : Int)) ∧ (a0 ≤ (720000000 : Int)))) : (0 ≤ ((a0 / 10000) : Int)) := by omega
theorem ow_88_28 {a0 : Int} (h0 : ((0 ≤ (a0 : Int)) ∧ (a0 ≤ (720000000 : Int)))) : ((a0 / 10000) ≤ (720000000 : Int)) := by omega
theorem ow_88_29 {a0 : Int} : (0 ≤ ((a0 % 10000) : Int)) := by omega
theorem ow_88_30 {a0 : Int} : ((a0 % 10000) ≤ (9999 : Int)) := by omega
theorem ow_88_31 {a0 a1 a2 a3 : Int} (h0 : ((1 ≤ (a0 : Int)) ∧ ((a0 ≤ ((a1 + 3) : Int)) ∧ (((1 ≤ (a2 : Int)) → (a0 ≤ ((a1 + 2) : Int))) ∧ (((8 ≤ (a2 : Int)) → (a0 ≤ ((a1 + 1) : Int))) ∧ ((72001 ≤ (a2 : Int)) → (a0 ≤ (a1 : Int)))))))) (h1 : (a0 = (a3 : Int))) : (0 ≤ ((a3 + 1) : Int)) := by omega
theorem ow_88_32 {a0 a1 a2 a3 : Int} (h0 : ((1 ≤ (a0 : Int)) ∧ (a0 ≤ (181 : Int)))) (h1 : ((1 ≤ (a1 : Int)) ∧ ((a1 ≤ ((a0 + 3) : Int)) ∧ (((1 ≤ (a2 : Int)) → (a1 ≤ ((a0 + 2) : Int))) ∧ (((8 ≤ (a2 : Int)) → (a1 ≤ ((a0 + 1) : Int))) ∧ ((72001 ≤ (a2 : Int)) → (a1 ≤ (a0 : Int)))))))) (h2 : (a1 = (a3 : Int))) : ((a3 + 1) ≤ (600 : Int)) := by omega
theorem ow_88_33 {a0 a1 a2 a3 a4 : Int} (h0 : ((0 ≤ (a0 : Int)) ∧ (a0 ≤ (720000000 : Int)))) (h1 : ((1 ≤ (a1 : Int)) ∧ ((a1 ≤ ((a2 + 3) : Int)) ∧ (((1 ≤ (a0 : Int)) → (a1 ≤ ((a2 + 2) : Int))) ∧ (((8 ≤ (a0 : Int)) → (a1 ≤ ((a2 + 1) : Int))) ∧ ((72001 ≤ (a0 : Int)) → (a1 ≤ (a2 : Int)))))))) (h2 : (((a3 = (1 : Int)) ∧ (0 < (a0 : Int))) ∨ (((a3 = (0 : Int)) ∧ (a0 = (0 : Int))) ∨ ((a3 = ((-1) : Int)) ∧ (a0 < (0 : Int)))))) (h3 : (0 < (a3 : Int))) (h4 : (a1 = (a4 : Int))) : ((1 ≤ ((a4 + 1) : Int)) ∧ (((a4 + 1) ≤ ((a2 + 3) : Int)) ∧ (((1 ≤ ((a0 / 10000) : Int)) → ((a4 + 1) ≤ ((a2 + 2) : Int))) ∧ (((8 ≤ ((a0 / 10000) : Int)) → ((a4 + 1) ≤ ((a2 + 1) : Int))) ∧ ((72001 ≤ ((a0 / 10000) : Int)) → ((a4 + 1) ≤ (a2 : Int))))))) := by omega
theorem ow_88_34 {a0 : Int} (h0 : ((0 ≤ (a0 : Int)) ∧ (a0 ≤ (720000000 : Int)))) : (a0 ≤ (720000000 : Int)) := by omega
theorem ow_88_35 {a0 a1 : Int} (h0 : ((1 ≤ (a0 : Int)) ∧ (a0 ≤ (181 : Int)))) : ((1 ≤ (a0 : Int)) ∧ ((a0 ≤ ((a0 + 3) : Int)) ∧ (((1 ≤ (a1 : Int)) → (a0 ≤ ((a0 + 2) : Int))) ∧ (((8 ≤ (a1 : Int)) → (a0 ≤ ((a0 + 1) : Int))) ∧ ((72001 ≤ (a1 : Int)) → (a0 ≤ (a0 : Int))))))) := by omega
theorem ow_88_36 {a0 : Int} (h0 : ((0 ≤ (a0 : Int)) ∧ (a0 ≤ (181 : Int)))) : (((0 + a0) : Int).toNat < (2400 : Nat)) := by omega
theorem ow_88_37 {a0 : Int} (h0 : ((0 ≤ (a0 : Int)) ∧ (a0 ≤ (181 : Int)))) : (0 ≤ ((0 + a0) : Int)) := by omega
theorem ow_88_38 {a0 : Int} (h0 : ((0 ≤ (a0 : Int)) ∧ (a0 ≤ (181 : Int)))) : ((0 + a0) < (((2400 : Nat) : Int) : Int)) := by omega
theorem ow_88_39 {a0 : Int} (h0 : ((0 ≤ (a0 : Int)) ∧ (a0 ≤ (9999 : Int)))) : (0 ≤ (a0 : Int)) := by omega
theorem ow_88_40 {a0 : Int} (h0 : ((0 ≤ (a0 : Int)) ∧ (a0 ≤ (9999 : Int)))) : (a0 ≤ (9999 : Int)) := by omega
theorem ow_88_41 {a0 a1 : Int} (h0 : ((0 ≤ (a0 : Int)) ∧ (a0 ≤ (720000000 : Int)))) (h1 : ((0 ≤ (a1 : Int)) ∧ (a1 ≤ (7199280000000 : Int)))) : (0 ≤ ((a1 + a0) : Int)) := by omega
theorem ow_88_42 {a0 a1 : Int} (h0 : ((0 ≤ (a0 : Int)) ∧ (a0 ≤ (720000000 : Int)))) (h1 : ((0 ≤ (a1 : Int)) ∧ (a1 ≤ (7199280000000 : Int)))) : ((-9223372036854775808) ≤ ((a1 + a0) : Int)) := by omega
theorem ow_88_43 {a0 a1 : Int} (h0 : ((0 ≤ (a0 : Int)) ∧ (a0 ≤ (720000000 : Int)))) (h1 : ((0 ≤ (a1 : Int)) ∧ (a1 ≤ (7199280000000 : Int)))) : ((a1 + a0) ≤ (9223372036854775807 : Int)) := by omega
theorem ow_88_44 {a0 a1 a3 : Int} {k2 : Nat} (h0 : ((1 ≤ (a0 : Int)) ∧ (a0 ≤ (181 : Int)))) (h1 : (((181 - a1) : Int).toNat = (k2 : Nat))) (h2 : (a1 < (a0 : Int))) (h3 : ((a1 + 1) = (a3 : Int))) : (((181 - a3) : Int).toNat < (k2 : Nat)) := by omega
theorem ow_88_45 {a0 a1 : Int} (h0 : ((0 ≤ (a0 : Int)) ∧ (a0 ≤ (720000000 : Int)))) (h1 : ((0 ≤ (a1 : Int)) ∧ (a1 ≤ (7199280000000 : Int)))) : (0 ≤ (((a1 + a0) / 10000) : Int)) := by omega
theorem ow_88_46 {a0 a1 : Int} (h0 : ((0 ≤ (a0 : Int)) ∧ (a0 ≤ (720000000 : Int)))) (h1 : ((0 ≤ (a1 : Int)) ∧ (a1 ≤ (7199280000000 : Int)))) : (((a1 + a0) / 10000) ≤ (720000000 : Int)) := by omega
theorem ow_88_47 {a0 a1 : Int} (h0 : ((0 ≤ (a0 : Int)) ∧ (a0 ≤ (181 : Int)))) (h1 : ((a0 + 1) = (a1 : Int))) : (0 ≤ (a1 : Int)) := by omega
theorem ow_88_48 {a0 a1 a2 : Int} (h0 : ((1 ≤ (a0 : Int)) ∧ (a0 ≤ (181 : Int)))) (h1 : (a1 < (a0 : Int))) (h2 : ((a1 + 1) = (a2 : Int))) : (a2 ≤ (181 : Int)) := by omega
theorem ow_88_49 {a0 a1 a2 : Int} (h0 : (a0 ≤ (a1 : Int))) (h1 : (a2 ≤ ((9999 * a1) : Int))) : (((a2 + a0) / 10000) ≤ (a1 : Int)) := by omega
theorem ow_88_50 {a0 a1 : Int} : (0 ≤ (((a0 + a1) % 10000) : Int)) := by omega
theorem ow_88_51 {a0 a1 : Int} : (((a0 + a1) % 10000) ≤ (9999 : Int)) := by omega
theorem ow_88_52 {a0 : Int} (h0 : ((0 ≤ (a0 : Int)) ∧ (a0 ≤ (600 : Int)))) : ((((300 + a0) - 1) : Int).toNat < (2400 : Nat)) := by omega
theorem ow_88_53 {a0 : Int} (h0 : (1 < (a0 : Int))) : (0 ≤ (((300 + a0) - 1) : Int)) := by omega
theorem ow_88_54 {a0 : Int} (h0 : ((0 ≤ (a0 : Int)) ∧ (a0 ≤ (600 : Int)))) : (((300 + a0) - 1) < (((2400 : Nat) : Int) : Int)) := by omega
theorem ow_88_55 {a0 : Int} (h0 : ((0 ≤ (a0 : Int)) ∧ (a0 ≤ (600 : Int)))) : (0 ≤ ((300 + a0) : Int)) := by omega
theorem ow_88_56 {a0 : Int} (h0 : ((0 ≤ (a0 : Int)) ∧ (a0 ≤ (600 : Int)))) : ((300 + a0) < (((2400 : Nat) : Int) : Int)) := by omega
theorem ow_88_57 {a0 : Int} (h0 : ((0 ≤ (a0 : Int)) ∧ (a0 ≤ (181 : Int)))) : (((300 + a0) : Int).toNat < (2400 : Nat)) := by omega
theorem ow_88_58 {a0 : Int} (h0 : ((0 ≤ (a0 : Int)) ∧ (a0 ≤ (181 : Int)))) : (0 ≤ ((300 + a0) : Int)) := by omega
theorem ow_88_59 {a0 : Int} (h0 : ((0 ≤ (a0 : Int)) ∧ (a0 ≤ (181 : Int)))) : ((300 + a0) < (((2400 : Nat) : Int) : Int)) := by omega
theorem ow_88_60 {a0 a1 : Int} (h0 : ((1 ≤ (a0 : Int)) ∧ (a0 ≤ ((1 + (3 * a1)) : Int)))) : ((-2147483648) ≤ (a1 : Int)) := by omega
theorem ow_88_61 {a0 : Int} (h0 : ((0 ≤ (a0 : Int)) ∧ (a0 ≤ (60 : Int)))) : (a0 ≤ (2147483647 : Int)) := by omega
theorem ow_88_62 {a0 : Int} (h0 : ((0 ≤ (a0 : Int)) ∧ (a0 ≤ (60 : Int)))) : ((-2147483648) ≤ (a0 : Int)) := by omega
theorem ow_88_63 {a0 a1 : Int} (h0 : ((0 ≤ (a0 : Int)) ∧ (a0 ≤ (60 : Int)))) (h1 : ((1 ≤ (a1 : Int)) ∧ (a1 ≤ ((1 + (3 * a0)) : Int)))) : ((1 ≤ (a1 : Int)) ∧ (a1 ≤ (181 : Int))) := by omega
theorem ow_88_64 {a0 a1 a2 a3 a4 : Int} (h0 : (a0 = (a1 : Int))) (h1 : (a2 = (a0 : Int))) (h2 : (a2 = (a3 : Int))) (h3 : (a4 = (a3 : Int))) : (a4 = (a1 : Int)) := by omega
theorem ow_88_65 {a0 : Int} (h0 : (((-1) ≤ (a0 : Int)) ∧ (a0 ≤ (9 : Int)))) : ((-2147483648) ≤ (a0 : Int)) := by omega
theorem ow_88_66 {a0 : Int} (h0 : (((-1) ≤ (a0 : Int)) ∧ (a0 ≤ (9 : Int)))) : (a0 ≤ (2147483647 : Int)) := by omega
theorem ow_88_67 {a0 a1 : Int} (h0 : ((1 ≤ (a0 : Int)) ∧ (a0 ≤ ((1 + (3 * a1)) : Int)))) : (0 ≤ (a1 : Int)) := by omega
theorem ow_88_68 {a0 a1 : Int} (h0 : ((0 ≤ (a0 : Int)) ∧ (a0 ≤ (60 : Int)))) (h1 : (a1 < (a0 : Int))) : (a1 ≤ (59 : Int)) := by omega
theorem ow_88_69 {a0 a1 a2 : Int} (h0 : (a0 = (a1 : Int))) (h1 : (a2 < (a1 : Int))) : (a2 < (a0 : Int)) := by omega
theorem ow_88_70 {a0 : Int} (h0 : ((1 ≤ (a0 : Int)) ∧ (a0 ≤ (171 : Int)))) : (1 ≤ (a0 : Int)) := by omega
theorem ow_88_71 {a0 : Int} (h0 : ((1 ≤ (a0 : Int)) ∧ (a0 ≤ (171 : Int)))) : (a0 ≤ (171 : Int)) := by omega
theorem ow_88_72 {a0 : Int} (h0 : ((0 ≤ (a0 : Int)) ∧ (a0 ≤ (6 : Int)))) : (0 ≤ (a0 : Int)) := by omega
theorem ow_88_73 {a0 : Int} (h0 : ((0 ≤ (a0 : Int)) ∧ (a0 ≤ (6 : Int)))) : (a0 ≤ (6 : Int)) := by omega
theorem ow_88_74 {a0 a1 : Int} (h0 : ((0 ≤ (a0 : Int)) ∧ (a0 ≤ (60 : Int)))) (h1 : (a1 < (a0 : Int))) : ((((5 * a1) + 3) : Int).toNat < (300 : Nat)) := by omega
theorem ow_88_75 {a0 a1 : Int} (h0 : ((1 ≤ (a0 : Int)) ∧ (a0 ≤ ((1 + (3 * a1)) : Int)))) : (0 ≤ (((5 * a1) + 3) : Int)) := by omega
theorem ow_88_76 {a0 a1 : Int} (h0 : ((0 ≤ (a0 : Int)) ∧ (a0 ≤ (60 : Int)))) (h1 : (a1 < (a0 : Int))) : (((5 * a1) + 3) < (((300 : Nat) : Int) : Int)) := by omega
theorem ow_88_77 {a0 : Int} (h0 : ((0 ≤ (a0 : Int)) ∧ (a0 ≤ (8 : Int)))) : ((a0 : Int).toNat < (9 : Nat)) := by omega
theorem ow_88_78 {a0 : Int} (h0 : ((0 ≤ (a0 : Int)) ∧ (a0 ≤ (8 : Int)))) : (0 ≤ (a0 : Int)) := by omega
theorem ow_88_79 {a0 : Int} (h0 : ((0 ≤ (a0 : Int)) ∧ (a0 ≤ (8 : Int)))) : (a0 < (((9 : Nat) : Int) : Int)) := by omega
theorem ow_88_80 {a0 a1 a2 : Int} (h0 : ((1 ≤ (a0 : Int)) ∧ (a0 ≤ ((1 + (3 * a1)) : Int)))) (h1 : (a0 = (a2 : Int))) : (1 ≤ (a2 : Int)) := by omega
theorem ow_88_81 {a0 a1 a2 a3 : Int} (h0 : ((1 ≤ (a0 : Int)) ∧ (a0 ≤ ((1 + (3 * a1)) : Int)))) (h1 : (a0 = (a2 : Int))) (h2 : ((0 ≤ (a3 : Int)) ∧ (a3 ≤ (60 : Int)))) (h3 : (a1 < (a3 : Int))) : (a2 ≤ (181 : Int)) := by omega
theorem ow_88_82 {a0 : Int} (h0 : ((0 ≤ (a0 : Int)) ∧ (a0 ≤ (80000000 : Int)))) : (0 ≤ (a0 : Int)) := by omega
theorem ow_88_83 {a0 : Int} (h0 : ((0 ≤ (a0 : Int)) ∧ (a0 ≤ (80000000 : Int)))) : (a0 ≤ (720000000 : Int)) := by omega
theorem ow_88_84 {a0 a1 a2 a3 a4 a5 : Int} (h0 : ((1 ≤ (a0 : Int)) ∧ (a0 ≤ ((1 + (3 * a1)) : Int)))) (h1 : (a0 = (a2 : Int))) (h2 : (a3 = (a2 : Int))) (h3 : (a4 = (a3 : Int))) (h4 : (a4 = (a5 : Int))) : (1 ≤ (a5 : Int)) := by omega
theorem ow_88_85 {a0 a1 a2 a3 a4 a5 a6 : Int} (h0 : ((1 ≤ (a0 : Int)) ∧ (a0 ≤ ((1 + (3 * a1)) : Int)))) (h1 : (a0 = (a2 : Int))) (h2 : ((0 ≤ (a3 : Int)) ∧ (a3 ≤ (60 : Int)))) (h3 : (a1 < (a3 : Int))) (h4 : (a4 = (a2 : Int))) (h5 : (a5 = (a4 : Int))) (h6 : (a5 = (a6 : Int))) : (a6 ≤ (181 : Int)) := by omega
theorem ow_88_86 {a0 a2 a3 : Int} {k1 : Nat} (h0 : (((60 - a0) : Int).toNat = (k1 : Nat))) (h1 : ((0 ≤ (a2 : Int)) ∧ (a2 ≤ (60 : Int)))) (h2 : (a0 < (a2 : Int))) (h3 : ((a0 + 1) = (a3 : Int))) : (((60 - a3) : Int).toNat < (k1 : Nat)) := by omega
theorem ow_88_87 {a0 a1 a2 : Int} (h0 : ((1 ≤ (a0 : Int)) ∧ (a0 ≤ ((1 + (3 * a1)) : Int)))) (h1 : ((a1 + 1) = (a2 : Int))) : (0 ≤ (a2 : Int)) := by omega
theorem ow_88_88 {a0 a1 a2 : Int} (h0 : ((0 ≤ (a0 : Int)) ∧ (a0 ≤ (60 : Int)))) (h1 : (a1 < (a0 : Int))) (h2 : ((a1 + 1) = (a2 : Int))) : (a2 ≤ (60 : Int)) := by omega
theorem ow_88_89 {a0 a1 a2 a3 : Int} (h0 : (a0 = (a1 : Int))) (h1 : (a2 = (a0 : Int))) (h2 : (a3 = (a2 : Int))) : (a3 = (a1 : Int)) := by omega
theorem ow_88_90 {a0 a1 a2 a3 a4 a5 a6 a7 : Int} (h0 : ((1 ≤ (a0 : Int)) ∧ (a0 ≤ ((1 + (3 * a1)) : Int)))) (h1 : (a0 = (a2 : Int))) (h2 : (a3 = (a2 : Int))) (h3 : ((1 ≤ (a4 : Int)) ∧ (a4 ≤ ((a3 + 3) : Int)))) (h4 : (a5 = (a4 : Int))) (h5 : (a5 = (a6 : Int))) (h6 : ((a1 + 1) = (a7 : Int))) : ((1 ≤ (a6 : Int)) ∧ (a6 ≤ ((1 + (3 * a7)) : Int))) := by omega
theorem ow_88_91 {a0 a1 a2 a3 a4 a5 a6 a7 : Int} (h0 : ((1 ≤ (a0 : Int)) ∧ (a0 ≤ ((1 + (3 * a1)) : Int)))) (h1 : (a0 = (a2 : Int))) (h2 : (a3 = (a2 : Int))) (h3 : (a4 = (a3 : Int))) (h4 : ((1 ≤ (a5 : Int)) ∧ (a5 ≤ ((a4 + 3) : Int)))) (h5 : (a5 = (a6 : Int))) (h6 : ((a1 + 1) = (a7 : Int))) : ((1 ≤ (a6 : Int)) ∧ (a6 ≤ ((1 + (3 * a7)) : Int))) := by omega
theorem ow_88_92 {a0 a1 : Int} (h0 : ((0 ≤ (a0 : Int)) ∧ (a0 ≤ (60 : Int)))) (h1 : (a1 < (a0 : Int))) : (((5 * a1) : Int).toNat < (300 : Nat)) := by omega
theorem ow_88_93 {a0 a1 : Int} (h0 : ((1 ≤ (a0 : Int)) ∧ (a0 ≤ ((1 + (3 * a1)) : Int)))) : (0 ≤ ((5 * a1) : Int)) := by omega
theorem ow_88_94 {a0 a1 : Int} (h0 : ((0 ≤ (a0 : Int)) ∧ (a0 ≤ (60 : Int)))) (h1 : (a1 < (a0 : Int))) : ((5 * a1) < (((300 : Nat) : Int) : Int)) := by omega
theorem ow_88_95 {a0 : Int} (h0 : ((0 ≤ (a0 : Int)) ∧ ((a0 ≤ (999 : Int)) ∧ (((a0 % 10) ≤ (8 : Int)) ∧ (((a0 / 10) % 10) ≤ (8 : Int)))))) : (0 ≤ (a0 : Int)) := by omega
theorem ow_88_96 {a0 : Int} (h0 : ((0 ≤ (a0 : Int)) ∧ ((a0 ≤ (999 : Int)) ∧ (((a0 % 10) ≤ (8 : Int)) ∧ (((a0 / 10) % 10) ≤ (8 : Int)))))) : ((-2147483648) ≤ (a0 : Int)) := by omega
theorem ow_88_97 {a0 : Int} (h0 : ((0 ≤ (a0 : Int)) ∧ ((a0 ≤ (999 : Int)) ∧ (((a0 % 10) ≤ (8 : Int)) ∧ (((a0 / 10) % 10) ≤ (8 : Int)))))) : (a0 ≤ (2147483647 : Int)) := by omega
theorem ow_88_98 {a0 : Int} (h0 : ((0 ≤ (a0 : Int)) ∧ ((a0 ≤ (999 : Int)) ∧ (((a0 % 10) ≤ (8 : Int)) ∧ (((a0 / 10) % 10) ≤ (8 : Int)))))) : ((-2147483648) ≤ ((a0 / 100) : Int)) := by omega
theorem ow_88_99 {a0 : Int} (h0 : ((0 ≤ (a0 : Int)) ∧ ((a0 ≤ (999 : Int)) ∧ (((a0 % 10) ≤ (8 : Int)) ∧ (((a0 / 10) % 10) ≤ (8 : Int)))))) : ((a0 / 100) ≤ (2147483647 : Int)) := by omega
theorem ow_88_100 {a0 a1 : Int} (h0 : (a0 = (a1 : Int))) : (a0 = (a1 : Int)) := by omega
theorem ow_88_101 {a0 a1 a2 a3 : Int} (h0 : ((1 ≤ (a0 : Int)) ∧ (a0 ≤ ((1 + (3 * a1)) : Int)))) (h1 : (a0 = (a2 : Int))) (h2 : ((a1 + 1) = (a3 : Int))) : ((1 ≤ (a2 : Int)) ∧ (a2 ≤ ((1 + (3 * a3)) : Int))) := by omega
theorem ow_88_102 {a0 a1 a2 : Int} (h0 : (a0 = (1 : Int))) (h1 : (a1 = (a0 : Int))) (h2 : (a1 = (a2 : Int))) : ((1 ≤ (a2 : Int)) ∧ (a2 ≤ ((1 + (3 * 0)) : Int))) := by omega
theorem ow_88_103 {a0 a1 : Int} (h0 : (a0 = (1 : Int))) (h1 : (a0 = (a1 : Int))) : ((1 ≤ (a1 : Int)) ∧ (a1 ≤ ((1 + (3 * 0)) : Int))) := by omega
theorem ow_88_104 (h0 : (1 = (0 : Int))) : False := by omega
theorem ow_88_105 {a0 : Int} (h0 : (((-2147483648) ≤ (a0 : Int)) ∧ (a0 ≤ (2147483647 : Int)))) : ((-2147483648) ≤ (a0 : Int)) := by omega
theorem ow_88_106 {a0 : Int} (h0 : (((-2147483648) ≤ (a0 : Int)) ∧ (a0 ≤ (2147483647 : Int)))) : (a0 ≤ (2147483647 : Int)) := by omega
theorem ow_88_107 {a0 a1 : Int} (h0 : ((0 ≤ (a0 : Int)) ∧ ((a0 ≤ (1 : Int)) ∧ ((a0 = (1 : Int)) → ((0 ≤ (a1 : Int)) ∧ (a1 ≤ (6 : Int))))))) : ((-2147483648) ≤ (a0 : Int)) := by omega
theorem ow_88_108 {a0 a1 : Int} (h0 : ((0 ≤ (a0 : Int)) ∧ ((a0 ≤ (1 : Int)) ∧ ((a0 = (1 : Int)) → ((0 ≤ (a1 : Int)) ∧ (a1 ≤ (6 : Int))))))) : (a0 ≤ (2147483647 : Int)) := by omega
theorem ow_88_109 : ((-1) ≤ ((-1) : Int)) := by omega
theorem ow_88_110 : ((-1) ≤ (2 : Int)) := by omega
theorem ow_88_111 {a0 a1 : Int} (h0 : ((0 ≤ (a0 : Int)) ∧ ((a0 ≤ (1 : Int)) ∧ ((a0 = (1 : Int)) → ((0 ≤ (a1 : Int)) ∧ (a1 ≤ (6 : Int))))))) (h1 : ¬((a0 = (0 : Int)))) : (0 ≤ (a1 : Int)) := by omega
theorem ow_88_112 {a0 a1 : Int} (h0 : ((0 ≤ (a0 : Int)) ∧ ((a0 ≤ (1 : Int)) ∧ ((a0 = (1 : Int)) → ((0 ≤ (a1 : Int)) ∧ (a1 ≤ (6 : Int))))))) (h1 : ¬((a0 = (0 : Int)))) : (a1 ≤ (6 : Int)) := by omega
theorem ow_88_113 {a0 : Int} (h0 : (a0 = ((-1) : Int))) : ((-1) ≤ (a0 : Int)) := by omega
theorem ow_88_114 {a0 : Int} (h0 : (a0 = ((-1) : Int))) : (a0 ≤ (9 : Int)) := by omega
theorem ow_88_115 {a0 a1 : Int} (h0 : ((1 ≤ (a0 : Int)) ∧ (a0 ≤ (181 : Int)))) (h1 : (a0 = (a1 : Int))) : (0 ≤ (a1 : Int)) := by omega
theorem ow_88_116 {a0 a1 : Int} (h0 : ((1 ≤ (a0 : Int)) ∧ (a0 ≤ (181 : Int)))) (h1 : (a0 = (a1 : Int))) : (a1 ≤ (181 : Int)) := by omega
theorem ow_88_117 {a0 : Int} (h0 : ((0 ≤ (a0 : Int)) ∧ (a0 ≤ (600 : Int)))) : (0 ≤ (a0 : Int)) := by omega
theorem ow_88_118 {a0 a1 a2 a3 : Int} (h0 : ((1 ≤ (a0 : Int)) ∧ (a0 ≤ (181 : Int)))) (h1 : (a1 = (a0 : Int))) (h2 : (a2 = (a1 : Int))) (h3 : (a2 = (a3 : Int))) : (a3 ≤ (181 : Int)) := by omega
theorem ow_88_119 {a0 : Int} (h0 : (((-1) ≤ (a0 : Int)) ∧ (a0 ≤ (1 : Int)))) : ((-2147483648) ≤ (a0 : Int)) := by omega
theorem ow_88_120 {a0 : Int} (h0 : (((-1) ≤ (a0 : Int)) ∧ (a0 ≤ (1 : Int)))) : (a0 ≤ (2147483647 : Int)) := by omega
theorem ow_88_121 {a0 : Int} (h0 : (a0 ≤ (0 : Int))) : (a0 ≤ (2147483647 : Int)) := by omega
theorem ow_88_122 : ((-1) ≤ (0 : Int)) := by omega
theorem ow_88_123 : (0 ≤ (2 : Int)) := by omega
theorem ow_88_124 : (2 ≤ (2 : Int)) := by omega
theorem ow_88_125 : ((-1) ≤ (1 : Int)) := by omega
theorem ow_88_126 : (1 ≤ (2 : Int)) := by omega
theorem ow_88_127 {a0 a1 : Int} (h0 : ((0 ≤ (a0 : Int)) ∧ ((a0 ≤ (1 : Int)) ∧ ((a0 = (1 : Int)) → ((0 ≤ (a1 : Int)) ∧ (a1 ≤ (9 : Int))))))) : ((-2147483648) ≤ (a0 : Int)) := by omega
theorem ow_88_128 {a0 a1 : Int} (h0 : ((0 ≤ (a0 : Int)) ∧ ((a0 ≤ (1 : Int)) ∧ ((a0 = (1 : Int)) → ((0 ≤ (a1 : Int)) ∧ (a1 ≤ (9 : Int))))))) : (a0 ≤ (2147483647 : Int)) := by omega
theorem ow_88_129 {a0 a1 : Int} (h0 : ((0 ≤ (a0 : Int)) ∧ ((a0 ≤ (1 : Int)) ∧ ((a0 = (1 : Int)) → ((0 ≤ (a1 : Int)) ∧ (a1 ≤ (9 : Int))))))) (h1 : ¬((a0 = (0 : Int)))) : ((-1) ≤ (a1 : Int)) := by omega
theorem ow_88_130 {a0 a1 : Int} (h0 : ((0 ≤ (a0 : Int)) ∧ ((a0 ≤ (1 : Int)) ∧ ((a0 = (1 : Int)) → ((0 ≤ (a1 : Int)) ∧ (a1 ≤ (9 : Int))))))) (h1 : ¬((a0 = (0 : Int)))) : (a1 ≤ (9 : Int)) := by omega
theorem ow_88_131 {a0 : Int} (h0 : ((0 ≤ (a0 : Int)) ∧ (a0 ≤ (7 : Int)))) : ((-2147483648) ≤ (a0 : Int)) := by omega
theorem ow_88_132 {a0 : Int} (h0 : ((0 ≤ (a0 : Int)) ∧ (a0 ≤ (7 : Int)))) : (a0 ≤ (2147483647 : Int)) := by omega
theorem ow_88_133 {a0 : Int} (h0 : (((-1) ≤ (a0 : Int)) ∧ (a0 ≤ (6 : Int)))) : ((-1) ≤ (a0 : Int)) := by omega
theorem ow_88_134 {a0 : Int} (h0 : (((-1) ≤ (a0 : Int)) ∧ (a0 ≤ (6 : Int)))) : (a0 ≤ (6 : Int)) := by omega
theorem ow_88_135 {a0 : Int} (h0 : ((0 ≤ (a0 : Int)) ∧ (a0 ≤ (7 : Int)))) : (0 ≤ (a0 : Int)) := by omega
theorem ow_88_136 {a0 : Int} (h0 : (a0 < (7 : Int))) : (a0 ≤ (6 : Int)) := by omega
theorem ow_88_137 {a0 : Int} (h0 : (((-1) ≤ (a0 : Int)) ∧ (a0 ≤ (6 : Int)))) : ((-2147483648) ≤ (a0 : Int)) := by omega
theorem ow_88_138 {a0 : Int} (h0 : (((-1) ≤ (a0 : Int)) ∧ (a0 ≤ (6 : Int)))) : (a0 ≤ (2147483647 : Int)) := by omega
theorem ow_88_139 {a0 a2 : Int} {k1 : Nat} (h0 : (((7 - a0) : Int).toNat = (k1 : Nat))) (h1 : (a0 < (7 : Int))) (h2 : ((a0 + 1) = (a2 : Int))) : (((7 - a2) : Int).toNat < (k1 : Nat)) := by omega
theorem ow_88_140 {a0 : Int} (h0 : ((0 ≤ (a0 : Int)) ∧ (a0 ≤ (7 : Int)))) : ((-1) ≤ (a0 : Int)) := by omega
theorem ow_88_141 {a0 a1 : Int} (h0 : ((0 ≤ (a0 : Int)) ∧ (a0 ≤ (7 : Int)))) (h1 : ((a0 + 1) = (a1 : Int))) : (0 ≤ (a1 : Int)) := by omega
theorem ow_88_142 {a0 a1 : Int} (h0 : (a0 < (7 : Int))) (h1 : ((a0 + 1) = (a1 : Int))) : (a1 ≤ (7 : Int)) := by omega
theorem ow_88_143 {a0 a1 a2 a3 : Int} (h0 : ((1 ≤ (a0 : Int)) ∧ (a0 ≤ (181 : Int)))) (h1 : (a1 = (a0 : Int))) (h2 : (a1 = (a2 : Int))) : ((a3 = ((-1) : Int)) ∨ (a2 ≤ (181 : Int))) := by omega
theorem ow_88_144 {a0 a1 a2 a3 : Int} (h0 : (((-1) ≤ (a0 : Int)) ∧ (a0 ≤ (6 : Int)))) (h1 : ((a0 = ((-1) : Int)) ∨ (a1 ≤ (181 : Int)))) (h2 : (a2 = (a1 : Int))) (h3 : (a2 = (a3 : Int))) (h4 : ¬((a0 = ((-1) : Int)))) : (a3 ≤ (181 : Int)) := by omega
theorem ow_88_145 {a0 a1 a2 a3 a4 : Int} (h0 : ((1 ≤ (a0 : Int)) ∧ (a0 ≤ (181 : Int)))) (h1 : (a1 = (a0 : Int))) (h2 : (a2 = (a1 : Int))) (h3 : (a2 = (a3 : Int))) : ((a4 = ((-1) : Int)) ∨ (a3 ≤ (181 : Int))) := by omega
theorem ow_88_146 {a0 a1 a2 a3 : Int} (h0 : ((0 ≤ (a0 : Int)) ∧ (a0 ≤ (181 : Int)))) (h1 : (a1 = (a0 : Int))) (h2 : (a1 = (a2 : Int))) : ((a3 = ((-1) : Int)) ∨ (a2 ≤ (181 : Int))) := by omega
theorem ow_88_147 {a0 : Int} : (((-1) = ((-1) : Int)) ∨ (a0 ≤ (181 : Int))) := by omega
theorem ow_88_148 : ((-1) ≤ (6 : Int)) := by omega
theorem ow_88_149 : ((-2147483648) ≤ ((-2147483648) : Int)) := by omega
theorem ow_88_150 : ((-2147483648) ≤ (16 : Int)) := by omega
theorem ow_88_151 {a0 a1 : Int} (h0 : ((0 ≤ (a0 : Int)) ∧ ((a0 ≤ (1 : Int)) ∧ ((a0 = (1 : Int)) → ((0 ≤ (a1 : Int)) ∧ (a1 ≤ (2 : Int))))))) : ((-2147483648) ≤ (a0 : Int)) := by omega
theorem ow_88_152 {a0 a1 : Int} (h0 : ((0 ≤ (a0 : Int)) ∧ ((a0 ≤ (1 : Int)) ∧ ((a0 = (1 : Int)) → ((0 ≤ (a1 : Int)) ∧ (a1 ≤ (2 : Int))))))) : (a0 ≤ (2147483647 : Int)) := by omega
theorem ow_88_153 {a0 a1 : Int} (h0 : ((0 ≤ (a0 : Int)) ∧ ((a0 ≤ (1 : Int)) ∧ ((a0 = (1 : Int)) → ((0 ≤ (a1 : Int)) ∧ (a1 ≤ (9 : Int))))))) (h1 : ¬((a0 = (0 : Int)))) : (((4 * a1) : Int).toNat < (40 : Nat)) := by omega
theorem ow_88_154 {a0 a1 : Int} (h0 : ((0 ≤ (a0 : Int)) ∧ ((a0 ≤ (1 : Int)) ∧ ((a0 = (1 : Int)) → ((0 ≤ (a1 : Int)) ∧ (a1 ≤ (9 : Int))))))) (h1 : ¬((a0 = (0 : Int)))) : (0 ≤ ((4 * a1) : Int)) := by omega
theorem ow_88_155 {a0 a1 : Int} (h0 : ((0 ≤ (a0 : Int)) ∧ ((a0 ≤ (1 : Int)) ∧ ((a0 = (1 : Int)) → ((0 ≤ (a1 : Int)) ∧ (a1 ≤ (9 : Int))))))) (h1 : ¬((a0 = (0 : Int)))) : ((4 * a1) < (((40 : Nat) : Int) : Int)) := by omega
theorem ow_88_156 {a0 a1 : Int} (h0 : ((0 ≤ (a0 : Int)) ∧ ((a0 ≤ (1 : Int)) ∧ ((a0 = (1 : Int)) → ((0 ≤ (a1 : Int)) ∧ (a1 ≤ (9 : Int))))))) (h1 : ¬((a0 = (0 : Int)))) : ((((4 * a1) + 1) : Int).toNat < (40 : Nat)) := by omega
theorem ow_88_157 {a0 a1 : Int} (h0 : ((0 ≤ (a0 : Int)) ∧ ((a0 ≤ (1 : Int)) ∧ ((a0 = (1 : Int)) → ((0 ≤ (a1 : Int)) ∧ (a1 ≤ (9 : Int))))))) (h1 : ¬((a0 = (0 : Int)))) : (0 ≤ (((4 * a1) + 1) : Int)) := by omega
theorem ow_88_158 {a0 a1 : Int} (h0 : ((0 ≤ (a0 : Int)) ∧ ((a0 ≤ (1 : Int)) ∧ ((a0 = (1 : Int)) → ((0 ≤ (a1 : Int)) ∧ (a1 ≤ (9 : Int))))))) (h1 : ¬((a0 = (0 : Int)))) : (((4 * a1) + 1) < (((40 : Nat) : Int) : Int)) := by omega
theorem ow_88_159 {a0 a1 : Int} (h0 : ((0 ≤ (a0 : Int)) ∧ ((a0 ≤ (1 : Int)) ∧ ((a0 = (1 : Int)) → ((0 ≤ (a1 : Int)) ∧ (a1 ≤ (9 : Int))))))) (h1 : ¬((a0 = (0 : Int)))) : ((((4 * a1) + 2) : Int).toNat < (40 : Nat)) := by omega
theorem ow_88_160 {a0 a1 : Int} (h0 : ((0 ≤ (a0 : Int)) ∧ ((a0 ≤ (1 : Int)) ∧ ((a0 = (1 : Int)) → ((0 ≤ (a1 : Int)) ∧ (a1 ≤ (9 : Int))))))) (h1 : ¬((a0 = (0 : Int)))) : (0 ≤ (((4 * a1) + 2) : Int)) := by omega
theorem ow_88_161 {a0 a1 : Int} (h0 : ((0 ≤ (a0 : Int)) ∧ ((a0 ≤ (1 : Int)) ∧ ((a0 = (1 : Int)) → ((0 ≤ (a1 : Int)) ∧ (a1 ≤ (9 : Int))))))) (h1 : ¬((a0 = (0 : Int)))) : (((4 * a1) + 2) < (((40 : Nat) : Int) : Int)) := by omega
theorem ow_88_162 {a0 : Int} (h0 : (((-12) ≤ (a0 : Int)) ∧ (a0 ≤ (13 : Int)))) : ((-2147483648) ≤ (a0 : Int)) := by omega
theorem ow_88_163 {a0 : Int} (h0 : (((-12) ≤ (a0 : Int)) ∧ (a0 ≤ (13 : Int)))) : (a0 ≤ (2147483647 : Int)) := by omega
theorem ow_88_164 {a0 : Int} (h0 : (((-12) ≤ (a0 : Int)) ∧ (a0 ≤ (12 : Int)))) : ((-2147483648) ≤ (a0 : Int)) := by omega
theorem ow_88_165 {a0 : Int} (h0 : (((-12) ≤ (a0 : Int)) ∧ (a0 ≤ (12 : Int)))) : (a0 ≤ (16 : Int)) := by omega
theorem ow_88_166 {a0 : Int} (h0 : (((-30) ≤ (a0 : Int)) ∧ (a0 ≤ (30 : Int)))) : ((-30) ≤ (a0 : Int)) := by omega
theorem ow_88_167 {a0 : Int} (h0 : (((-30) ≤ (a0 : Int)) ∧ (a0 ≤ (30 : Int)))) : (a0 ≤ (30 : Int)) := by omega
theorem ow_88_168 {a0 : Int} (h0 : (((-2147483648) ≤ (a0 : Int)) ∧ (a0 ≤ (12 : Int)))) : ((-2147483648) ≤ (a0 : Int)) := by omega
theorem ow_88_169 {a0 : Int} (h0 : (((-2147483648) ≤ (a0 : Int)) ∧ (a0 ≤ (12 : Int)))) : (a0 ≤ (16 : Int)) := by omega
theorem ow_88_170 {a0 a2 : Int} {k1 : Nat} (h0 : (((13 - a0) : Int).toNat = (k1 : Nat))) (h1 : (a0 ≤ (12 : Int))) (h2 : ((a0 + 1) = (a2 : Int))) : (((13 - a2) : Int).toNat < (k1 : Nat)) := by omega
theorem ow_88_171 {a0 : Int} (h0 : (((-2147483648) ≤ (a0 : Int)) ∧ (a0 ≤ (12 : Int)))) : (a0 ≤ (12 : Int)) := by omega
theorem ow_88_172 {a0 : Int} (h0 : (((-12) ≤ (a0 : Int)) ∧ (a0 ≤ (12 : Int)))) : ((-12) ≤ (a0 : Int)) := by omega
theorem ow_88_173 {a0 : Int} (h0 : (((-12) ≤ (a0 : Int)) ∧ (a0 ≤ (12 : Int)))) : (a0 ≤ (12 : Int)) := by omega
theorem ow_88_174 {a0 a1 : Int} (h0 : (((-12) ≤ (a0 : Int)) ∧ (a0 ≤ (13 : Int)))) (h1 : ((a0 + 1) = (a1 : Int))) : ((-12) ≤ (a1 : Int)) := by omega
theorem ow_88_175 {a0 a1 : Int} (h0 : (a0 ≤ (12 : Int))) (h1 : ((a0 + 1) = (a1 : Int))) : (a1 ≤ (13 : Int)) := by omega
theorem ow_88_176 {a0 : Int} (h0 : (((-2147483648) ≤ (a0 : Int)) ∧ (a0 ≤ (12 : Int)))) (h1 : ((a0 = ((-2147483648) : Int)) ∨ ((-12) ≤ (a0 : Int)))) : ((a0 = ((-2147483648) : Int)) ∨ ((-12) ≤ (a0 : Int))) := by omega
theorem ow_88_177 {a0 a1 a2 : Int} (h0 : (((-2147483648) ≤ (a0 : Int)) ∧ (a0 ≤ (12 : Int)))) (h1 : ((a0 = ((-2147483648) : Int)) ∨ ((-12) ≤ (a0 : Int)))) (h2 : ((a0 = ((-2147483648) : Int)) ∨ (a1 ≤ (181 : Int)))) (h3 : (a1 = (a2 : Int))) : ((a0 = ((-2147483648) : Int)) ∨ (a2 ≤ (181 : Int))) := by omega
theorem ow_88_178 {a0 : Int} (h0 : (((-12) ≤ (a0 : Int)) ∧ (a0 ≤ (13 : Int)))) : ((-30) ≤ (a0 : Int)) := by omega
theorem ow_88_179 {a0 : Int} (h0 : (a0 ≤ (12 : Int))) : (a0 ≤ (30 : Int)) := by omega
theorem ow_88_180 {a0 : Int} (h0 : (((-2147483648) ≤ (a0 : Int)) ∧ (a0 ≤ (12 : Int)))) : (a0 ≤ (2147483647 : Int)) := by omega
theorem ow_88_181 {a0 a1 a2 a3 a4 a5 : Int} (h0 : (((-2147483648) ≤ (a0 : Int)) ∧ (a0 ≤ (12 : Int)))) (h1 : ((a0 = ((-2147483648) : Int)) ∨ (a1 ≤ (181 : Int)))) (h2 : (a1 = (a2 : Int))) (h3 : (a3 = (a2 : Int))) (h4 : (a4 = (a3 : Int))) (h5 : (a4 = (a5 : Int))) (h6 : ¬((a0 = ((-2147483648) : Int)))) : (a5 ≤ (181 : Int)) := by omega
theorem ow_88_182 {a0 a1 a2 a3 : Int} (h0 : ((0 ≤ (a0 : Int)) ∧ (a0 ≤ (181 : Int)))) (h1 : (a1 = (a0 : Int))) (h2 : (a1 = (a2 : Int))) : ((a3 = ((-2147483648) : Int)) ∨ (a2 ≤ (181 : Int))) := by omega
theorem ow_88_183 {a0 : Int} (h0 : (0 ≤ (a0 : Int))) : ((-2147483648) ≤ (a0 : Int)) := by omega
theorem ow_88_184 {a0 : Int} (h0 : (a0 ≤ (12 : Int))) : (a0 ≤ (12 : Int)) := by omega
theorem ow_88_185 {a0 : Int} (h0 : (((-12) ≤ (a0 : Int)) ∧ (a0 ≤ (13 : Int)))) : ((-12) ≤ (a0 : Int)) := by omega
theorem ow_88_186 {a0 : Int} (h0 : (((-12) ≤ (a0 : Int)) ∧ (a0 ≤ (13 : Int)))) : ((a0 = ((-2147483648) : Int)) ∨ ((-12) ≤ (a0 : Int))) := by omega
theorem ow_88_187 {a0 a1 a2 a3 a4 : Int} (h0 : ((1 ≤ (a0 : Int)) ∧ (a0 ≤ (181 : Int)))) (h1 : (a1 = (a0 : Int))) (h2 : (a2 = (a1 : Int))) (h3 : (a2 = (a3 : Int))) : ((a4 = ((-2147483648) : Int)) ∨ (a3 ≤ (181 : Int))) := by omega
theorem ow_88_188 {a0 : Int} (h0 : (((-12) ≤ (a0 : Int)) ∧ (a0 ≤ (13 : Int)))) : ((-2147483647) ≤ (a0 : Int)) := by omega
theorem ow_88_189 {a0 : Int} (h0 : (a0 ≤ (12 : Int))) : (a0 ≤ (2147483647 : Int)) := by omega
theorem ow_88_190 {a0 : Int} (h0 : (((-2147483648) ≤ (a0 : Int)) ∧ (a0 ≤ (12 : Int)))) (h1 : ¬((a0 = ((-2147483648) : Int)))) : ((-2147483647) ≤ (a0 : Int)) := by omega
theorem ow_88_191 {a0 : Int} (h0 : (((-12) ≤ (a0 : Int)) ∧ (a0 ≤ (12 : Int)))) : ((-2147483647) ≤ (a0 : Int)) := by omega
theorem ow_88_192 {a0 : Int} (h0 : (((-12) ≤ (a0 : Int)) ∧ (a0 ≤ (12 : Int)))) : (a0 ≤ (2147483647 : Int)) := by omega
theorem ow_88_193 {a0 a1 a2 a3 : Int} (h0 : ((0 ≤ (a0 : Int)) ∧ ((a0 ≤ (2147483647 : Int)) ∧ (((0 ≤ (a1 : Int)) → (a0 = (a1 : Int))) ∧ ((a1 < (0 : Int)) → (a0 = ((-a1) : Int))))))) (h1 : ((0 ≤ (a2 : Int)) ∧ ((a2 ≤ (2147483647 : Int)) ∧ (((0 ≤ (a3 : Int)) → (a2 = (a3 : Int))) ∧ ((a3 < (0 : Int)) → (a2 = ((-a3) : Int))))))) : ((-2147483648) ≤ ((a0 + a2) : Int)) := by omega
theorem ow_88_194 {a0 a1 a2 a3 : Int} (h0 : (((-12) ≤ (a0 : Int)) ∧ (a0 ≤ (13 : Int)))) (h1 : (a0 ≤ (12 : Int))) (h2 : (((-12) ≤ (a1 : Int)) ∧ (a1 ≤ (13 : Int)))) (h3 : (a1 ≤ (12 : Int))) (h4 : ((0 ≤ (a2 : Int)) ∧ ((a2 ≤ (2147483647 : Int)) ∧ (((0 ≤ (a0 : Int)) → (a2 = (a0 : Int))) ∧ ((a0 < (0 : Int)) → (a2 = ((-a0) : Int))))))) (h5 : ((0 ≤ (a3 : Int)) ∧ ((a3 ≤ (2147483647 : Int)) ∧ (((0 ≤ (a1 : Int)) → (a3 = (a1 : Int))) ∧ ((a1 < (0 : Int)) → (a3 = ((-a1) : Int))))))) : ((a2 + a3) ≤ (2147483647 : Int)) := by omega
theorem ow_88_195 (h0 : (1 < (0 : Int))) : False := by omega
theorem ow_88_196 {a0 a1 a2 a3 : Int} (h0 : ((1 ≤ (a0 : Int)) ∧ (a0 ≤ (181 : Int)))) (h1 : (a1 = (a0 : Int))) (h2 : (a1 = (a2 : Int))) : ((a3 = ((-2147483648) : Int)) ∨ (a2 ≤ (181 : Int))) := by omega
theorem ow_88_197 : (((-2147483648) = ((-2147483648) : Int)) ∨ ((-12) ≤ ((-2147483648) : Int))) := by omega
theorem ow_88_198 {a0 : Int} : (((-2147483648) = ((-2147483648) : Int)) ∨ (a0 ≤ (181 : Int))) := by omega
theorem ow_88_199 {a0 : Int} (h0 : ((0 ≤ (a0 : Int)) ∧ (a0 ≤ (17 : Int)))) : ((-2147483648) ≤ (a0 : Int)) := by omega
theorem ow_88_200 {a0 : Int} (h0 : ((0 ≤ (a0 : Int)) ∧ (a0 ≤ (17 : Int)))) : (a0 ≤ (2147483647 : Int)) := by omega
theorem ow_88_201 {a0 : Int} (h0 : (((-2147483648) ≤ (a0 : Int)) ∧ (a0 ≤ (16 : Int)))) : ((-2147483648) ≤ (a0 : Int)) := by omega
theorem ow_88_202 {a0 : Int} (h0 : (((-2147483648) ≤ (a0 : Int)) ∧ (a0 ≤ (16 : Int)))) : (a0 ≤ (16 : Int)) := by omega
theorem ow_88_203 {a0 : Int} (h0 : ((0 ≤ (a0 : Int)) ∧ (a0 ≤ (16 : Int)))) : (0 ≤ (a0 : Int)) := by omega
theorem ow_88_204 {a0 : Int} (h0 : ((0 ≤ (a0 : Int)) ∧ (a0 ≤ (16 : Int)))) : (a0 ≤ (16 : Int)) := by omega
theorem ow_88_205 {a0 : Int} (h0 : ((0 ≤ (a0 : Int)) ∧ (a0 ≤ (17 : Int)))) : (0 ≤ (a0 : Int)) := by omega
theorem ow_88_206 {a0 : Int} (h0 : (a0 ≤ (16 : Int))) : (a0 ≤ (16 : Int)) := by omega
theorem ow_88_207 {a0 : Int} (h0 : (((-2147483648) ≤ (a0 : Int)) ∧ (a0 ≤ (16 : Int)))) : (a0 ≤ (2147483647 : Int)) := by omega
theorem ow_88_208 {a0 a2 : Int} {k1 : Nat} (h0 : (((17 - a0) : Int).toNat = (k1 : Nat))) (h1 : (a0 ≤ (16 : Int))) (h2 : ((a0 + 1) = (a2 : Int))) : (((17 - a2) : Int).toNat < (k1 : Nat)) := by omega
theorem ow_88_209 {a0 a1 : Int} (h0 : ((0 ≤ (a0 : Int)) ∧ (a0 ≤ (17 : Int)))) (h1 : ((a0 + 1) = (a1 : Int))) : (0 ≤ (a1 : Int)) := by omega
theorem ow_88_210 {a0 a1 : Int} (h0 : (a0 ≤ (16 : Int))) (h1 : ((a0 + 1) = (a1 : Int))) : (a1 ≤ (17 : Int)) := by omega
theorem ow_88_211 {a0 : Int} (h0 : ((0 ≤ (a0 : Int)) ∧ (a0 ≤ (17 : Int)))) : ((a0 = ((-2147483648) : Int)) ∨ (0 ≤ (a0 : Int))) := by omega
theorem ow_88_212 {a0 a1 a2 a3 a4 a5 : Int} (h0 : (((-2147483648) ≤ (a0 : Int)) ∧ (a0 ≤ (16 : Int)))) (h1 : ((a0 = ((-2147483648) : Int)) ∨ (a1 ≤ (181 : Int)))) (h2 : (a1 = (a2 : Int))) (h3 : (a3 = (a2 : Int))) (h4 : (a4 = (a3 : Int))) (h5 : (a4 = (a5 : Int))) (h6 : ¬((a0 = ((-2147483648) : Int)))) : (a5 ≤ (181 : Int)) := by omega
theorem ow_88_213 {a0 : Int} (h0 : (((-2147483648) ≤ (a0 : Int)) ∧ (a0 ≤ (16 : Int)))) (h1 : ((a0 = ((-2147483648) : Int)) ∨ (0 ≤ (a0 : Int)))) : ((a0 = ((-2147483648) : Int)) ∨ (0 ≤ (a0 : Int))) := by omega
theorem ow_88_214 : (((-2147483648) = ((-2147483648) : Int)) ∨ (0 ≤ ((-2147483648) : Int))) := by omega
noncomputable def F_X12_ones_d0 (V0 : pm_M) : Int × pm_M := pf_let (V0 114 0) fun y1 => pf_let (V0 114 1) fun y4 => pf_let (V0 114 2) fun y7 => pf_let (V0 114 3) fun y10 => (0, (pm_up (pm_up V0 114 (0 : Int).toNat 1) 113 (0 : Int).toNat 1))
theorem F_X12_ones_d0_eq (V0 : pm_M) : F_X12_ones_d0 V0 = pf_let (V0 114 0) fun y1 => pf_let (V0 114 1) fun y4 => pf_let (V0 114 2) fun y7 => pf_let (V0 114 3) fun y10 => (0, (pm_up (pm_up V0 114 (0 : Int).toNat 1) 113 (0 : Int).toNat 1)) := rfl
noncomputable def F_X12_ones_d1 (V0 : pm_M) : Int × pm_M := pf_let (V0 114 0) fun y1 => pf_let (V0 114 1) fun y4 => pf_let (V0 114 2) fun y7 => pf_let (V0 114 3) fun y10 => (0, (pm_up (pm_up V0 114 (1 : Int).toNat 1) 113 (300 : Int).toNat 1))
theorem F_X12_ones_d1_eq (V0 : pm_M) : F_X12_ones_d1 V0 = pf_let (V0 114 0) fun y1 => pf_let (V0 114 1) fun y4 => pf_let (V0 114 2) fun y7 => pf_let (V0 114 3) fun y10 => (0, (pm_up (pm_up V0 114 (1 : Int).toNat 1) 113 (300 : Int).toNat 1)) := rfl
noncomputable def F_X12_multiplies_d0 (a1 : Int) (V0 : pm_M) : Int × pm_M := pf_let (V0 114 0) fun z0 => pf_let (V0 114 1) fun y1 => pf_let (V0 114 2) fun y4 => pf_let (V0 114 3) fun y7 => pf_val ((0 : Int), V0) (fun (q : Int × Int × pm_M) => match q with | (x10, x12, V15) => ((if z0 ≤ x12 then (pf_val (.inr ((0 : Int), V0)) (fun (q : Int × pm_M) => match q with | (x31, V33) => (pf_let (pm_cmp x31 0) fun y48 => (if y48 ≤ 0 then (pf_let (V33 114 0) fun y51 => pf_val (.inr (.inr ((0 : Int), V0))) (fun (q : pm_M) => match q with | V54 => (pf_let (V54 114 0) fun y69 => (if y69 ≤ 1 then ((.inr (.inr (.inr (0, V54))))) else (pf_let (V54 113 (((0 + y69) - 1) : Int).toNat) fun y74 => (if ¬ (y74 = 0) then ((.inr (.inr (.inr (0, V54))))) else ((.inl (pm_up V54 114 (0 : Int).toNat (y69 - 1))))))))) V33) else (pf_let (V33 114 0) fun y79 => (.inl ((x31 / 10000), (pm_up (pm_up V33 113 ((0 + y79) : Int).toNat (x31 % 10000)) 114 (0 : Int).toNat (y79 + 1)))))))) (x10, V15)) else (pf_let (V15 113 ((0 + x12) : Int).toNat) fun y83 => pf_let ((y83 * a1)) fun y86 => pf_let (x12 + 1) fun x89 => (.inl (((y86 + x10) / 10000), x89, (pm_up V15 113 ((0 + x12) : Int).toNat ((y86 + x10) % 10000)))))))) (0, 0, V0)
theorem F_X12_multiplies_d0_eq (a1 : Int) (V0 : pm_M) : F_X12_multiplies_d0 a1 V0 = pf_let (V0 114 0) fun z0 => pf_let (V0 114 1) fun y1 => pf_let (V0 114 2) fun y4 => pf_let (V0 114 3) fun y7 => pf_val ((0 : Int), V0) (fun (q : Int × Int × pm_M) => match q with | (x10, x12, V15) => ((if z0 ≤ x12 then (pf_val (.inr ((0 : Int), V0)) (fun (q : Int × pm_M) => match q with | (x31, V33) => (pf_let (pm_cmp x31 0) fun y48 => (if y48 ≤ 0 then (pf_let (V33 114 0) fun y51 => pf_val (.inr (.inr ((0 : Int), V0))) (fun (q : pm_M) => match q with | V54 => (pf_let (V54 114 0) fun y69 => (if y69 ≤ 1 then ((.inr (.inr (.inr (0, V54))))) else (pf_let (V54 113 (((0 + y69) - 1) : Int).toNat) fun y74 => (if ¬ (y74 = 0) then ((.inr (.inr (.inr (0, V54))))) else ((.inl (pm_up V54 114 (0 : Int).toNat (y69 - 1))))))))) V33) else (pf_let (V33 114 0) fun y79 => (.inl ((x31 / 10000), (pm_up (pm_up V33 113 ((0 + y79) : Int).toNat (x31 % 10000)) 114 (0 : Int).toNat (y79 + 1)))))))) (x10, V15)) else (pf_let (V15 113 ((0 + x12) : Int).toNat) fun y83 => pf_let ((y83 * a1)) fun y86 => pf_let (x12 + 1) fun x89 => (.inl (((y86 + x10) / 10000), x89, (pm_up V15 113 ((0 + x12) : Int).toNat ((y86 + x10) % 10000)))))))) (0, 0, V0) := rfl
noncomputable def F_X12_multiplies_d1 (a1 : Int) (V0 : pm_M) : Int × pm_M := pf_let (V0 114 1) fun z0 => pf_let (V0 114 0) fun y1 => pf_let (V0 114 2) fun y4 => pf_let (V0 114 3) fun y7 => pf_val ((0 : Int), V0) (fun (q : Int × Int × pm_M) => match q with | (x10, x12, V15) => ((if z0 ≤ x12 then (pf_val (.inr ((0 : Int), V0)) (fun (q : Int × pm_M) => match q with | (x31, V33) => (pf_let (pm_cmp x31 0) fun y48 => (if y48 ≤ 0 then (pf_let (V33 114 1) fun y51 => pf_val (.inr (.inr ((0 : Int), V0))) (fun (q : pm_M) => match q with | V54 => (pf_let (V54 114 1) fun y69 => (if y69 ≤ 1 then ((.inr (.inr (.inr (0, V54))))) else (pf_let (V54 113 (((300 + y69) - 1) : Int).toNat) fun y74 => (if ¬ (y74 = 0) then ((.inr (.inr (.inr (0, V54))))) else ((.inl (pm_up V54 114 (1 : Int).toNat (y69 - 1))))))))) V33) else (pf_let (V33 114 1) fun y79 => (.inl ((x31 / 10000), (pm_up (pm_up V33 113 ((300 + y79) : Int).toNat (x31 % 10000)) 114 (1 : Int).toNat (y79 + 1)))))))) (x10, V15)) else (pf_let (V15 113 ((300 + x12) : Int).toNat) fun y83 => pf_let ((y83 * a1)) fun y86 => pf_let (x12 + 1) fun x89 => (.inl (((y86 + x10) / 10000), x89, (pm_up V15 113 ((300 + x12) : Int).toNat ((y86 + x10) % 10000)))))))) (0, 0, V0)
theorem F_X12_multiplies_d1_eq (a1 : Int) (V0 : pm_M) : F_X12_multiplies_d1 a1 V0 = pf_let (V0 114 1) fun z0 => pf_let (V0 114 0) fun y1 => pf_let (V0 114 2) fun y4 => pf_let (V0 114 3) fun y7 => pf_val ((0 : Int), V0) (fun (q : Int × Int × pm_M) => match q with | (x10, x12, V15) => ((if z0 ≤ x12 then (pf_val (.inr ((0 : Int), V0)) (fun (q : Int × pm_M) => match q with | (x31, V33) => (pf_let (pm_cmp x31 0) fun y48 => (if y48 ≤ 0 then (pf_let (V33 114 1) fun y51 => pf_val (.inr (.inr ((0 : Int), V0))) (fun (q : pm_M) => match q with | V54 => (pf_let (V54 114 1) fun y69 => (if y69 ≤ 1 then ((.inr (.inr (.inr (0, V54))))) else (pf_let (V54 113 (((300 + y69) - 1) : Int).toNat) fun y74 => (if ¬ (y74 = 0) then ((.inr (.inr (.inr (0, V54))))) else ((.inl (pm_up V54 114 (1 : Int).toNat (y69 - 1))))))))) V33) else (pf_let (V33 114 1) fun y79 => (.inl ((x31 / 10000), (pm_up (pm_up V33 113 ((300 + y79) : Int).toNat (x31 % 10000)) 114 (1 : Int).toNat (y79 + 1)))))))) (x10, V15)) else (pf_let (V15 113 ((300 + x12) : Int).toNat) fun y83 => pf_let ((y83 * a1)) fun y86 => pf_let (x12 + 1) fun x89 => (.inl (((y86 + x10) / 10000), x89, (pm_up V15 113 ((300 + x12) : Int).toNat ((y86 + x10) % 10000)))))))) (0, 0, V0) := rfl
noncomputable def F_X12_fits_d0 (a1 a2 : Int) (V0 : pm_M) : Int × pm_M := pf_let (V0 114 0) fun y1 => pf_let (V0 114 1) fun y4 => pf_let (V0 114 2) fun y7 => pf_let (V0 114 3) fun y10 => pf_call (F_X12_ones_d0  V0) fun _ V14 => pf_let (V14 114 0) fun y27 => pf_let (V14 114 1) fun y30 => pf_let (V14 114 2) fun y33 => pf_let (V14 114 3) fun y36 => pf_call (F_X12_ones_d1  V14) fun _ V40 => pf_let (V40 114 0) fun y53 => pf_let (V40 114 1) fun y56 => pf_let (V40 114 2) fun y59 => pf_let (V40 114 3) fun y62 => pf_val ((0 : Int), V0) (fun (q : Int × pm_M) => match q with | (x65, V67) => (pf_let (V67 114 0) fun y84 => pf_let (V67 114 1) fun y87 => pf_let (V67 90 25) fun y90 => (if y90 ≤ x65 then ((.inr (0, V67))) else ((if a2 = (-1) then (pf_call (F_X12_worksAnswer x65 V67) fun _ V96 => pf_let (V96 90 42) fun z114 => pf_let (V96 90 43) fun z116 => pf_call (F_X12_weighs a1 V96) fun _ V119 => pf_let (V119 101 (((5 * x65) + 3) : Int).toNat) fun y142 => pf_let (V119 112 (y142 : Int).toNat) fun y145 => pf_call (F_X12_multiplies_d0 y145 V119) fun _ V149 => pf_let (V149 114 0) fun y171 => pf_let (V149 114 1) fun y174 => pf_let (V149 114 2) fun y177 => pf_let (V149 114 3) fun y180 => pf_let (V149 90 51) fun y183 => pf_call (F_X12_multiplies_d1 y183 V149) fun _ V187 => pf_let (V187 114 0) fun y210 => pf_let (V187 114 1) fun y213 => pf_let (V187 114 2) fun y216 => pf_let (V187 114 3) fun y219 => pf_let (x65 + 1) fun x222 => (.inl (x222, V187))) else (pf_let (V67 101 ((5 * x65) : Int).toNat) fun y225 => (if (y225 / 100) = a2 then (pf_call (F_X12_worksAnswer x65 V67) fun _ V230 => pf_let (V230 90 42) fun z249 => pf_let (V230 90 43) fun z251 => pf_call (F_X12_weighs a1 V230) fun _ V254 => pf_let (V254 101 (((5 * x65) + 3) : Int).toNat) fun y277 => pf_let (V254 112 (y277 : Int).toNat) fun y280 => pf_call (F_X12_multiplies_d0 y280 V254) fun _ V284 => pf_let (V284 114 0) fun y306 => pf_let (V284 114 1) fun y309 => pf_let (V284 114 2) fun y312 => pf_let (V284 114 3) fun y315 => pf_let (V284 90 51) fun y318 => pf_call (F_X12_multiplies_d1 y318 V284) fun _ V322 => pf_let (V322 114 0) fun y345 => pf_let (V322 114 1) fun y348 => pf_let (V322 114 2) fun y351 => pf_let (V322 114 3) fun y354 => pf_let (x65 + 1) fun x357 => (.inl (x357, V322))) else (pf_let (x65 + 1) fun x359 => (.inl (x359, V67)))))))))) (0, V40)
theorem F_X12_fits_d0_eq (a1 a2 : Int) (V0 : pm_M) : F_X12_fits_d0 a1 a2 V0 = pf_let (V0 114 0) fun y1 => pf_let (V0 114 1) fun y4 => pf_let (V0 114 2) fun y7 => pf_let (V0 114 3) fun y10 => pf_call (F_X12_ones_d0  V0) fun _ V14 => pf_let (V14 114 0) fun y27 => pf_let (V14 114 1) fun y30 => pf_let (V14 114 2) fun y33 => pf_let (V14 114 3) fun y36 => pf_call (F_X12_ones_d1  V14) fun _ V40 => pf_let (V40 114 0) fun y53 => pf_let (V40 114 1) fun y56 => pf_let (V40 114 2) fun y59 => pf_let (V40 114 3) fun y62 => pf_val ((0 : Int), V0) (fun (q : Int × pm_M) => match q with | (x65, V67) => (pf_let (V67 114 0) fun y84 => pf_let (V67 114 1) fun y87 => pf_let (V67 90 25) fun y90 => (if y90 ≤ x65 then ((.inr (0, V67))) else ((if a2 = (-1) then (pf_call (F_X12_worksAnswer x65 V67) fun _ V96 => pf_let (V96 90 42) fun z114 => pf_let (V96 90 43) fun z116 => pf_call (F_X12_weighs a1 V96) fun _ V119 => pf_let (V119 101 (((5 * x65) + 3) : Int).toNat) fun y142 => pf_let (V119 112 (y142 : Int).toNat) fun y145 => pf_call (F_X12_multiplies_d0 y145 V119) fun _ V149 => pf_let (V149 114 0) fun y171 => pf_let (V149 114 1) fun y174 => pf_let (V149 114 2) fun y177 => pf_let (V149 114 3) fun y180 => pf_let (V149 90 51) fun y183 => pf_call (F_X12_multiplies_d1 y183 V149) fun _ V187 => pf_let (V187 114 0) fun y210 => pf_let (V187 114 1) fun y213 => pf_let (V187 114 2) fun y216 => pf_let (V187 114 3) fun y219 => pf_let (x65 + 1) fun x222 => (.inl (x222, V187))) else (pf_let (V67 101 ((5 * x65) : Int).toNat) fun y225 => (if (y225 / 100) = a2 then (pf_call (F_X12_worksAnswer x65 V67) fun _ V230 => pf_let (V230 90 42) fun z249 => pf_let (V230 90 43) fun z251 => pf_call (F_X12_weighs a1 V230) fun _ V254 => pf_let (V254 101 (((5 * x65) + 3) : Int).toNat) fun y277 => pf_let (V254 112 (y277 : Int).toNat) fun y280 => pf_call (F_X12_multiplies_d0 y280 V254) fun _ V284 => pf_let (V284 114 0) fun y306 => pf_let (V284 114 1) fun y309 => pf_let (V284 114 2) fun y312 => pf_let (V284 114 3) fun y315 => pf_let (V284 90 51) fun y318 => pf_call (F_X12_multiplies_d1 y318 V284) fun _ V322 => pf_let (V322 114 0) fun y345 => pf_let (V322 114 1) fun y348 => pf_let (V322 114 2) fun y351 => pf_let (V322 114 3) fun y354 => pf_let (x65 + 1) fun x357 => (.inl (x357, V322))) else (pf_let (x65 + 1) fun x359 => (.inl (x359, V67)))))))))) (0, V40) := rfl
noncomputable def F_X12_more (a1 a2 a3 : Int) (V0 : pm_M) : Int × pm_M := pf_call (F_X12_isLaw a1 V0) fun y6 _ => (if y6 = 0 then (((-1), V0)) else (pf_call (F_X12_isLaw a2 V0) fun y13 _ => (if y13 = 0 then (((-1), V0)) else ((if a3 = (-1) then (pf_let (V0 114 0) fun y18 => pf_let (V0 114 1) fun y21 => pf_let (V0 114 2) fun y24 => pf_let (V0 114 3) fun y27 => pf_call (F_X12_fits_d0 a2 a3 V0) fun _ V31 => pf_let (V31 114 0) fun y45 => pf_let (V31 114 1) fun y48 => pf_let (V31 114 2) fun y51 => pf_let (V31 114 3) fun y54 => pf_call (F_X12_keeps  V31) fun _ V58 => pf_let (V58 114 0) fun y72 => pf_let (V58 114 1) fun y75 => pf_let (V58 114 2) fun y78 => pf_let (V58 114 3) fun y81 => pf_call (F_X12_fits_d0 a1 a3 V58) fun _ V85 => pf_let (V85 114 0) fun y99 => pf_let (V85 114 1) fun y102 => pf_let (V85 114 2) fun y105 => pf_let (V85 114 3) fun y108 => pf_call (F_X12_against  V85) fun y118 V112 => pf_let (V112 114 0) fun y132 => pf_let (V112 114 1) fun y135 => pf_let (V112 114 2) fun y138 => pf_let (V112 114 3) fun y141 => (if y118 ≤ 0 then ((if 0 ≤ y118 then ((0, V112)) else ((2, V112)))) else ((1, V112)))) else (pf_call (F_X12_isPerson a3 V0) fun y149 _ => (if ¬ (y149 = 0) then (pf_let (V0 114 0) fun y153 => pf_let (V0 114 1) fun y156 => pf_let (V0 114 2) fun y159 => pf_let (V0 114 3) fun y162 => pf_call (F_X12_fits_d0 a2 a3 V0) fun _ V166 => pf_let (V166 114 0) fun y180 => pf_let (V166 114 1) fun y183 => pf_let (V166 114 2) fun y186 => pf_let (V166 114 3) fun y189 => pf_call (F_X12_keeps  V166) fun _ V193 => pf_let (V193 114 0) fun y207 => pf_let (V193 114 1) fun y210 => pf_let (V193 114 2) fun y213 => pf_let (V193 114 3) fun y216 => pf_call (F_X12_fits_d0 a1 a3 V193) fun _ V220 => pf_let (V220 114 0) fun y234 => pf_let (V220 114 1) fun y237 => pf_let (V220 114 2) fun y240 => pf_let (V220 114 3) fun y243 => pf_call (F_X12_against  V220) fun y253 V247 => pf_let (V247 114 0) fun y267 => pf_let (V247 114 1) fun y270 => pf_let (V247 114 2) fun y273 => pf_let (V247 114 3) fun y276 => (if y253 ≤ 0 then ((if 0 ≤ y253 then ((0, V247)) else ((2, V247)))) else ((1, V247)))) else (((-1), V0)))))))))
theorem F_X12_more_eq (a1 a2 a3 : Int) (V0 : pm_M) : F_X12_more a1 a2 a3 V0 = pf_call (F_X12_isLaw a1 V0) fun y6 _ => (if y6 = 0 then (((-1), V0)) else (pf_call (F_X12_isLaw a2 V0) fun y13 _ => (if y13 = 0 then (((-1), V0)) else ((if a3 = (-1) then (pf_let (V0 114 0) fun y18 => pf_let (V0 114 1) fun y21 => pf_let (V0 114 2) fun y24 => pf_let (V0 114 3) fun y27 => pf_call (F_X12_fits_d0 a2 a3 V0) fun _ V31 => pf_let (V31 114 0) fun y45 => pf_let (V31 114 1) fun y48 => pf_let (V31 114 2) fun y51 => pf_let (V31 114 3) fun y54 => pf_call (F_X12_keeps  V31) fun _ V58 => pf_let (V58 114 0) fun y72 => pf_let (V58 114 1) fun y75 => pf_let (V58 114 2) fun y78 => pf_let (V58 114 3) fun y81 => pf_call (F_X12_fits_d0 a1 a3 V58) fun _ V85 => pf_let (V85 114 0) fun y99 => pf_let (V85 114 1) fun y102 => pf_let (V85 114 2) fun y105 => pf_let (V85 114 3) fun y108 => pf_call (F_X12_against  V85) fun y118 V112 => pf_let (V112 114 0) fun y132 => pf_let (V112 114 1) fun y135 => pf_let (V112 114 2) fun y138 => pf_let (V112 114 3) fun y141 => (if y118 ≤ 0 then ((if 0 ≤ y118 then ((0, V112)) else ((2, V112)))) else ((1, V112)))) else (pf_call (F_X12_isPerson a3 V0) fun y149 _ => (if ¬ (y149 = 0) then (pf_let (V0 114 0) fun y153 => pf_let (V0 114 1) fun y156 => pf_let (V0 114 2) fun y159 => pf_let (V0 114 3) fun y162 => pf_call (F_X12_fits_d0 a2 a3 V0) fun _ V166 => pf_let (V166 114 0) fun y180 => pf_let (V166 114 1) fun y183 => pf_let (V166 114 2) fun y186 => pf_let (V166 114 3) fun y189 => pf_call (F_X12_keeps  V166) fun _ V193 => pf_let (V193 114 0) fun y207 => pf_let (V193 114 1) fun y210 => pf_let (V193 114 2) fun y213 => pf_let (V193 114 3) fun y216 => pf_call (F_X12_fits_d0 a1 a3 V193) fun _ V220 => pf_let (V220 114 0) fun y234 => pf_let (V220 114 1) fun y237 => pf_let (V220 114 2) fun y240 => pf_let (V220 114 3) fun y243 => pf_call (F_X12_against  V220) fun y253 V247 => pf_let (V247 114 0) fun y267 => pf_let (V247 114 1) fun y270 => pf_let (V247 114 2) fun y273 => pf_let (V247 114 3) fun y276 => (if y253 ≤ 0 then ((if 0 ≤ y253 then ((0, V247)) else ((2, V247)))) else ((1, V247)))) else (((-1), V0))))))))) := rfl
noncomputable def F_X12_best (a1 : Int) (V0 : pm_M) : Int × pm_M := (if a1 = (-1) then (pf_let (V0 114 2) fun y4 => pf_let (V0 114 3) fun y7 => pf_val ((0 : Int), V0) (fun (q : Int × Int × pm_M) => match q with | (x10, x12, V14) => (pf_let (V14 114 2) fun y30 => pf_let (V14 114 3) fun y33 => (if 7 ≤ x12 then ((.inr (x10, V14))) else (pf_let (V14 114 0) fun y37 => pf_let (V14 114 1) fun y40 => pf_call (F_X12_fits_d0 x12 a1 V14) fun _ V44 => pf_let (V44 114 0) fun y58 => pf_let (V44 114 1) fun y61 => pf_let (V44 114 2) fun y64 => pf_let (V44 114 3) fun y67 => (if x10 = (-1) then (pf_call (F_X12_keeps  V44) fun _ V72 => pf_let (V72 114 0) fun y86 => pf_let (V72 114 1) fun y89 => pf_let (V72 114 2) fun y92 => pf_let (V72 114 3) fun y95 => pf_let (x12 + 1) fun x98 => (.inl (x12, x98, V72))) else (pf_call (F_X12_against  V44) fun y107 V101 => pf_let (V101 114 0) fun y121 => pf_let (V101 114 1) fun y124 => pf_let (V101 114 2) fun y127 => pf_let (V101 114 3) fun y130 => (if 0 < y107 then (pf_call (F_X12_keeps  V101) fun _ V135 => pf_let (V135 114 0) fun y149 => pf_let (V135 114 1) fun y152 => pf_let (V135 114 2) fun y155 => pf_let (V135 114 3) fun y158 => pf_let (x12 + 1) fun x161 => (.inl (x12, x161, V135))) else (pf_let (x12 + 1) fun x163 => (.inl (x10, x163, V101)))))))))) ((-1), 0, V0)) else (pf_call (F_X12_isPerson a1 V0) fun y168 _ => (if ¬ (y168 = 0) then (pf_let (V0 114 2) fun y172 => pf_let (V0 114 3) fun y175 => pf_val ((0 : Int), V0) (fun (q : Int × Int × pm_M) => match q with | (x178, x180, V182) => (pf_let (V182 114 2) fun y198 => pf_let (V182 114 3) fun y201 => (if 7 ≤ x180 then ((.inr (x178, V182))) else (pf_let (V182 114 0) fun y205 => pf_let (V182 114 1) fun y208 => pf_call (F_X12_fits_d0 x180 a1 V182) fun _ V212 => pf_let (V212 114 0) fun y226 => pf_let (V212 114 1) fun y229 => pf_let (V212 114 2) fun y232 => pf_let (V212 114 3) fun y235 => (if x178 = (-1) then (pf_call (F_X12_keeps  V212) fun _ V240 => pf_let (V240 114 0) fun y254 => pf_let (V240 114 1) fun y257 => pf_let (V240 114 2) fun y260 => pf_let (V240 114 3) fun y263 => pf_let (x180 + 1) fun x266 => (.inl (x180, x266, V240))) else (pf_call (F_X12_against  V212) fun y275 V269 => pf_let (V269 114 0) fun y289 => pf_let (V269 114 1) fun y292 => pf_let (V269 114 2) fun y295 => pf_let (V269 114 3) fun y298 => (if 0 < y275 then (pf_call (F_X12_keeps  V269) fun _ V303 => pf_let (V303 114 0) fun y317 => pf_let (V303 114 1) fun y320 => pf_let (V303 114 2) fun y323 => pf_let (V303 114 3) fun y326 => pf_let (x180 + 1) fun x329 => (.inl (x180, x329, V303))) else (pf_let (x180 + 1) fun x331 => (.inl (x178, x331, V269)))))))))) ((-1), 0, V0)) else (((-1), V0)))))
theorem F_X12_best_eq (a1 : Int) (V0 : pm_M) : F_X12_best a1 V0 = (if a1 = (-1) then (pf_let (V0 114 2) fun y4 => pf_let (V0 114 3) fun y7 => pf_val ((0 : Int), V0) (fun (q : Int × Int × pm_M) => match q with | (x10, x12, V14) => (pf_let (V14 114 2) fun y30 => pf_let (V14 114 3) fun y33 => (if 7 ≤ x12 then ((.inr (x10, V14))) else (pf_let (V14 114 0) fun y37 => pf_let (V14 114 1) fun y40 => pf_call (F_X12_fits_d0 x12 a1 V14) fun _ V44 => pf_let (V44 114 0) fun y58 => pf_let (V44 114 1) fun y61 => pf_let (V44 114 2) fun y64 => pf_let (V44 114 3) fun y67 => (if x10 = (-1) then (pf_call (F_X12_keeps  V44) fun _ V72 => pf_let (V72 114 0) fun y86 => pf_let (V72 114 1) fun y89 => pf_let (V72 114 2) fun y92 => pf_let (V72 114 3) fun y95 => pf_let (x12 + 1) fun x98 => (.inl (x12, x98, V72))) else (pf_call (F_X12_against  V44) fun y107 V101 => pf_let (V101 114 0) fun y121 => pf_let (V101 114 1) fun y124 => pf_let (V101 114 2) fun y127 => pf_let (V101 114 3) fun y130 => (if 0 < y107 then (pf_call (F_X12_keeps  V101) fun _ V135 => pf_let (V135 114 0) fun y149 => pf_let (V135 114 1) fun y152 => pf_let (V135 114 2) fun y155 => pf_let (V135 114 3) fun y158 => pf_let (x12 + 1) fun x161 => (.inl (x12, x161, V135))) else (pf_let (x12 + 1) fun x163 => (.inl (x10, x163, V101)))))))))) ((-1), 0, V0)) else (pf_call (F_X12_isPerson a1 V0) fun y168 _ => (if ¬ (y168 = 0) then (pf_let (V0 114 2) fun y172 => pf_let (V0 114 3) fun y175 => pf_val ((0 : Int), V0) (fun (q : Int × Int × pm_M) => match q with | (x178, x180, V182) => (pf_let (V182 114 2) fun y198 => pf_let (V182 114 3) fun y201 => (if 7 ≤ x180 then ((.inr (x178, V182))) else (pf_let (V182 114 0) fun y205 => pf_let (V182 114 1) fun y208 => pf_call (F_X12_fits_d0 x180 a1 V182) fun _ V212 => pf_let (V212 114 0) fun y226 => pf_let (V212 114 1) fun y229 => pf_let (V212 114 2) fun y232 => pf_let (V212 114 3) fun y235 => (if x178 = (-1) then (pf_call (F_X12_keeps  V212) fun _ V240 => pf_let (V240 114 0) fun y254 => pf_let (V240 114 1) fun y257 => pf_let (V240 114 2) fun y260 => pf_let (V240 114 3) fun y263 => pf_let (x180 + 1) fun x266 => (.inl (x180, x266, V240))) else (pf_call (F_X12_against  V212) fun y275 V269 => pf_let (V269 114 0) fun y289 => pf_let (V269 114 1) fun y292 => pf_let (V269 114 2) fun y295 => pf_let (V269 114 3) fun y298 => (if 0 < y275 then (pf_call (F_X12_keeps  V269) fun _ V303 => pf_let (V303 114 0) fun y317 => pf_let (V303 114 1) fun y320 => pf_let (V303 114 2) fun y323 => pf_let (V303 114 3) fun y326 => pf_let (x180 + 1) fun x329 => (.inl (x180, x329, V303))) else (pf_let (x180 + 1) fun x331 => (.inl (x178, x331, V269)))))))))) ((-1), 0, V0)) else (((-1), V0))))) := rfl
noncomputable def F_X12_own (a1 a2 : Int) (V0 : pm_M) : Int × pm_M := pf_call (F_X12_isPerson a1 V0) fun y4 _ => (if y4 = 0 then (((-2147483648), V0)) else (pf_call (F_X12_in a2 0 2 V0) fun y11 _ => (if ¬ (y11 = 0) then (pf_let (V0 100 ((4 * a1) : Int).toNat) fun y16 => pf_let (V0 100 (((4 * a1) + 1) : Int).toNat) fun y19 => pf_let (V0 100 (((4 * a1) + 2) : Int).toNat) fun y22 => (if ¬ (a2 = 2) then (pf_let (V0 114 2) fun y26 => pf_let (V0 114 3) fun y29 => pf_val ((0 : Int), V0) (fun (q : Int × Int × Int × pm_M) => match q with | (x32, x34, x36, V39) => (pf_let (V39 114 2) fun y56 => pf_let (V39 114 3) fun y59 => (if 12 < x36 then ((if ¬ (a2 = 0) then ((.inr (x34, (pm_up (pm_up V39 100 ((4 * a1) : Int).toNat y16) 100 (((4 * a1) + 1) : Int).toNat y19)))) else ((.inr (x32, (pm_up (pm_up V39 100 ((4 * a1) : Int).toNat y16) 100 (((4 * a1) + 1) : Int).toNat y19)))))) else (pf_val (.inr ((0 : Int), V0)) (fun (q : Int × Int × Int × pm_M) => match q with | (x64, x66, x68, V71) => (pf_let (V71 114 2) fun y88 => pf_let (V71 114 3) fun y91 => (if 12 < x68 then (pf_let (x36 + 1) fun x95 => (.inr (.inl (x64, x66, x95, V71)))) else (pf_let ((pm_up (pm_up V71 100 ((4 * a1) : Int).toNat x36) 100 (((4 * a1) + 1) : Int).toNat x68)) fun V97 => pf_let (V97 114 0) fun y108 => pf_let (V97 114 1) fun y111 => pf_call (F_X12_fits_d0 4 a1 V97) fun _ V115 => pf_let (V115 114 0) fun y130 => pf_let (V115 114 1) fun y133 => pf_let (V115 114 2) fun y136 => pf_let (V115 114 3) fun y139 => (if ¬ (x64 = (-2147483648)) then (pf_call (F_X12_against  V115) fun y150 V144 => pf_let (V144 114 0) fun y165 => pf_let (V144 114 1) fun y168 => pf_let (V144 114 2) fun y171 => pf_let (V144 114 3) fun y174 => (if y150 < 0 then (pf_let (x68 + 1) fun x178 => (.inl (x64, x66, x178, V144))) else ((if ¬ (y150 = 0) then (pf_call (F_X12_keeps  V144) fun _ V182 => pf_let (V182 114 0) fun y197 => pf_let (V182 114 1) fun y200 => pf_let (V182 114 2) fun y203 => pf_let (V182 114 3) fun y206 => pf_let (x68 + 1) fun x209 => (.inl (x36, x68, x209, V182))) else (pf_call (F_X12_far x36 V144) fun y214 _ => pf_call (F_X12_far x68 V144) fun y220 _ => pf_call (F_X12_far x64 V144) fun y226 _ => pf_call (F_X12_far x66 V144) fun y232 _ => pf_let (pm_w32 (y226 + y232)) fun y235 => (if (y214 + y220) < y235 then (pf_call (F_X12_keeps  V144) fun _ V240 => pf_let (V240 114 0) fun y255 => pf_let (V240 114 1) fun y258 => pf_let (V240 114 2) fun y261 => pf_let (V240 114 3) fun y264 => pf_let (x68 + 1) fun x267 => (.inl (x36, x68, x267, V240))) else (pf_let (x68 + 1) fun x269 => (.inl (x64, x66, x269, V144))))))))) else (pf_call (F_X12_keeps  V115) fun _ V274 => pf_let (V274 114 0) fun y289 => pf_let (V274 114 1) fun y292 => pf_let (V274 114 2) fun y295 => pf_let (V274 114 3) fun y298 => pf_let (x68 + 1) fun x301 => (.inl (x36, x68, x301, V274)))))))) (x32, x34, (-12), V39))))) ((-2147483648), 0, (-12), V0)) else (pf_let (V0 114 2) fun y303 => pf_let (V0 114 3) fun y306 => pf_val ((0 : Int), V0) (fun (q : Int × Int × pm_M) => match q with | (x309, x311, V314) => (pf_let (V314 114 2) fun y331 => pf_let (V314 114 3) fun y334 => (if 16 < x311 then ((.inr (x309, (pm_up V314 100 (((4 * a1) + 2) : Int).toNat y22)))) else (pf_let ((pm_up V314 100 (((4 * a1) + 2) : Int).toNat x311)) fun V338 => pf_let (V338 114 0) fun y349 => pf_let (V338 114 1) fun y352 => pf_call (F_X12_fits_d0 4 a1 V338) fun _ V356 => pf_let (V356 114 0) fun y371 => pf_let (V356 114 1) fun y374 => pf_let (V356 114 2) fun y377 => pf_let (V356 114 3) fun y380 => (if x309 = (-2147483648) then (pf_call (F_X12_keeps  V356) fun _ V385 => pf_let (V385 114 0) fun y400 => pf_let (V385 114 1) fun y403 => pf_let (V385 114 2) fun y406 => pf_let (V385 114 3) fun y409 => pf_let (x311 + 1) fun x412 => (.inl (x311, x412, V385))) else (pf_call (F_X12_against  V356) fun y421 V415 => pf_let (V415 114 0) fun y436 => pf_let (V415 114 1) fun y439 => pf_let (V415 114 2) fun y442 => pf_let (V415 114 3) fun y445 => (if 0 < y421 then (pf_call (F_X12_keeps  V415) fun _ V450 => pf_let (V450 114 0) fun y465 => pf_let (V450 114 1) fun y468 => pf_let (V450 114 2) fun y471 => pf_let (V450 114 3) fun y474 => pf_let (x311 + 1) fun x477 => (.inl (x311, x477, V450))) else (pf_let (x311 + 1) fun x479 => (.inl (x309, x479, V415)))))))))) ((-2147483648), 0, V0)))) else (((-2147483648), V0)))))
theorem F_X12_own_eq (a1 a2 : Int) (V0 : pm_M) : F_X12_own a1 a2 V0 = pf_call (F_X12_isPerson a1 V0) fun y4 _ => (if y4 = 0 then (((-2147483648), V0)) else (pf_call (F_X12_in a2 0 2 V0) fun y11 _ => (if ¬ (y11 = 0) then (pf_let (V0 100 ((4 * a1) : Int).toNat) fun y16 => pf_let (V0 100 (((4 * a1) + 1) : Int).toNat) fun y19 => pf_let (V0 100 (((4 * a1) + 2) : Int).toNat) fun y22 => (if ¬ (a2 = 2) then (pf_let (V0 114 2) fun y26 => pf_let (V0 114 3) fun y29 => pf_val ((0 : Int), V0) (fun (q : Int × Int × Int × pm_M) => match q with | (x32, x34, x36, V39) => (pf_let (V39 114 2) fun y56 => pf_let (V39 114 3) fun y59 => (if 12 < x36 then ((if ¬ (a2 = 0) then ((.inr (x34, (pm_up (pm_up V39 100 ((4 * a1) : Int).toNat y16) 100 (((4 * a1) + 1) : Int).toNat y19)))) else ((.inr (x32, (pm_up (pm_up V39 100 ((4 * a1) : Int).toNat y16) 100 (((4 * a1) + 1) : Int).toNat y19)))))) else (pf_val (.inr ((0 : Int), V0)) (fun (q : Int × Int × Int × pm_M) => match q with | (x64, x66, x68, V71) => (pf_let (V71 114 2) fun y88 => pf_let (V71 114 3) fun y91 => (if 12 < x68 then (pf_let (x36 + 1) fun x95 => (.inr (.inl (x64, x66, x95, V71)))) else (pf_let ((pm_up (pm_up V71 100 ((4 * a1) : Int).toNat x36) 100 (((4 * a1) + 1) : Int).toNat x68)) fun V97 => pf_let (V97 114 0) fun y108 => pf_let (V97 114 1) fun y111 => pf_call (F_X12_fits_d0 4 a1 V97) fun _ V115 => pf_let (V115 114 0) fun y130 => pf_let (V115 114 1) fun y133 => pf_let (V115 114 2) fun y136 => pf_let (V115 114 3) fun y139 => (if ¬ (x64 = (-2147483648)) then (pf_call (F_X12_against  V115) fun y150 V144 => pf_let (V144 114 0) fun y165 => pf_let (V144 114 1) fun y168 => pf_let (V144 114 2) fun y171 => pf_let (V144 114 3) fun y174 => (if y150 < 0 then (pf_let (x68 + 1) fun x178 => (.inl (x64, x66, x178, V144))) else ((if ¬ (y150 = 0) then (pf_call (F_X12_keeps  V144) fun _ V182 => pf_let (V182 114 0) fun y197 => pf_let (V182 114 1) fun y200 => pf_let (V182 114 2) fun y203 => pf_let (V182 114 3) fun y206 => pf_let (x68 + 1) fun x209 => (.inl (x36, x68, x209, V182))) else (pf_call (F_X12_far x36 V144) fun y214 _ => pf_call (F_X12_far x68 V144) fun y220 _ => pf_call (F_X12_far x64 V144) fun y226 _ => pf_call (F_X12_far x66 V144) fun y232 _ => pf_let (pm_w32 (y226 + y232)) fun y235 => (if (y214 + y220) < y235 then (pf_call (F_X12_keeps  V144) fun _ V240 => pf_let (V240 114 0) fun y255 => pf_let (V240 114 1) fun y258 => pf_let (V240 114 2) fun y261 => pf_let (V240 114 3) fun y264 => pf_let (x68 + 1) fun x267 => (.inl (x36, x68, x267, V240))) else (pf_let (x68 + 1) fun x269 => (.inl (x64, x66, x269, V144))))))))) else (pf_call (F_X12_keeps  V115) fun _ V274 => pf_let (V274 114 0) fun y289 => pf_let (V274 114 1) fun y292 => pf_let (V274 114 2) fun y295 => pf_let (V274 114 3) fun y298 => pf_let (x68 + 1) fun x301 => (.inl (x36, x68, x301, V274)))))))) (x32, x34, (-12), V39))))) ((-2147483648), 0, (-12), V0)) else (pf_let (V0 114 2) fun y303 => pf_let (V0 114 3) fun y306 => pf_val ((0 : Int), V0) (fun (q : Int × Int × pm_M) => match q with | (x309, x311, V314) => (pf_let (V314 114 2) fun y331 => pf_let (V314 114 3) fun y334 => (if 16 < x311 then ((.inr (x309, (pm_up V314 100 (((4 * a1) + 2) : Int).toNat y22)))) else (pf_let ((pm_up V314 100 (((4 * a1) + 2) : Int).toNat x311)) fun V338 => pf_let (V338 114 0) fun y349 => pf_let (V338 114 1) fun y352 => pf_call (F_X12_fits_d0 4 a1 V338) fun _ V356 => pf_let (V356 114 0) fun y371 => pf_let (V356 114 1) fun y374 => pf_let (V356 114 2) fun y377 => pf_let (V356 114 3) fun y380 => (if x309 = (-2147483648) then (pf_call (F_X12_keeps  V356) fun _ V385 => pf_let (V385 114 0) fun y400 => pf_let (V385 114 1) fun y403 => pf_let (V385 114 2) fun y406 => pf_let (V385 114 3) fun y409 => pf_let (x311 + 1) fun x412 => (.inl (x311, x412, V385))) else (pf_call (F_X12_against  V356) fun y421 V415 => pf_let (V415 114 0) fun y436 => pf_let (V415 114 1) fun y439 => pf_let (V415 114 2) fun y442 => pf_let (V415 114 3) fun y445 => (if 0 < y421 then (pf_call (F_X12_keeps  V415) fun _ V450 => pf_let (V450 114 0) fun y465 => pf_let (V450 114 1) fun y468 => pf_let (V450 114 2) fun y471 => pf_let (V450 114 3) fun y474 => pf_let (x311 + 1) fun x477 => (.inl (x311, x477, V450))) else (pf_let (x311 + 1) fun x479 => (.inl (x309, x479, V415)))))))))) ((-2147483648), 0, V0)))) else (((-2147483648), V0))))) := rfl
set_option maxHeartbeats 4000000 in
set_option maxRecDepth 100000 in
theorem fB_X12_ones_d0  : pm_K 1 yX12_ones cX12_ones 2 none (fun av V => av = [(3, 90), (0, 0)] ∧ pm_oq pm_qB V) (fun _ V r V' => r = none ∧ pm_oq pm_qB V' ∧ pm_fs [113, 114] [] V V' ∧ (V' 114 0 = 1) ∧ (V' 114 1 = V 114 1) ∧ (V' 114 2 = V 114 2) ∧ (V' 114 3 = V 114 3) ∧ F_X12_ones_d0  V = (0, V')) := by
  refine pm_MT.of (by decide) ⟨Nat.le_refl _, by decide⟩ (fun av V h => by rw [h.1]; exact (by decide : pm_words [(3, 0), (0, 0)] ≤ 2)) ?_
  rintro X av V0 hC - hR ⟨rfl, hV0⟩
  change pm_J X 0 [(0, (3, 90)), (1, (0, 0))] [] 118 V0
  have hT := F_X12_ones_d0_eq  V0
  obtain ⟨y1, e2⟩ : ∃ y, V0 114 0 = y := ⟨_, rfl⟩
  have b3 := hV0.get 114 0 (lo := 0) (hi := 600) (by decide) (by decide) rfl
  rw [e2] at b3
  replace hT := hT.trans (pf_let_eq e2)
  obtain ⟨y4, e5⟩ : ∃ y, V0 114 1 = y := ⟨_, rfl⟩
  have b6 := hV0.get 114 1 (lo := 0) (hi := 600) (by decide) (by decide) rfl
  rw [e5] at b6
  replace hT := hT.trans (pf_let_eq e5)
  obtain ⟨y7, e8⟩ : ∃ y, V0 114 2 = y := ⟨_, rfl⟩
  have b9 := hV0.get 114 2 (lo := 0) (hi := 600) (by decide) (by decide) rfl
  rw [e8] at b9
  replace hT := hT.trans (pf_let_eq e8)
  obtain ⟨y10, e11⟩ : ∃ y, V0 114 3 = y := ⟨_, rfl⟩
  have b12 := hV0.get 114 3 (lo := 0) (hi := 600) (by decide) (by decide) rfl
  rw [e11] at b12
  replace hT := hT.trans (pf_let_eq e11)
  refine pm_aload_n hC 0 (by decide) dX12_ones_0 rfl ?_
  have e13 : V0 90 53 = 114 := hV0.one 90 53 (by decide) (by decide) rfl
  refine pm_getf (v := 114) hC 90 fl_X12_82 rfl rfl (by decide) rfl e13 dX12_ones_1 ?_
  refine pm_iload_n hC 1 dX12_ones_4 rfl ?_
  refine pm_iconst (v := 1) hC dX12_ones_5 ?_
  refine pm_iastore (len := 8) hC 114 rfl rfl (by decide) ⟨by decide, by decide⟩ (by decide) dX12_ones_6 ?_
  refine pm_aload_n hC 0 (by decide) dX12_ones_7 rfl ?_
  have e14 : V0 90 52 = 113 := hV0.one 90 52 (by decide) (by decide) rfl
  refine pm_getf (v := 113) hC 90 fl_X12_79 rfl rfl (by decide) rfl e14 dX12_ones_8 ?_
  refine pm_iload_n hC 1 dX12_ones_11 rfl ?_
  refine pm_sipush (v := 300) hC dX12_ones_12 (by decide) ?_
  refine pm_imul hC dX12_ones_15 ?_
  change pm_J X 16 [(0, (3, 90)), (1, (0, 0))] [(0, 0), (3, 113)] 118 (pm_up V0 114 (0 : Int).toNat 1)
  refine pm_iconst (v := 1) hC dX12_ones_16 ?_
  refine pm_iastore (len := 2400) hC 113 rfl rfl (by decide) ⟨by decide, by decide⟩ (by decide) dX12_ones_17 ?_
  exact pm_vret hC hR ⟨rfl, ((hV0.put 114 (0 : Int).toNat (x := 1) (lo := 0) (hi := 600) rfl ⟨by decide, by decide⟩).put 113 (0 : Int).toNat (x := 1) (lo := 0) (hi := 9999) rfl ⟨by decide, by decide⟩), (((pm_fs.rf (cs := [113, 114]) (fs := []) (V := V0)).up 114 (0 : Int).toNat 1 (by decide) rfl).up 113 (0 : Int).toNat 1 (by decide) rfl), (by have q := (show (pm_up (pm_up V0 114 (0 : Int).toNat 1) 113 (0 : Int).toNat 1) 114 0 = 1 from rfl); have q2 := e2; omega), (by have q := (show (pm_up (pm_up V0 114 (0 : Int).toNat 1) 113 (0 : Int).toNat 1) 114 1 = y4 from e5); have q2 := e5; exact ow_88_0 e5 q), (by have q := (show (pm_up (pm_up V0 114 (0 : Int).toNat 1) 113 (0 : Int).toNat 1) 114 2 = y7 from e8); have q2 := e8; exact ow_88_0 e8 q), (by have q := (show (pm_up (pm_up V0 114 (0 : Int).toNat 1) 113 (0 : Int).toNat 1) 114 3 = y10 from e11); have q2 := e11; exact ow_88_0 e11 q), hT⟩ dX12_ones_18
set_option maxHeartbeats 4000000 in
set_option maxRecDepth 100000 in
theorem fB_X12_ones_d1  : pm_K 1 yX12_ones cX12_ones 2 none (fun av V => av = [(3, 90), (0, 1)] ∧ pm_oq pm_qB V) (fun _ V r V' => r = none ∧ pm_oq pm_qB V' ∧ pm_fs [113, 114] [] V V' ∧ (V' 114 0 = V 114 0) ∧ (V' 114 1 = 1) ∧ (V' 114 2 = V 114 2) ∧ (V' 114 3 = V 114 3) ∧ F_X12_ones_d1  V = (0, V')) := by
  refine pm_MT.of (by decide) ⟨Nat.le_refl _, by decide⟩ (fun av V h => by rw [h.1]; exact (by decide : pm_words [(3, 0), (0, 0)] ≤ 2)) ?_
  rintro X av V0 hC - hR ⟨rfl, hV0⟩
  change pm_J X 0 [(0, (3, 90)), (1, (0, 1))] [] 118 V0
  have hT := F_X12_ones_d1_eq  V0
  obtain ⟨y1, e2⟩ : ∃ y, V0 114 0 = y := ⟨_, rfl⟩
  have b3 := hV0.get 114 0 (lo := 0) (hi := 600) (by decide) (by decide) rfl
  rw [e2] at b3
  replace hT := hT.trans (pf_let_eq e2)
  obtain ⟨y4, e5⟩ : ∃ y, V0 114 1 = y := ⟨_, rfl⟩
  have b6 := hV0.get 114 1 (lo := 0) (hi := 600) (by decide) (by decide) rfl
  rw [e5] at b6
  replace hT := hT.trans (pf_let_eq e5)
  obtain ⟨y7, e8⟩ : ∃ y, V0 114 2 = y := ⟨_, rfl⟩
  have b9 := hV0.get 114 2 (lo := 0) (hi := 600) (by decide) (by decide) rfl
  rw [e8] at b9
  replace hT := hT.trans (pf_let_eq e8)
  obtain ⟨y10, e11⟩ : ∃ y, V0 114 3 = y := ⟨_, rfl⟩
  have b12 := hV0.get 114 3 (lo := 0) (hi := 600) (by decide) (by decide) rfl
  rw [e11] at b12
  replace hT := hT.trans (pf_let_eq e11)
  refine pm_aload_n hC 0 (by decide) dX12_ones_0 rfl ?_
  have e13 : V0 90 53 = 114 := hV0.one 90 53 (by decide) (by decide) rfl
  refine pm_getf (v := 114) hC 90 fl_X12_82 rfl rfl (by decide) rfl e13 dX12_ones_1 ?_
  refine pm_iload_n hC 1 dX12_ones_4 rfl ?_
  refine pm_iconst (v := 1) hC dX12_ones_5 ?_
  refine pm_iastore (len := 8) hC 114 rfl rfl (by decide) ⟨by decide, by decide⟩ (by decide) dX12_ones_6 ?_
  refine pm_aload_n hC 0 (by decide) dX12_ones_7 rfl ?_
  have e14 : V0 90 52 = 113 := hV0.one 90 52 (by decide) (by decide) rfl
  refine pm_getf (v := 113) hC 90 fl_X12_79 rfl rfl (by decide) rfl e14 dX12_ones_8 ?_
  refine pm_iload_n hC 1 dX12_ones_11 rfl ?_
  refine pm_sipush (v := 300) hC dX12_ones_12 (by decide) ?_
  refine pm_imul hC dX12_ones_15 ?_
  change pm_J X 16 [(0, (3, 90)), (1, (0, 1))] [(0, 300), (3, 113)] 118 (pm_up V0 114 (1 : Int).toNat 1)
  refine pm_iconst (v := 1) hC dX12_ones_16 ?_
  refine pm_iastore (len := 2400) hC 113 rfl rfl (by decide) ⟨by decide, by decide⟩ (by decide) dX12_ones_17 ?_
  exact pm_vret hC hR ⟨rfl, ((hV0.put 114 (1 : Int).toNat (x := 1) (lo := 0) (hi := 600) rfl ⟨by decide, by decide⟩).put 113 (300 : Int).toNat (x := 1) (lo := 0) (hi := 9999) rfl ⟨by decide, by decide⟩), (((pm_fs.rf (cs := [113, 114]) (fs := []) (V := V0)).up 114 (1 : Int).toNat 1 (by decide) rfl).up 113 (300 : Int).toNat 1 (by decide) rfl), (by have q := (show (pm_up (pm_up V0 114 (1 : Int).toNat 1) 113 (300 : Int).toNat 1) 114 0 = y1 from e2); have q2 := e2; exact ow_88_0 e2 q), (by have q := (show (pm_up (pm_up V0 114 (1 : Int).toNat 1) 113 (300 : Int).toNat 1) 114 1 = 1 from rfl); have q2 := e5; omega), (by have q := (show (pm_up (pm_up V0 114 (1 : Int).toNat 1) 113 (300 : Int).toNat 1) 114 2 = y7 from e8); have q2 := e8; exact ow_88_0 e8 q), (by have q := (show (pm_up (pm_up V0 114 (1 : Int).toNat 1) 113 (300 : Int).toNat 1) 114 3 = y10 from e11); have q2 := e11; exact ow_88_0 e11 q), hT⟩ dX12_ones_18
set_option maxHeartbeats 4000000 in
set_option maxRecDepth 100000 in
theorem fB_X12_multiplies_d0 (a1 : Int) (h0 : 0 ≤ a1 ∧ a1 ≤ 720000000) : pm_K 1 yX12_multiplies cX12_multiplies 9 none (fun av V => av = [(3, 90), (0, 0), (1, a1)] ∧ pm_oq pm_qB V ∧ (1 ≤ V 114 0 ∧ V 114 0 ≤ 181)) (fun _ V r V' => r = none ∧ pm_oq pm_qB V' ∧ pm_fs [113, 114] [] V V' ∧ (1 ≤ V' 114 0 ∧ V' 114 0 ≤ V 114 0 + 3) ∧ (V' 114 1 = V 114 1) ∧ (V' 114 2 = V 114 2) ∧ (V' 114 3 = V 114 3) ∧ F_X12_multiplies_d0 a1 V = (0, V')) := by
  refine pm_MT.of (by decide) ⟨Nat.le_refl _, by decide⟩ (fun av V h => by rw [h.1]; exact (by decide : pm_words [(3, 0), (0, 0), (1, 0)] ≤ 9)) ?_
  rintro X av V0 hC - hR ⟨rfl, hV0, hq0⟩
  change pm_J X 0 [(0, (3, 90)), (1, (0, 0)), (2, (1, a1))] [] 118 V0
  have hT := F_X12_multiplies_d0_eq a1 V0
  obtain ⟨z0, ez0⟩ : ∃ z, V0 114 0 = z := ⟨_, rfl⟩
  rw [ez0] at hq0
  replace hT := hT.trans (pf_let_eq ez0)
  obtain ⟨y1, e2⟩ : ∃ y, V0 114 1 = y := ⟨_, rfl⟩
  have b3 := hV0.get 114 1 (lo := 0) (hi := 600) (by decide) (by decide) rfl
  rw [e2] at b3
  replace hT := hT.trans (pf_let_eq e2)
  obtain ⟨y4, e5⟩ : ∃ y, V0 114 2 = y := ⟨_, rfl⟩
  have b6 := hV0.get 114 2 (lo := 0) (hi := 600) (by decide) (by decide) rfl
  rw [e5] at b6
  replace hT := hT.trans (pf_let_eq e5)
  obtain ⟨y7, e8⟩ : ∃ y, V0 114 3 = y := ⟨_, rfl⟩
  have b9 := hV0.get 114 3 (lo := 0) (hi := 600) (by decide) (by decide) rfl
  rw [e8] at b9
  replace hT := hT.trans (pf_let_eq e8)
  refine pm_lconst (x := 0) hC dX12_multiplies_0 rfl ?_
  refine pm_lstore (lv' := [(4, (1, 0)), (0, (3, 90)), (1, (0, 0)), (2, (1, a1))]) hC dX12_multiplies_1 (by decide) rfl ?_
  refine pm_iconst (v := 0) hC dX12_multiplies_3 ?_
  refine pm_istore (lv' := [(6, (0, 0)), (4, (1, 0)), (0, (3, 90)), (1, (0, 0)), (2, (1, a1))]) hC dX12_multiplies_4 (by decide) rfl ?_
  obtain ⟨B22, hB23, hT⟩ := pf_loop hT
  have L25 : ∀ (N27 : Nat) (x10 : Int) (x12 : Int) (V15 : pm_M), (0 ≤ x10 ∧ x10 ≤ 720000000) → (0 ≤ x12 ∧ x12 ≤ 181) → (x10 ≤ a1) → pm_oq pm_qB V15 → pm_fs [113, 114] [] V0 V15 → V15 114 0 = z0 → V15 114 1 = y1 → V15 114 2 = y4 → V15 114 3 = y7 → F_X12_multiplies_d0 a1 V0 = pf_val ((0 : Int), V0) B22 (x10, x12, V15) → (Int.toNat (181 - x12)) = N27 → pm_J X 6 [(0, (3, 90)), (1, (0, 0)), (2, (1, a1)), (4, (1, x10)), (6, (0, x12))] [] 118 V15 := by
    intro N27
    induction N27 using Nat.strongRecOn with
    | _ N27 ih28 =>
    intro x10 x12 V15 b11 b13 b14 hV16 hF17 e18 e19 e20 e21 hT hm26
    have hb24 := congrFun hB23 (x10, x12, V15)
    refine pm_iload hC 4 dX12_multiplies_6 rfl ?_
    refine pm_aload_n hC 0 (by decide) dX12_multiplies_8 rfl ?_
    have e29 : V15 90 53 = 114 := hV16.one 90 53 (by decide) (by decide) rfl
    refine pm_getf (v := 114) hC 90 fl_X12_82 rfl rfl (by decide) rfl e29 dX12_multiplies_9 ?_
    refine pm_iload_n hC 1 dX12_multiplies_12 rfl ?_
    refine pm_iaload (len := 8) (v := z0) hC 114 rfl rfl (by decide) ⟨by decide, by decide⟩ (by decide) e18 dX12_multiplies_13 ?_
    refine pm_icmp_ge (tgt := 72) hC ⟨by exact ow_88_1 b13, by exact ow_88_2 b13⟩ ⟨by exact ow_88_3 hq0, by exact ow_88_4 hq0⟩ dX12_multiplies_14 (by decide) (fun c30 => ?_) (fun c30 => ?_)
    · skip
      replace hb24 := hb24.trans (if_pos c30)
      obtain ⟨B41, hB42, hb24⟩ := pf_loop hb24
      have L44 : ∀ (N46 : Nat) (x31 : Int) (V33 : pm_M), (0 ≤ x31 ∧ x31 ≤ 720000000) → pm_oq pm_qB V33 → pm_fs [113, 114] [] V0 V33 → V33 114 1 = y1 → V33 114 2 = y4 → V33 114 3 = y7 → V33 90 53 = 114 → (1 ≤ V33 114 0 ∧ V33 114 0 ≤ z0 + 3 ∧ (1 ≤ x31 → V33 114 0 ≤ z0 + 2) ∧ (8 ≤ x31 → V33 114 0 ≤ z0 + 1) ∧ (72001 ≤ x31 → V33 114 0 ≤ z0)) → B22 (x10, x12, V15) = pf_val (.inr ((0 : Int), V0)) B41 (x31, V33) → (Int.toNat x31) = N46 → pm_J X 72 [(0, (3, 90)), (1, (0, 0)), (2, (1, a1)), (4, (1, x31)), (6, (0, x12))] [] 118 V33 := by
        intro N46
        induction N46 using Nat.strongRecOn with
        | _ N46 ih47 =>
        intro x31 V33 b32 hV34 hF35 e36 e37 e38 e39 hm40 hb24 hm45
        have hb43 := congrFun hB42 (x31, V33)
        refine pm_lload hC 3 dX12_multiplies_72 rfl ?_
        refine pm_lconst (x := 0) hC dX12_multiplies_74 rfl ?_
        refine pm_lcmp hC ⟨by exact ow_88_5 b32, by exact ow_88_6 b32⟩ ⟨by decide, by decide⟩ dX12_multiplies_75 (fun y48 b49 => ?_)
        replace hb43 := hb43.trans (pf_let_eq (pm_cmp_u b49))
        refine pm_if_le (tgt := 124) hC ⟨by exact ow_88_7 b49, by exact ow_88_8 b49⟩ dX12_multiplies_76 (by decide) (fun c50 => ?_) (fun c50 => ?_)
        · skip
          replace hb43 := hb43.trans (if_pos c50)
          obtain ⟨y51, e52⟩ : ∃ y, V33 114 0 = y := ⟨_, rfl⟩
          have b53 := hV34.get 114 0 (lo := 0) (hi := 600) (by decide) (by decide) rfl
          rw [e52] at b53
          replace hb43 := hb43.trans (pf_let_eq e52)
          obtain ⟨B62, hB63, hb43⟩ := pf_loop hb43
          have L65 : ∀ (N67 : Nat) (V54 : pm_M), pm_oq pm_qB V54 → pm_fs [113, 114] [] V0 V54 → V54 114 1 = y1 → V54 114 2 = y4 → V54 114 3 = y7 → V54 90 53 = 114 → (1 ≤ V54 114 0 ∧ V54 114 0 ≤ z0 + 3) → B41 (x31, V33) = pf_val (.inr (.inr ((0 : Int), V0))) B62 V54 → (Int.toNat (V54 114 0)) = N67 → pm_J X 124 [(0, (3, 90)), (1, (0, 0)), (2, (1, a1)), (4, (1, x31)), (6, (0, x12))] [] 118 V54 := by
            intro N67
            induction N67 using Nat.strongRecOn with
            | _ N67 ih68 =>
            intro V54 hV55 hF56 e57 e58 e59 e60 hm61 hb43 hm66
            have hb64 := congrFun hB63 V54
            refine pm_aload_n hC 0 (by decide) dX12_multiplies_124 rfl ?_
            refine pm_getf (v := 114) hC 90 fl_X12_82 rfl rfl (by decide) rfl e60 dX12_multiplies_125 ?_
            refine pm_iload_n hC 1 dX12_multiplies_128 rfl ?_
            obtain ⟨y69, e70⟩ : ∃ y, V54 114 0 = y := ⟨_, rfl⟩
            have b71 := hV55.get 114 0 (lo := 0) (hi := 600) (by decide) (by decide) rfl
            rw [e70] at b71
            replace hb64 := hb64.trans (pf_let_eq e70)
            refine pm_iaload (len := 8) (v := y69) hC 114 rfl rfl (by decide) ⟨by decide, by decide⟩ (by decide) e70 dX12_multiplies_129 ?_
            refine pm_iconst (v := 1) hC dX12_multiplies_130 ?_
            refine pm_icmp_le (tgt := 169) hC ⟨by exact ow_88_9 b71, by exact ow_88_10 b71⟩ ⟨by decide, by decide⟩ dX12_multiplies_131 (by decide) (fun c72 => ?_) (fun c72 => ?_)
            · skip
              replace hb64 := hb64.trans (if_pos c72)
              replace hb43 := hb43.trans (pf_val_inr hb64)
              replace hb24 := hb24.trans (pf_val_inr hb43)
              replace hT := hT.trans (pf_val_inr hb24)
              exact pm_vret hC hR ⟨rfl, hV55, hF56, (by have q := (show V54 114 0 = y69 from e70); have q2 := ez0; exact ow_88_11 hq0 ez0 hm61 e70 c72), (by have q := (show V54 114 1 = y1 from e57); have q2 := e2; exact ow_88_0 e2 e57), (by have q := (show V54 114 2 = y4 from e58); have q2 := e5; exact ow_88_0 e5 e58), (by have q := (show V54 114 3 = y7 from e59); have q2 := e8; exact ow_88_0 e8 e59), hT⟩ dX12_multiplies_169
            · skip
              replace hb64 := hb64.trans (if_neg (Int.not_le.mpr c72))
              refine pm_aload_n hC 0 (by decide) dX12_multiplies_134 rfl ?_
              have e73 : V54 90 52 = 113 := hV55.one 90 52 (by decide) (by decide) rfl
              refine pm_getf (v := 113) hC 90 fl_X12_79 rfl rfl (by decide) rfl e73 dX12_multiplies_135 ?_
              refine pm_iload_n hC 1 dX12_multiplies_138 rfl ?_
              refine pm_sipush (v := 300) hC dX12_multiplies_139 (by decide) ?_
              refine pm_imul hC dX12_multiplies_142 ?_
              change pm_J X 143 [(0, (3, 90)), (1, (0, 0)), (2, (1, a1)), (4, (1, x31)), (6, (0, x12))] [(0, 0), (3, 113)] 118 V54
              refine pm_aload_n hC 0 (by decide) dX12_multiplies_143 rfl ?_
              refine pm_getf (v := 114) hC 90 fl_X12_82 rfl rfl (by decide) rfl e60 dX12_multiplies_144 ?_
              refine pm_iload_n hC 1 dX12_multiplies_147 rfl ?_
              refine pm_iaload (len := 8) (v := y69) hC 114 rfl rfl (by decide) ⟨by decide, by decide⟩ (by decide) e70 dX12_multiplies_148 ?_
              refine pm_iadd hC dX12_multiplies_149 ?_
              refine pm_iconst (v := 1) hC dX12_multiplies_150 ?_
              refine pm_isub hC dX12_multiplies_151 ?_
              obtain ⟨y74, e75⟩ : ∃ y, V54 113 (((0 + y69) - 1) : Int).toNat = y := ⟨_, rfl⟩
              replace hb64 := hb64.trans (pf_let_eq e75)
              have b76 := hV55.get 113 (((0 + y69) - 1) : Int).toNat (lo := 0) (hi := 9999) (t := 0) (by decide) (show _ < 2400 by exact ow_88_12 b71) rfl
              rw [e75] at b76
              refine pm_iaload (len := 2400) (v := y74) hC 113 rfl rfl (by decide) ⟨by exact ow_88_13 c72, by exact ow_88_14 b71⟩ (by decide) e75 dX12_multiplies_152 ?_
              refine pm_if_ne (tgt := 169) hC ⟨by exact ow_88_15 b76, by exact ow_88_16 b76⟩ dX12_multiplies_153 (by decide) (fun c77 => ?_) (fun c77 => ?_)
              · skip
                replace hb64 := hb64.trans (if_pos c77)
                replace hb43 := hb43.trans (pf_val_inr hb64)
                replace hb24 := hb24.trans (pf_val_inr hb43)
                replace hT := hT.trans (pf_val_inr hb24)
                exact pm_vret hC hR ⟨rfl, hV55, hF56, (by have q := (show V54 114 0 = y69 from e70); have q2 := ez0; exact ow_88_17 ez0 hm61 e70 c72), (by have q := (show V54 114 1 = y1 from e57); have q2 := e2; exact ow_88_0 e2 e57), (by have q := (show V54 114 2 = y4 from e58); have q2 := e5; exact ow_88_0 e5 e58), (by have q := (show V54 114 3 = y7 from e59); have q2 := e8; exact ow_88_0 e8 e59), hT⟩ dX12_multiplies_169
              · skip
                replace hb64 := hb64.trans (if_neg (fun q => q c77))
                refine pm_aload_n hC 0 (by decide) dX12_multiplies_156 rfl ?_
                refine pm_getf (v := 114) hC 90 fl_X12_82 rfl rfl (by decide) rfl e60 dX12_multiplies_157 ?_
                refine pm_iload_n hC 1 dX12_multiplies_160 rfl ?_
                refine pm_dup2 hC rfl rfl dX12_multiplies_161 ?_
                refine pm_iaload (len := 8) (v := y69) hC 114 rfl rfl (by decide) ⟨by decide, by decide⟩ (by decide) e70 dX12_multiplies_162 ?_
                refine pm_iconst (v := 1) hC dX12_multiplies_163 ?_
                refine pm_isub hC dX12_multiplies_164 ?_
                refine pm_iastore (len := 8) hC 114 rfl rfl (by decide) ⟨by decide, by decide⟩ (by decide) dX12_multiplies_165 ?_
                refine pm_goto (tgt := 124) hC dX12_multiplies_166 (by decide) ?_
                refine pm_lvsub [0, 1, 2, 3, 4] (lv' := [(0, (3, 90)), (1, (0, 0)), (2, (1, a1)), (4, (1, x31)), (6, (0, x12))]) rfl ?_
                exact ih68 _ (by show Int.toNat ((y69 - 1)) < _; exact ow_88_18 hm66 e70 c72) (pm_up V54 114 (0 : Int).toNat (y69 - 1)) (hV55.put 114 (0 : Int).toNat (x := (y69 - 1)) (lo := 0) (hi := 600) rfl ⟨by exact ow_88_19 c72, by exact ow_88_20 hq0 hm61 e70⟩) (hF56.up 114 (0 : Int).toNat (y69 - 1) (by decide) rfl) e57 e58 e59 e60 (show 1 ≤ (y69 - 1) ∧ (y69 - 1) ≤ z0 + 3 by exact ow_88_21 hm61 e70 c72) (hb43.trans (pf_val_inl hb64)) rfl
          refine pm_lvsub [0, 1, 2, 3, 4] (lv' := [(0, (3, 90)), (1, (0, 0)), (2, (1, a1)), (4, (1, x31)), (6, (0, x12))]) rfl ?_
          exact L65 _ V33 hV34 hF35 e36 e37 e38 e39 (by (have e : V33 114 0 = y51 := e52); rw [e]; exact ow_88_22 hm40 e52) hb43 rfl
        · skip
          replace hb43 := hb43.trans (if_neg (Int.not_le.mpr c50))
          refine pm_aload_n hC 0 (by decide) dX12_multiplies_79 rfl ?_
          have e78 : V33 90 52 = 113 := hV34.one 90 52 (by decide) (by decide) rfl
          refine pm_getf (v := 113) hC 90 fl_X12_79 rfl rfl (by decide) rfl e78 dX12_multiplies_80 ?_
          refine pm_iload_n hC 1 dX12_multiplies_83 rfl ?_
          refine pm_sipush (v := 300) hC dX12_multiplies_84 (by decide) ?_
          refine pm_imul hC dX12_multiplies_87 ?_
          change pm_J X 88 [(0, (3, 90)), (1, (0, 0)), (2, (1, a1)), (4, (1, x31)), (6, (0, x12))] [(0, 0), (3, 113)] 118 V33
          refine pm_aload_n hC 0 (by decide) dX12_multiplies_88 rfl ?_
          refine pm_getf (v := 114) hC 90 fl_X12_82 rfl rfl (by decide) rfl e39 dX12_multiplies_89 ?_
          refine pm_iload_n hC 1 dX12_multiplies_92 rfl ?_
          obtain ⟨y79, e80⟩ : ∃ y, V33 114 0 = y := ⟨_, rfl⟩
          have b81 := hV34.get 114 0 (lo := 0) (hi := 600) (by decide) (by decide) rfl
          rw [e80] at b81
          replace hb43 := hb43.trans (pf_let_eq e80)
          refine pm_iaload (len := 8) (v := y79) hC 114 rfl rfl (by decide) ⟨by decide, by decide⟩ (by decide) e80 dX12_multiplies_93 ?_
          refine pm_iadd hC dX12_multiplies_94 ?_
          refine pm_lload hC 3 dX12_multiplies_95 rfl ?_
          refine pm_ldc2 (v := 10000) hC 7157 dX12_multiplies_97 (by decide +kernel) ?_
          refine pm_lrem hC ⟨by exact ow_88_23 b32, by exact ow_88_5 b32, by exact ow_88_6 b32⟩ ⟨by decide, by decide, by decide⟩ dX12_multiplies_100 ?_
          refine pm_l2i hC dX12_multiplies_101 ?_
          refine pm_iastore (len := 2400) hC 113 rfl rfl (by decide) ⟨by exact ow_88_24 hm40 e80, by exact ow_88_25 b81⟩ (by decide) dX12_multiplies_102 ?_
          refine pm_aload_n hC 0 (by decide) dX12_multiplies_103 rfl ?_
          refine pm_getf (v := 114) hC 90 fl_X12_82 rfl rfl (by decide) rfl e39 dX12_multiplies_104 ?_
          refine pm_iload_n hC 1 dX12_multiplies_107 rfl ?_
          refine pm_dup2 hC rfl rfl dX12_multiplies_108 ?_
          refine pm_iaload (len := 8) (v := y79) hC 114 rfl rfl (by decide) ⟨by decide, by decide⟩ (by decide) e80 dX12_multiplies_109 ?_
          refine pm_iconst (v := 1) hC dX12_multiplies_110 ?_
          refine pm_iadd hC dX12_multiplies_111 ?_
          refine pm_iastore (len := 8) hC 114 rfl rfl (by decide) ⟨by decide, by decide⟩ (by decide) dX12_multiplies_112 ?_
          refine pm_lload hC 3 dX12_multiplies_113 rfl ?_
          refine pm_ldc2 (v := 10000) hC 7157 dX12_multiplies_115 (by decide +kernel) ?_
          refine pm_ldiv hC ⟨by exact ow_88_23 b32, by exact ow_88_5 b32, by exact ow_88_6 b32⟩ ⟨by decide, by decide, by decide⟩ dX12_multiplies_118 ?_
          refine pm_lstore (lv' := [(4, (1, (x31 / 10000))), (0, (3, 90)), (1, (0, 0)), (2, (1, a1)), (6, (0, x12))]) hC dX12_multiplies_119 (by decide) rfl ?_
          refine pm_goto (tgt := 72) hC dX12_multiplies_121 (by decide) ?_
          refine pm_lvsub [1, 2, 3, 0, 4] (lv' := [(0, (3, 90)), (1, (0, 0)), (2, (1, a1)), (4, (1, (x31 / 10000))), (6, (0, x12))]) rfl ?_
          exact ih47 _ (by exact ow_88_26 hm45 b49 c50) (x31 / 10000) (pm_up (pm_up V33 113 ((0 + y79) : Int).toNat (x31 % 10000)) 114 (0 : Int).toNat (y79 + 1)) ⟨by exact ow_88_27 b32, by exact ow_88_28 b32⟩ ((hV34.put 113 ((0 + y79) : Int).toNat (x := (x31 % 10000)) (lo := 0) (hi := 9999) rfl ⟨by exact ow_88_29, by exact ow_88_30⟩).put 114 (0 : Int).toNat (x := (y79 + 1)) (lo := 0) (hi := 600) rfl ⟨by exact ow_88_31 hm40 e80, by exact ow_88_32 hq0 hm40 e80⟩) ((hF35.up 113 ((0 + y79) : Int).toNat (x31 % 10000) (by decide) rfl).up 114 (0 : Int).toNat (y79 + 1) (by decide) rfl) e36 e37 e38 e39 (show 1 ≤ (y79 + 1) ∧ (y79 + 1) ≤ z0 + 3 ∧ (1 ≤ (x31 / 10000) → (y79 + 1) ≤ z0 + 2) ∧ (8 ≤ (x31 / 10000) → (y79 + 1) ≤ z0 + 1) ∧ (72001 ≤ (x31 / 10000) → (y79 + 1) ≤ z0) by exact ow_88_33 b32 hm40 b49 c50 e80) (hb24.trans (pf_val_inl hb43)) rfl
      refine pm_lvsub [0, 1, 2, 3, 4] (lv' := [(0, (3, 90)), (1, (0, 0)), (2, (1, a1)), (4, (1, x10)), (6, (0, x12))]) rfl ?_
      exact L44 _ x10 V15 ⟨by exact ow_88_23 b11, by exact ow_88_34 b11⟩ hV16 hF17 e19 e20 e21 e29 (by (have e : V15 114 0 = z0 := e18); rw [e]; exact ow_88_35 hq0) hb24 rfl
    · skip
      replace hb24 := hb24.trans (if_neg (Int.not_le.mpr c30))
      refine pm_aload_n hC 0 (by decide) dX12_multiplies_17 rfl ?_
      have e82 : V15 90 52 = 113 := hV16.one 90 52 (by decide) (by decide) rfl
      refine pm_getf (v := 113) hC 90 fl_X12_79 rfl rfl (by decide) rfl e82 dX12_multiplies_18 ?_
      refine pm_iload_n hC 1 dX12_multiplies_21 rfl ?_
      refine pm_sipush (v := 300) hC dX12_multiplies_22 (by decide) ?_
      refine pm_imul hC dX12_multiplies_25 ?_
      change pm_J X 26 [(0, (3, 90)), (1, (0, 0)), (2, (1, a1)), (4, (1, x10)), (6, (0, x12))] [(0, 0), (3, 113)] 118 V15
      refine pm_iload hC 4 dX12_multiplies_26 rfl ?_
      refine pm_iadd hC dX12_multiplies_28 ?_
      obtain ⟨y83, e84⟩ : ∃ y, V15 113 ((0 + x12) : Int).toNat = y := ⟨_, rfl⟩
      replace hb24 := hb24.trans (pf_let_eq e84)
      have b85 := hV16.get 113 ((0 + x12) : Int).toNat (lo := 0) (hi := 9999) (t := 0) (by decide) (show _ < 2400 by exact ow_88_36 b13) rfl
      rw [e84] at b85
      refine pm_iaload (len := 2400) (v := y83) hC 113 rfl rfl (by decide) ⟨by exact ow_88_37 b13, by exact ow_88_38 b13⟩ (by decide) e84 dX12_multiplies_29 ?_
      refine pm_i2l hC ⟨by exact ow_88_15 b85, by exact ow_88_16 b85⟩ dX12_multiplies_30 ?_
      refine pm_lload_n hC 2 dX12_multiplies_31 rfl ?_
      refine pm_lmul hC dX12_multiplies_32 ?_
      have b87 : 0 ≤ (y83 * a1) ∧ (y83 * a1) ≤ 7199280000000 := pm_mulb (by exact ow_88_39 b85) (by exact ow_88_23 h0) (show y83 ≤ 9999 by exact ow_88_40 b85) (show a1 ≤ 720000000 by exact ow_88_34 h0) (by decide)
      obtain ⟨y86, hey86⟩ : ∃ z, (y83 * a1) = z := ⟨_, rfl⟩
      rw [hey86] at b87 ⊢
      replace hb24 := hb24.trans (pf_let_eq hey86)
      have hm88 : y86 ≤ 9999 * a1 := by rw [← hey86]; exact Int.mul_le_mul_of_nonneg_right (by exact ow_88_40 b85) (by exact ow_88_23 h0)
      refine pm_lload hC 3 dX12_multiplies_33 rfl ?_
      refine pm_ladd hC dX12_multiplies_35 ?_
      refine pm_lstore (lv' := [(7, (1, (y86 + x10))), (0, (3, 90)), (1, (0, 0)), (2, (1, a1)), (4, (1, x10)), (6, (0, x12))]) hC dX12_multiplies_36 (by decide) rfl ?_
      refine pm_aload_n hC 1 (by decide) dX12_multiplies_38 rfl ?_
      refine pm_getf (v := 113) hC 90 fl_X12_79 rfl rfl (by decide) rfl e82 dX12_multiplies_39 ?_
      refine pm_iload_n hC 2 dX12_multiplies_42 rfl ?_
      refine pm_sipush (v := 300) hC dX12_multiplies_43 (by decide) ?_
      refine pm_imul hC dX12_multiplies_46 ?_
      change pm_J X 47 [(7, (1, (y86 + x10))), (0, (3, 90)), (1, (0, 0)), (2, (1, a1)), (4, (1, x10)), (6, (0, x12))] [(0, 0), (3, 113)] 118 V15
      refine pm_iload hC 5 dX12_multiplies_47 rfl ?_
      refine pm_iadd hC dX12_multiplies_49 ?_
      refine pm_lload hC 0 dX12_multiplies_50 rfl ?_
      refine pm_ldc2 (v := 10000) hC 7157 dX12_multiplies_52 (by decide +kernel) ?_
      refine pm_lrem hC ⟨by exact ow_88_41 b11 b87, by exact ow_88_42 b11 b87, by exact ow_88_43 b11 b87⟩ ⟨by decide, by decide, by decide⟩ dX12_multiplies_55 ?_
      refine pm_l2i hC dX12_multiplies_56 ?_
      refine pm_iastore (len := 2400) hC 113 rfl rfl (by decide) ⟨by exact ow_88_37 b13, by exact ow_88_38 b13⟩ (by decide) dX12_multiplies_57 ?_
      refine pm_lload hC 0 dX12_multiplies_58 rfl ?_
      refine pm_ldc2 (v := 10000) hC 7157 dX12_multiplies_60 (by decide +kernel) ?_
      refine pm_ldiv hC ⟨by exact ow_88_41 b11 b87, by exact ow_88_42 b11 b87, by exact ow_88_43 b11 b87⟩ ⟨by decide, by decide, by decide⟩ dX12_multiplies_63 ?_
      refine pm_lstore (lv' := [(4, (1, ((y86 + x10) / 10000))), (7, (1, (y86 + x10))), (0, (3, 90)), (1, (0, 0)), (2, (1, a1)), (6, (0, x12))]) hC dX12_multiplies_64 (by decide) rfl ?_
      obtain ⟨x89, ei90⟩ : ∃ y : Int, x12 + 1 = y := ⟨_, rfl⟩
      replace hb24 := hb24.trans (pf_let_eq ei90)
      refine pm_iinc (y := x89) (lv' := [(6, (0, x89)), (4, (1, ((y86 + x10) / 10000))), (7, (1, (y86 + x10))), (0, (3, 90)), (1, (0, 0)), (2, (1, a1))]) hC 5 dX12_multiplies_66 (by decide) rfl ei90 rfl ?_
      refine pm_goto (tgt := 6) hC dX12_multiplies_69 (by decide) ?_
      refine pm_lvsub [3, 4, 5, 1, 0] (lv' := [(0, (3, 90)), (1, (0, 0)), (2, (1, a1)), (4, (1, ((y86 + x10) / 10000))), (6, (0, x89))]) rfl ?_
      exact ih28 _ (by exact ow_88_44 hq0 hm26 c30 ei90) ((y86 + x10) / 10000) x89 (pm_up V15 113 ((0 + x12) : Int).toNat ((y86 + x10) % 10000)) ⟨by exact ow_88_45 b11 b87, by exact ow_88_46 b11 b87⟩ ⟨by exact ow_88_47 b13 ei90, by exact ow_88_48 hq0 c30 ei90⟩ (by exact ow_88_49 b14 hm88) (hV16.put 113 ((0 + x12) : Int).toNat (x := ((y86 + x10) % 10000)) (lo := 0) (hi := 9999) rfl ⟨by exact ow_88_50, by exact ow_88_51⟩) (hF17.up 113 ((0 + x12) : Int).toNat ((y86 + x10) % 10000) (by decide) rfl) e18 e19 e20 e21 (hT.trans (pf_val_inl hb24)) rfl
  refine pm_lvsub [2, 3, 4, 1, 0] (lv' := [(0, (3, 90)), (1, (0, 0)), (2, (1, a1)), (4, (1, 0)), (6, (0, 0))]) rfl ?_
  exact L25 _ 0 0 V0 ⟨by decide, by decide⟩ ⟨by decide, by decide⟩ (by exact ow_88_23 h0) hV0 (pm_fs.rf (cs := [113, 114]) (fs := []) (V := V0)) ez0 e2 e5 e8 hT rfl
set_option maxHeartbeats 4000000 in
set_option maxRecDepth 100000 in
theorem fB_X12_multiplies_d1 (a1 : Int) (h0 : 0 ≤ a1 ∧ a1 ≤ 720000000) : pm_K 1 yX12_multiplies cX12_multiplies 9 none (fun av V => av = [(3, 90), (0, 1), (1, a1)] ∧ pm_oq pm_qB V ∧ (1 ≤ V 114 1 ∧ V 114 1 ≤ 181)) (fun _ V r V' => r = none ∧ pm_oq pm_qB V' ∧ pm_fs [113, 114] [] V V' ∧ (V' 114 0 = V 114 0) ∧ (1 ≤ V' 114 1 ∧ V' 114 1 ≤ V 114 1 + 3) ∧ (V' 114 2 = V 114 2) ∧ (V' 114 3 = V 114 3) ∧ F_X12_multiplies_d1 a1 V = (0, V')) := by
  refine pm_MT.of (by decide) ⟨Nat.le_refl _, by decide⟩ (fun av V h => by rw [h.1]; exact (by decide : pm_words [(3, 0), (0, 0), (1, 0)] ≤ 9)) ?_
  rintro X av V0 hC - hR ⟨rfl, hV0, hq0⟩
  change pm_J X 0 [(0, (3, 90)), (1, (0, 1)), (2, (1, a1))] [] 118 V0
  have hT := F_X12_multiplies_d1_eq a1 V0
  obtain ⟨z0, ez0⟩ : ∃ z, V0 114 1 = z := ⟨_, rfl⟩
  rw [ez0] at hq0
  replace hT := hT.trans (pf_let_eq ez0)
  obtain ⟨y1, e2⟩ : ∃ y, V0 114 0 = y := ⟨_, rfl⟩
  have b3 := hV0.get 114 0 (lo := 0) (hi := 600) (by decide) (by decide) rfl
  rw [e2] at b3
  replace hT := hT.trans (pf_let_eq e2)
  obtain ⟨y4, e5⟩ : ∃ y, V0 114 2 = y := ⟨_, rfl⟩
  have b6 := hV0.get 114 2 (lo := 0) (hi := 600) (by decide) (by decide) rfl
  rw [e5] at b6
  replace hT := hT.trans (pf_let_eq e5)
  obtain ⟨y7, e8⟩ : ∃ y, V0 114 3 = y := ⟨_, rfl⟩
  have b9 := hV0.get 114 3 (lo := 0) (hi := 600) (by decide) (by decide) rfl
  rw [e8] at b9
  replace hT := hT.trans (pf_let_eq e8)
  refine pm_lconst (x := 0) hC dX12_multiplies_0 rfl ?_
  refine pm_lstore (lv' := [(4, (1, 0)), (0, (3, 90)), (1, (0, 1)), (2, (1, a1))]) hC dX12_multiplies_1 (by decide) rfl ?_
  refine pm_iconst (v := 0) hC dX12_multiplies_3 ?_
  refine pm_istore (lv' := [(6, (0, 0)), (4, (1, 0)), (0, (3, 90)), (1, (0, 1)), (2, (1, a1))]) hC dX12_multiplies_4 (by decide) rfl ?_
  obtain ⟨B22, hB23, hT⟩ := pf_loop hT
  have L25 : ∀ (N27 : Nat) (x10 : Int) (x12 : Int) (V15 : pm_M), (0 ≤ x10 ∧ x10 ≤ 720000000) → (0 ≤ x12 ∧ x12 ≤ 181) → (x10 ≤ a1) → pm_oq pm_qB V15 → pm_fs [113, 114] [] V0 V15 → V15 114 1 = z0 → V15 114 0 = y1 → V15 114 2 = y4 → V15 114 3 = y7 → F_X12_multiplies_d1 a1 V0 = pf_val ((0 : Int), V0) B22 (x10, x12, V15) → (Int.toNat (181 - x12)) = N27 → pm_J X 6 [(0, (3, 90)), (1, (0, 1)), (2, (1, a1)), (4, (1, x10)), (6, (0, x12))] [] 118 V15 := by
    intro N27
    induction N27 using Nat.strongRecOn with
    | _ N27 ih28 =>
    intro x10 x12 V15 b11 b13 b14 hV16 hF17 e18 e19 e20 e21 hT hm26
    have hb24 := congrFun hB23 (x10, x12, V15)
    refine pm_iload hC 4 dX12_multiplies_6 rfl ?_
    refine pm_aload_n hC 0 (by decide) dX12_multiplies_8 rfl ?_
    have e29 : V15 90 53 = 114 := hV16.one 90 53 (by decide) (by decide) rfl
    refine pm_getf (v := 114) hC 90 fl_X12_82 rfl rfl (by decide) rfl e29 dX12_multiplies_9 ?_
    refine pm_iload_n hC 1 dX12_multiplies_12 rfl ?_
    refine pm_iaload (len := 8) (v := z0) hC 114 rfl rfl (by decide) ⟨by decide, by decide⟩ (by decide) e18 dX12_multiplies_13 ?_
    refine pm_icmp_ge (tgt := 72) hC ⟨by exact ow_88_1 b13, by exact ow_88_2 b13⟩ ⟨by exact ow_88_3 hq0, by exact ow_88_4 hq0⟩ dX12_multiplies_14 (by decide) (fun c30 => ?_) (fun c30 => ?_)
    · skip
      replace hb24 := hb24.trans (if_pos c30)
      obtain ⟨B41, hB42, hb24⟩ := pf_loop hb24
      have L44 : ∀ (N46 : Nat) (x31 : Int) (V33 : pm_M), (0 ≤ x31 ∧ x31 ≤ 720000000) → pm_oq pm_qB V33 → pm_fs [113, 114] [] V0 V33 → V33 114 0 = y1 → V33 114 2 = y4 → V33 114 3 = y7 → V33 90 53 = 114 → (1 ≤ V33 114 1 ∧ V33 114 1 ≤ z0 + 3 ∧ (1 ≤ x31 → V33 114 1 ≤ z0 + 2) ∧ (8 ≤ x31 → V33 114 1 ≤ z0 + 1) ∧ (72001 ≤ x31 → V33 114 1 ≤ z0)) → B22 (x10, x12, V15) = pf_val (.inr ((0 : Int), V0)) B41 (x31, V33) → (Int.toNat x31) = N46 → pm_J X 72 [(0, (3, 90)), (1, (0, 1)), (2, (1, a1)), (4, (1, x31)), (6, (0, x12))] [] 118 V33 := by
        intro N46
        induction N46 using Nat.strongRecOn with
        | _ N46 ih47 =>
        intro x31 V33 b32 hV34 hF35 e36 e37 e38 e39 hm40 hb24 hm45
        have hb43 := congrFun hB42 (x31, V33)
        refine pm_lload hC 3 dX12_multiplies_72 rfl ?_
        refine pm_lconst (x := 0) hC dX12_multiplies_74 rfl ?_
        refine pm_lcmp hC ⟨by exact ow_88_5 b32, by exact ow_88_6 b32⟩ ⟨by decide, by decide⟩ dX12_multiplies_75 (fun y48 b49 => ?_)
        replace hb43 := hb43.trans (pf_let_eq (pm_cmp_u b49))
        refine pm_if_le (tgt := 124) hC ⟨by exact ow_88_7 b49, by exact ow_88_8 b49⟩ dX12_multiplies_76 (by decide) (fun c50 => ?_) (fun c50 => ?_)
        · skip
          replace hb43 := hb43.trans (if_pos c50)
          obtain ⟨y51, e52⟩ : ∃ y, V33 114 1 = y := ⟨_, rfl⟩
          have b53 := hV34.get 114 1 (lo := 0) (hi := 600) (by decide) (by decide) rfl
          rw [e52] at b53
          replace hb43 := hb43.trans (pf_let_eq e52)
          obtain ⟨B62, hB63, hb43⟩ := pf_loop hb43
          have L65 : ∀ (N67 : Nat) (V54 : pm_M), pm_oq pm_qB V54 → pm_fs [113, 114] [] V0 V54 → V54 114 0 = y1 → V54 114 2 = y4 → V54 114 3 = y7 → V54 90 53 = 114 → (1 ≤ V54 114 1 ∧ V54 114 1 ≤ z0 + 3) → B41 (x31, V33) = pf_val (.inr (.inr ((0 : Int), V0))) B62 V54 → (Int.toNat (V54 114 1)) = N67 → pm_J X 124 [(0, (3, 90)), (1, (0, 1)), (2, (1, a1)), (4, (1, x31)), (6, (0, x12))] [] 118 V54 := by
            intro N67
            induction N67 using Nat.strongRecOn with
            | _ N67 ih68 =>
            intro V54 hV55 hF56 e57 e58 e59 e60 hm61 hb43 hm66
            have hb64 := congrFun hB63 V54
            refine pm_aload_n hC 0 (by decide) dX12_multiplies_124 rfl ?_
            refine pm_getf (v := 114) hC 90 fl_X12_82 rfl rfl (by decide) rfl e60 dX12_multiplies_125 ?_
            refine pm_iload_n hC 1 dX12_multiplies_128 rfl ?_
            obtain ⟨y69, e70⟩ : ∃ y, V54 114 1 = y := ⟨_, rfl⟩
            have b71 := hV55.get 114 1 (lo := 0) (hi := 600) (by decide) (by decide) rfl
            rw [e70] at b71
            replace hb64 := hb64.trans (pf_let_eq e70)
            refine pm_iaload (len := 8) (v := y69) hC 114 rfl rfl (by decide) ⟨by decide, by decide⟩ (by decide) e70 dX12_multiplies_129 ?_
            refine pm_iconst (v := 1) hC dX12_multiplies_130 ?_
            refine pm_icmp_le (tgt := 169) hC ⟨by exact ow_88_9 b71, by exact ow_88_10 b71⟩ ⟨by decide, by decide⟩ dX12_multiplies_131 (by decide) (fun c72 => ?_) (fun c72 => ?_)
            · skip
              replace hb64 := hb64.trans (if_pos c72)
              replace hb43 := hb43.trans (pf_val_inr hb64)
              replace hb24 := hb24.trans (pf_val_inr hb43)
              replace hT := hT.trans (pf_val_inr hb24)
              exact pm_vret hC hR ⟨rfl, hV55, hF56, (by have q := (show V54 114 0 = y1 from e57); have q2 := e2; exact ow_88_0 e2 e57), (by have q := (show V54 114 1 = y69 from e70); have q2 := ez0; exact ow_88_11 hq0 ez0 hm61 e70 c72), (by have q := (show V54 114 2 = y4 from e58); have q2 := e5; exact ow_88_0 e5 e58), (by have q := (show V54 114 3 = y7 from e59); have q2 := e8; exact ow_88_0 e8 e59), hT⟩ dX12_multiplies_169
            · skip
              replace hb64 := hb64.trans (if_neg (Int.not_le.mpr c72))
              refine pm_aload_n hC 0 (by decide) dX12_multiplies_134 rfl ?_
              have e73 : V54 90 52 = 113 := hV55.one 90 52 (by decide) (by decide) rfl
              refine pm_getf (v := 113) hC 90 fl_X12_79 rfl rfl (by decide) rfl e73 dX12_multiplies_135 ?_
              refine pm_iload_n hC 1 dX12_multiplies_138 rfl ?_
              refine pm_sipush (v := 300) hC dX12_multiplies_139 (by decide) ?_
              refine pm_imul hC dX12_multiplies_142 ?_
              change pm_J X 143 [(0, (3, 90)), (1, (0, 1)), (2, (1, a1)), (4, (1, x31)), (6, (0, x12))] [(0, 300), (3, 113)] 118 V54
              refine pm_aload_n hC 0 (by decide) dX12_multiplies_143 rfl ?_
              refine pm_getf (v := 114) hC 90 fl_X12_82 rfl rfl (by decide) rfl e60 dX12_multiplies_144 ?_
              refine pm_iload_n hC 1 dX12_multiplies_147 rfl ?_
              refine pm_iaload (len := 8) (v := y69) hC 114 rfl rfl (by decide) ⟨by decide, by decide⟩ (by decide) e70 dX12_multiplies_148 ?_
              refine pm_iadd hC dX12_multiplies_149 ?_
              refine pm_iconst (v := 1) hC dX12_multiplies_150 ?_
              refine pm_isub hC dX12_multiplies_151 ?_
              obtain ⟨y74, e75⟩ : ∃ y, V54 113 (((300 + y69) - 1) : Int).toNat = y := ⟨_, rfl⟩
              replace hb64 := hb64.trans (pf_let_eq e75)
              have b76 := hV55.get 113 (((300 + y69) - 1) : Int).toNat (lo := 0) (hi := 9999) (t := 0) (by decide) (show _ < 2400 by exact ow_88_52 b71) rfl
              rw [e75] at b76
              refine pm_iaload (len := 2400) (v := y74) hC 113 rfl rfl (by decide) ⟨by exact ow_88_53 c72, by exact ow_88_54 b71⟩ (by decide) e75 dX12_multiplies_152 ?_
              refine pm_if_ne (tgt := 169) hC ⟨by exact ow_88_15 b76, by exact ow_88_16 b76⟩ dX12_multiplies_153 (by decide) (fun c77 => ?_) (fun c77 => ?_)
              · skip
                replace hb64 := hb64.trans (if_pos c77)
                replace hb43 := hb43.trans (pf_val_inr hb64)
                replace hb24 := hb24.trans (pf_val_inr hb43)
                replace hT := hT.trans (pf_val_inr hb24)
                exact pm_vret hC hR ⟨rfl, hV55, hF56, (by have q := (show V54 114 0 = y1 from e57); have q2 := e2; exact ow_88_0 e2 e57), (by have q := (show V54 114 1 = y69 from e70); have q2 := ez0; exact ow_88_17 ez0 hm61 e70 c72), (by have q := (show V54 114 2 = y4 from e58); have q2 := e5; exact ow_88_0 e5 e58), (by have q := (show V54 114 3 = y7 from e59); have q2 := e8; exact ow_88_0 e8 e59), hT⟩ dX12_multiplies_169
              · skip
                replace hb64 := hb64.trans (if_neg (fun q => q c77))
                refine pm_aload_n hC 0 (by decide) dX12_multiplies_156 rfl ?_
                refine pm_getf (v := 114) hC 90 fl_X12_82 rfl rfl (by decide) rfl e60 dX12_multiplies_157 ?_
                refine pm_iload_n hC 1 dX12_multiplies_160 rfl ?_
                refine pm_dup2 hC rfl rfl dX12_multiplies_161 ?_
                refine pm_iaload (len := 8) (v := y69) hC 114 rfl rfl (by decide) ⟨by decide, by decide⟩ (by decide) e70 dX12_multiplies_162 ?_
                refine pm_iconst (v := 1) hC dX12_multiplies_163 ?_
                refine pm_isub hC dX12_multiplies_164 ?_
                refine pm_iastore (len := 8) hC 114 rfl rfl (by decide) ⟨by decide, by decide⟩ (by decide) dX12_multiplies_165 ?_
                refine pm_goto (tgt := 124) hC dX12_multiplies_166 (by decide) ?_
                refine pm_lvsub [0, 1, 2, 3, 4] (lv' := [(0, (3, 90)), (1, (0, 1)), (2, (1, a1)), (4, (1, x31)), (6, (0, x12))]) rfl ?_
                exact ih68 _ (by show Int.toNat ((y69 - 1)) < _; exact ow_88_18 hm66 e70 c72) (pm_up V54 114 (1 : Int).toNat (y69 - 1)) (hV55.put 114 (1 : Int).toNat (x := (y69 - 1)) (lo := 0) (hi := 600) rfl ⟨by exact ow_88_19 c72, by exact ow_88_20 hq0 hm61 e70⟩) (hF56.up 114 (1 : Int).toNat (y69 - 1) (by decide) rfl) e57 e58 e59 e60 (show 1 ≤ (y69 - 1) ∧ (y69 - 1) ≤ z0 + 3 by exact ow_88_21 hm61 e70 c72) (hb43.trans (pf_val_inl hb64)) rfl
          refine pm_lvsub [0, 1, 2, 3, 4] (lv' := [(0, (3, 90)), (1, (0, 1)), (2, (1, a1)), (4, (1, x31)), (6, (0, x12))]) rfl ?_
          exact L65 _ V33 hV34 hF35 e36 e37 e38 e39 (by (have e : V33 114 1 = y51 := e52); rw [e]; exact ow_88_22 hm40 e52) hb43 rfl
        · skip
          replace hb43 := hb43.trans (if_neg (Int.not_le.mpr c50))
          refine pm_aload_n hC 0 (by decide) dX12_multiplies_79 rfl ?_
          have e78 : V33 90 52 = 113 := hV34.one 90 52 (by decide) (by decide) rfl
          refine pm_getf (v := 113) hC 90 fl_X12_79 rfl rfl (by decide) rfl e78 dX12_multiplies_80 ?_
          refine pm_iload_n hC 1 dX12_multiplies_83 rfl ?_
          refine pm_sipush (v := 300) hC dX12_multiplies_84 (by decide) ?_
          refine pm_imul hC dX12_multiplies_87 ?_
          change pm_J X 88 [(0, (3, 90)), (1, (0, 1)), (2, (1, a1)), (4, (1, x31)), (6, (0, x12))] [(0, 300), (3, 113)] 118 V33
          refine pm_aload_n hC 0 (by decide) dX12_multiplies_88 rfl ?_
          refine pm_getf (v := 114) hC 90 fl_X12_82 rfl rfl (by decide) rfl e39 dX12_multiplies_89 ?_
          refine pm_iload_n hC 1 dX12_multiplies_92 rfl ?_
          obtain ⟨y79, e80⟩ : ∃ y, V33 114 1 = y := ⟨_, rfl⟩
          have b81 := hV34.get 114 1 (lo := 0) (hi := 600) (by decide) (by decide) rfl
          rw [e80] at b81
          replace hb43 := hb43.trans (pf_let_eq e80)
          refine pm_iaload (len := 8) (v := y79) hC 114 rfl rfl (by decide) ⟨by decide, by decide⟩ (by decide) e80 dX12_multiplies_93 ?_
          refine pm_iadd hC dX12_multiplies_94 ?_
          refine pm_lload hC 3 dX12_multiplies_95 rfl ?_
          refine pm_ldc2 (v := 10000) hC 7157 dX12_multiplies_97 (by decide +kernel) ?_
          refine pm_lrem hC ⟨by exact ow_88_23 b32, by exact ow_88_5 b32, by exact ow_88_6 b32⟩ ⟨by decide, by decide, by decide⟩ dX12_multiplies_100 ?_
          refine pm_l2i hC dX12_multiplies_101 ?_
          refine pm_iastore (len := 2400) hC 113 rfl rfl (by decide) ⟨by exact ow_88_55 b81, by exact ow_88_56 b81⟩ (by decide) dX12_multiplies_102 ?_
          refine pm_aload_n hC 0 (by decide) dX12_multiplies_103 rfl ?_
          refine pm_getf (v := 114) hC 90 fl_X12_82 rfl rfl (by decide) rfl e39 dX12_multiplies_104 ?_
          refine pm_iload_n hC 1 dX12_multiplies_107 rfl ?_
          refine pm_dup2 hC rfl rfl dX12_multiplies_108 ?_
          refine pm_iaload (len := 8) (v := y79) hC 114 rfl rfl (by decide) ⟨by decide, by decide⟩ (by decide) e80 dX12_multiplies_109 ?_
          refine pm_iconst (v := 1) hC dX12_multiplies_110 ?_
          refine pm_iadd hC dX12_multiplies_111 ?_
          refine pm_iastore (len := 8) hC 114 rfl rfl (by decide) ⟨by decide, by decide⟩ (by decide) dX12_multiplies_112 ?_
          refine pm_lload hC 3 dX12_multiplies_113 rfl ?_
          refine pm_ldc2 (v := 10000) hC 7157 dX12_multiplies_115 (by decide +kernel) ?_
          refine pm_ldiv hC ⟨by exact ow_88_23 b32, by exact ow_88_5 b32, by exact ow_88_6 b32⟩ ⟨by decide, by decide, by decide⟩ dX12_multiplies_118 ?_
          refine pm_lstore (lv' := [(4, (1, (x31 / 10000))), (0, (3, 90)), (1, (0, 1)), (2, (1, a1)), (6, (0, x12))]) hC dX12_multiplies_119 (by decide) rfl ?_
          refine pm_goto (tgt := 72) hC dX12_multiplies_121 (by decide) ?_
          refine pm_lvsub [1, 2, 3, 0, 4] (lv' := [(0, (3, 90)), (1, (0, 1)), (2, (1, a1)), (4, (1, (x31 / 10000))), (6, (0, x12))]) rfl ?_
          exact ih47 _ (by exact ow_88_26 hm45 b49 c50) (x31 / 10000) (pm_up (pm_up V33 113 ((300 + y79) : Int).toNat (x31 % 10000)) 114 (1 : Int).toNat (y79 + 1)) ⟨by exact ow_88_27 b32, by exact ow_88_28 b32⟩ ((hV34.put 113 ((300 + y79) : Int).toNat (x := (x31 % 10000)) (lo := 0) (hi := 9999) rfl ⟨by exact ow_88_29, by exact ow_88_30⟩).put 114 (1 : Int).toNat (x := (y79 + 1)) (lo := 0) (hi := 600) rfl ⟨by exact ow_88_31 hm40 e80, by exact ow_88_32 hq0 hm40 e80⟩) ((hF35.up 113 ((300 + y79) : Int).toNat (x31 % 10000) (by decide) rfl).up 114 (1 : Int).toNat (y79 + 1) (by decide) rfl) e36 e37 e38 e39 (show 1 ≤ (y79 + 1) ∧ (y79 + 1) ≤ z0 + 3 ∧ (1 ≤ (x31 / 10000) → (y79 + 1) ≤ z0 + 2) ∧ (8 ≤ (x31 / 10000) → (y79 + 1) ≤ z0 + 1) ∧ (72001 ≤ (x31 / 10000) → (y79 + 1) ≤ z0) by exact ow_88_33 b32 hm40 b49 c50 e80) (hb24.trans (pf_val_inl hb43)) rfl
      refine pm_lvsub [0, 1, 2, 3, 4] (lv' := [(0, (3, 90)), (1, (0, 1)), (2, (1, a1)), (4, (1, x10)), (6, (0, x12))]) rfl ?_
      exact L44 _ x10 V15 ⟨by exact ow_88_23 b11, by exact ow_88_34 b11⟩ hV16 hF17 e19 e20 e21 e29 (by (have e : V15 114 1 = z0 := e18); rw [e]; exact ow_88_35 hq0) hb24 rfl
    · skip
      replace hb24 := hb24.trans (if_neg (Int.not_le.mpr c30))
      refine pm_aload_n hC 0 (by decide) dX12_multiplies_17 rfl ?_
      have e82 : V15 90 52 = 113 := hV16.one 90 52 (by decide) (by decide) rfl
      refine pm_getf (v := 113) hC 90 fl_X12_79 rfl rfl (by decide) rfl e82 dX12_multiplies_18 ?_
      refine pm_iload_n hC 1 dX12_multiplies_21 rfl ?_
      refine pm_sipush (v := 300) hC dX12_multiplies_22 (by decide) ?_
      refine pm_imul hC dX12_multiplies_25 ?_
      change pm_J X 26 [(0, (3, 90)), (1, (0, 1)), (2, (1, a1)), (4, (1, x10)), (6, (0, x12))] [(0, 300), (3, 113)] 118 V15
      refine pm_iload hC 4 dX12_multiplies_26 rfl ?_
      refine pm_iadd hC dX12_multiplies_28 ?_
      obtain ⟨y83, e84⟩ : ∃ y, V15 113 ((300 + x12) : Int).toNat = y := ⟨_, rfl⟩
      replace hb24 := hb24.trans (pf_let_eq e84)
      have b85 := hV16.get 113 ((300 + x12) : Int).toNat (lo := 0) (hi := 9999) (t := 0) (by decide) (show _ < 2400 by exact ow_88_57 b13) rfl
      rw [e84] at b85
      refine pm_iaload (len := 2400) (v := y83) hC 113 rfl rfl (by decide) ⟨by exact ow_88_58 b13, by exact ow_88_59 b13⟩ (by decide) e84 dX12_multiplies_29 ?_
      refine pm_i2l hC ⟨by exact ow_88_15 b85, by exact ow_88_16 b85⟩ dX12_multiplies_30 ?_
      refine pm_lload_n hC 2 dX12_multiplies_31 rfl ?_
      refine pm_lmul hC dX12_multiplies_32 ?_
      have b87 : 0 ≤ (y83 * a1) ∧ (y83 * a1) ≤ 7199280000000 := pm_mulb (by exact ow_88_39 b85) (by exact ow_88_23 h0) (show y83 ≤ 9999 by exact ow_88_40 b85) (show a1 ≤ 720000000 by exact ow_88_34 h0) (by decide)
      obtain ⟨y86, hey86⟩ : ∃ z, (y83 * a1) = z := ⟨_, rfl⟩
      rw [hey86] at b87 ⊢
      replace hb24 := hb24.trans (pf_let_eq hey86)
      have hm88 : y86 ≤ 9999 * a1 := by rw [← hey86]; exact Int.mul_le_mul_of_nonneg_right (by exact ow_88_40 b85) (by exact ow_88_23 h0)
      refine pm_lload hC 3 dX12_multiplies_33 rfl ?_
      refine pm_ladd hC dX12_multiplies_35 ?_
      refine pm_lstore (lv' := [(7, (1, (y86 + x10))), (0, (3, 90)), (1, (0, 1)), (2, (1, a1)), (4, (1, x10)), (6, (0, x12))]) hC dX12_multiplies_36 (by decide) rfl ?_
      refine pm_aload_n hC 1 (by decide) dX12_multiplies_38 rfl ?_
      refine pm_getf (v := 113) hC 90 fl_X12_79 rfl rfl (by decide) rfl e82 dX12_multiplies_39 ?_
      refine pm_iload_n hC 2 dX12_multiplies_42 rfl ?_
      refine pm_sipush (v := 300) hC dX12_multiplies_43 (by decide) ?_
      refine pm_imul hC dX12_multiplies_46 ?_
      change pm_J X 47 [(7, (1, (y86 + x10))), (0, (3, 90)), (1, (0, 1)), (2, (1, a1)), (4, (1, x10)), (6, (0, x12))] [(0, 300), (3, 113)] 118 V15
      refine pm_iload hC 5 dX12_multiplies_47 rfl ?_
      refine pm_iadd hC dX12_multiplies_49 ?_
      refine pm_lload hC 0 dX12_multiplies_50 rfl ?_
      refine pm_ldc2 (v := 10000) hC 7157 dX12_multiplies_52 (by decide +kernel) ?_
      refine pm_lrem hC ⟨by exact ow_88_41 b11 b87, by exact ow_88_42 b11 b87, by exact ow_88_43 b11 b87⟩ ⟨by decide, by decide, by decide⟩ dX12_multiplies_55 ?_
      refine pm_l2i hC dX12_multiplies_56 ?_
      refine pm_iastore (len := 2400) hC 113 rfl rfl (by decide) ⟨by exact ow_88_58 b13, by exact ow_88_59 b13⟩ (by decide) dX12_multiplies_57 ?_
      refine pm_lload hC 0 dX12_multiplies_58 rfl ?_
      refine pm_ldc2 (v := 10000) hC 7157 dX12_multiplies_60 (by decide +kernel) ?_
      refine pm_ldiv hC ⟨by exact ow_88_41 b11 b87, by exact ow_88_42 b11 b87, by exact ow_88_43 b11 b87⟩ ⟨by decide, by decide, by decide⟩ dX12_multiplies_63 ?_
      refine pm_lstore (lv' := [(4, (1, ((y86 + x10) / 10000))), (7, (1, (y86 + x10))), (0, (3, 90)), (1, (0, 1)), (2, (1, a1)), (6, (0, x12))]) hC dX12_multiplies_64 (by decide) rfl ?_
      obtain ⟨x89, ei90⟩ : ∃ y : Int, x12 + 1 = y := ⟨_, rfl⟩
      replace hb24 := hb24.trans (pf_let_eq ei90)
      refine pm_iinc (y := x89) (lv' := [(6, (0, x89)), (4, (1, ((y86 + x10) / 10000))), (7, (1, (y86 + x10))), (0, (3, 90)), (1, (0, 1)), (2, (1, a1))]) hC 5 dX12_multiplies_66 (by decide) rfl ei90 rfl ?_
      refine pm_goto (tgt := 6) hC dX12_multiplies_69 (by decide) ?_
      refine pm_lvsub [3, 4, 5, 1, 0] (lv' := [(0, (3, 90)), (1, (0, 1)), (2, (1, a1)), (4, (1, ((y86 + x10) / 10000))), (6, (0, x89))]) rfl ?_
      exact ih28 _ (by exact ow_88_44 hq0 hm26 c30 ei90) ((y86 + x10) / 10000) x89 (pm_up V15 113 ((300 + x12) : Int).toNat ((y86 + x10) % 10000)) ⟨by exact ow_88_45 b11 b87, by exact ow_88_46 b11 b87⟩ ⟨by exact ow_88_47 b13 ei90, by exact ow_88_48 hq0 c30 ei90⟩ (by exact ow_88_49 b14 hm88) (hV16.put 113 ((300 + x12) : Int).toNat (x := ((y86 + x10) % 10000)) (lo := 0) (hi := 9999) rfl ⟨by exact ow_88_50, by exact ow_88_51⟩) (hF17.up 113 ((300 + x12) : Int).toNat ((y86 + x10) % 10000) (by decide) rfl) e18 e19 e20 e21 (hT.trans (pf_val_inl hb24)) rfl
  refine pm_lvsub [2, 3, 4, 1, 0] (lv' := [(0, (3, 90)), (1, (0, 1)), (2, (1, a1)), (4, (1, 0)), (6, (0, 0))]) rfl ?_
  exact L25 _ 0 0 V0 ⟨by decide, by decide⟩ ⟨by decide, by decide⟩ (by exact ow_88_23 h0) hV0 (pm_fs.rf (cs := [113, 114]) (fs := []) (V := V0)) ez0 e2 e5 e8 hT rfl
set_option maxHeartbeats 4000000 in
set_option maxRecDepth 100000 in
theorem fB_X12_fits_d0 (a1 a2 : Int) (h0 : 0 ≤ a1 ∧ a1 ≤ 6) (h1 : (-1) ≤ a2 ∧ a2 ≤ 9) : pm_K 4 yX12_fits cX12_fits 5 none (fun av V => av = [(3, 90), (0, a1), (0, a2), (0, 0)] ∧ pm_oq pm_qB V ∧ pm_h1 V ∧ pm_h2 V ∧ pm_h3 V) (fun _ V r V' => r = none ∧ pm_oq pm_qB V' ∧ pm_fs [110, 111, 112, 113, 114] [42, 43, 44, 45, 46, 47, 48, 49, 51] V V' ∧ (1 ≤ V' 114 0 ∧ V' 114 0 ≤ 181) ∧ (1 ≤ V' 114 1 ∧ V' 114 1 ≤ 181) ∧ (V' 114 2 = V 114 2) ∧ (V' 114 3 = V 114 3) ∧ F_X12_fits_d0 a1 a2 V = (0, V')) := by
  refine pm_MT.of (by decide) ⟨Nat.le_refl _, by decide⟩ (fun av V h => by rw [h.1]; exact (by decide : pm_words [(3, 0), (0, 0), (0, 0), (0, 0)] ≤ 5)) ?_
  rintro X av V0 hC - hR ⟨rfl, hV0, hn_pm_h1, hn_pm_h2, hn_pm_h3⟩
  change pm_J X 0 [(0, (3, 90)), (1, (0, a1)), (2, (0, a2)), (3, (0, 0))] [] 118 V0
  have hT := F_X12_fits_d0_eq a1 a2 V0
  obtain ⟨y1, e2⟩ : ∃ y, V0 114 0 = y := ⟨_, rfl⟩
  have b3 := hV0.get 114 0 (lo := 0) (hi := 600) (by decide) (by decide) rfl
  rw [e2] at b3
  replace hT := hT.trans (pf_let_eq e2)
  obtain ⟨y4, e5⟩ : ∃ y, V0 114 1 = y := ⟨_, rfl⟩
  have b6 := hV0.get 114 1 (lo := 0) (hi := 600) (by decide) (by decide) rfl
  rw [e5] at b6
  replace hT := hT.trans (pf_let_eq e5)
  obtain ⟨y7, e8⟩ : ∃ y, V0 114 2 = y := ⟨_, rfl⟩
  have b9 := hV0.get 114 2 (lo := 0) (hi := 600) (by decide) (by decide) rfl
  rw [e8] at b9
  replace hT := hT.trans (pf_let_eq e8)
  obtain ⟨y10, e11⟩ : ∃ y, V0 114 3 = y := ⟨_, rfl⟩
  have b12 := hV0.get 114 3 (lo := 0) (hi := 600) (by decide) (by decide) rfl
  rw [e11] at b12
  replace hT := hT.trans (pf_let_eq e11)
  refine pm_aload_n hC 0 (by decide) dX12_fits_0 rfl ?_
  refine pm_iload_n hC 3 dX12_fits_1 rfl ?_
  refine pm_callV (ci := 12) (as := [(0, 0)]) (st := []) hC 90 fB_X12_ones_d0 lm_X12_408 li_X12_ones (by decide) (by decide) rfl rfl rfl (by decide) rfl rfl (Nat.le_of_ble_eq_true rfl) ⟨Nat.le_refl _, Or.inl rfl⟩ dX12_fits_2 ⟨rfl, hV0⟩ (fun r13 V14 hp15 => ?_)
  obtain ⟨rfl, hV16, hF17, hxp18, hxp19, hxp20, hxp21, hE22⟩ := hp15
  replace hT := hT.trans (pf_call_eq hE22)
  change pm_J X 5 [(0, (3, 90)), (1, (0, a1)), (2, (0, a2)), (3, (0, 0))] [] 118 V14
  have hF23 := pm_fs.tr (pm_fs.rf (cs := [110, 111, 112, 113, 114]) (fs := [42, 43, 44, 45, 46, 47, 48, 49, 51]) (V := V0)) hF17 (by decide) (by decide)
  have hp24 : pm_h1 V14 := (pm_h1.fr hn_pm_h1 (hF17.2 16 (by decide)) (hF17.1 97 (by decide) (by decide)))
  have hp25 : pm_h2 V14 := (pm_h2.fr hn_pm_h2 (hF17.2 16 (by decide)) (hF17.2 21 (by decide)) (hF17.1 99 (by decide) (by decide)))
  have hp26 : pm_h3 V14 := (pm_h3.fr hn_pm_h3 (hF17.2 16 (by decide)) (hF17.2 25 (by decide)) (hF17.1 101 (by decide) (by decide)))
  obtain ⟨y27, e28⟩ : ∃ y, V14 114 0 = y := ⟨_, rfl⟩
  have b29 := hV16.get 114 0 (lo := 0) (hi := 600) (by decide) (by decide) rfl
  rw [e28] at b29
  replace hT := hT.trans (pf_let_eq e28)
  obtain ⟨y30, e31⟩ : ∃ y, V14 114 1 = y := ⟨_, rfl⟩
  have b32 := hV16.get 114 1 (lo := 0) (hi := 600) (by decide) (by decide) rfl
  rw [e31] at b32
  replace hT := hT.trans (pf_let_eq e31)
  obtain ⟨y33, e34⟩ : ∃ y, V14 114 2 = y := ⟨_, rfl⟩
  have b35 := hV16.get 114 2 (lo := 0) (hi := 600) (by decide) (by decide) rfl
  rw [e34] at b35
  replace hT := hT.trans (pf_let_eq e34)
  obtain ⟨y36, e37⟩ : ∃ y, V14 114 3 = y := ⟨_, rfl⟩
  have b38 := hV16.get 114 3 (lo := 0) (hi := 600) (by decide) (by decide) rfl
  rw [e37] at b38
  replace hT := hT.trans (pf_let_eq e37)
  refine pm_aload_n hC 0 (by decide) dX12_fits_5 rfl ?_
  refine pm_iload_n hC 3 dX12_fits_6 rfl ?_
  refine pm_iconst (v := 1) hC dX12_fits_7 ?_
  refine pm_iadd hC dX12_fits_8 ?_
  change pm_J X 9 [(0, (3, 90)), (1, (0, a1)), (2, (0, a2)), (3, (0, 0))] [(0, 1), (3, 90)] 118 V14
  refine pm_callV (ci := 12) (as := [(0, 1)]) (st := []) hC 90 fB_X12_ones_d1 lm_X12_408 li_X12_ones (by decide) (by decide) rfl rfl rfl (by decide) rfl rfl (Nat.le_of_ble_eq_true rfl) ⟨Nat.le_refl _, Or.inl rfl⟩ dX12_fits_9 ⟨rfl, hV16⟩ (fun r39 V40 hp41 => ?_)
  obtain ⟨rfl, hV42, hF43, hxp44, hxp45, hxp46, hxp47, hE48⟩ := hp41
  replace hT := hT.trans (pf_call_eq hE48)
  change pm_J X 12 [(0, (3, 90)), (1, (0, a1)), (2, (0, a2)), (3, (0, 0))] [] 118 V40
  have hF49 := pm_fs.tr hF23 hF43 (by decide) (by decide)
  have hp50 : pm_h1 V40 := (pm_h1.fr hp24 (hF43.2 16 (by decide)) (hF43.1 97 (by decide) (by decide)))
  have hp51 : pm_h2 V40 := (pm_h2.fr hp25 (hF43.2 16 (by decide)) (hF43.2 21 (by decide)) (hF43.1 99 (by decide) (by decide)))
  have hp52 : pm_h3 V40 := (pm_h3.fr hp26 (hF43.2 16 (by decide)) (hF43.2 25 (by decide)) (hF43.1 101 (by decide) (by decide)))
  obtain ⟨y53, e54⟩ : ∃ y, V40 114 0 = y := ⟨_, rfl⟩
  have b55 := hV42.get 114 0 (lo := 0) (hi := 600) (by decide) (by decide) rfl
  rw [e54] at b55
  replace hT := hT.trans (pf_let_eq e54)
  obtain ⟨y56, e57⟩ : ∃ y, V40 114 1 = y := ⟨_, rfl⟩
  have b58 := hV42.get 114 1 (lo := 0) (hi := 600) (by decide) (by decide) rfl
  rw [e57] at b58
  replace hT := hT.trans (pf_let_eq e57)
  obtain ⟨y59, e60⟩ : ∃ y, V40 114 2 = y := ⟨_, rfl⟩
  have b61 := hV42.get 114 2 (lo := 0) (hi := 600) (by decide) (by decide) rfl
  rw [e60] at b61
  replace hT := hT.trans (pf_let_eq e60)
  obtain ⟨y62, e63⟩ : ∃ y, V40 114 3 = y := ⟨_, rfl⟩
  have b64 := hV42.get 114 3 (lo := 0) (hi := 600) (by decide) (by decide) rfl
  rw [e63] at b64
  replace hT := hT.trans (pf_let_eq e63)
  refine pm_iconst (v := 0) hC dX12_fits_12 ?_
  refine pm_istore (lv' := [(4, (0, 0)), (0, (3, 90)), (1, (0, a1)), (2, (0, a2)), (3, (0, 0))]) hC dX12_fits_13 (by decide) rfl ?_
  obtain ⟨B77, hB78, hT⟩ := pf_loop hT
  have L80 : ∀ (N82 : Nat) (x65 : Int) (V67 : pm_M), (0 ≤ x65 ∧ x65 ≤ 60) → pm_oq pm_qB V67 → pm_fs [110, 111, 112, 113, 114] [42, 43, 44, 45, 46, 47, 48, 49, 51] V0 V67 → V67 114 2 = y59 → V67 114 3 = y62 → pm_h1 V67 → pm_h2 V67 → pm_h3 V67 → (1 ≤ V67 114 0 ∧ V67 114 0 ≤ 1 + 3 * x65) → (1 ≤ V67 114 1 ∧ V67 114 1 ≤ 1 + 3 * x65) → F_X12_fits_d0 a1 a2 V0 = pf_val ((0 : Int), V0) B77 (x65, V67) → (Int.toNat (60 - x65)) = N82 → pm_J X 15 [(0, (3, 90)), (1, (0, a1)), (2, (0, a2)), (3, (0, 0)), (4, (0, x65))] [] 118 V67 := by
    intro N82
    induction N82 using Nat.strongRecOn with
    | _ N82 ih83 =>
    intro x65 V67 b66 hV68 hF69 e70 e71 hp72 hp73 hp74 hm75 hm76 hT hm81
    have hb79 := congrFun hB78 (x65, V67)
    obtain ⟨y84, e85⟩ : ∃ y, V67 114 0 = y := ⟨_, rfl⟩
    have b86 := hV68.get 114 0 (lo := 0) (hi := 600) (by decide) (by decide) rfl
    rw [e85] at b86
    replace hb79 := hb79.trans (pf_let_eq e85)
    obtain ⟨y87, e88⟩ : ∃ y, V67 114 1 = y := ⟨_, rfl⟩
    have b89 := hV68.get 114 1 (lo := 0) (hi := 600) (by decide) (by decide) rfl
    rw [e88] at b89
    replace hb79 := hb79.trans (pf_let_eq e88)
    refine pm_iload hC 4 dX12_fits_15 rfl ?_
    refine pm_aload_n hC 0 (by decide) dX12_fits_17 rfl ?_
    obtain ⟨y90, e91⟩ : ∃ y, V67 90 25 = y := ⟨_, rfl⟩
    have b92 := hV68.get 90 25 (lo := 0) (hi := 60) (by decide) (by decide) rfl
    rw [e91] at b92
    replace hb79 := hb79.trans (pf_let_eq e91)
    refine pm_getf (v := y90) hC 90 fl_X12_235 rfl rfl (by decide) rfl e91 dX12_fits_18 ?_
    refine pm_icmp_ge (tgt := 97) hC ⟨by exact ow_88_60 hm76, by exact ow_88_61 b66⟩ ⟨by exact ow_88_62 b92, by exact ow_88_61 b92⟩ dX12_fits_21 (by decide) (fun c93 => ?_) (fun c93 => ?_)
    · skip
      replace hb79 := hb79.trans (if_pos c93)
      replace hT := hT.trans (pf_val_inr hb79)
      exact pm_vret hC hR ⟨rfl, hV68, hF69, (by have q := (show V67 114 0 = y84 from e85); have q2 := e2; exact ow_88_63 b66 hm75), (by have q := (show V67 114 1 = y87 from e88); have q2 := e5; exact ow_88_63 b66 hm76), (by have q := (show V67 114 2 = y59 from e70); have q2 := e8; exact ow_88_64 hxp20 hxp46 e60 e70), (by have q := (show V67 114 3 = y62 from e71); have q2 := e11; exact ow_88_64 hxp21 hxp47 e63 e71), hT⟩ dX12_fits_97
    · skip
      replace hb79 := hb79.trans (if_neg (Int.not_le.mpr c93))
      refine pm_iload_n hC 2 dX12_fits_24 rfl ?_
      refine pm_iconst (v := (-1)) hC dX12_fits_25 ?_
      refine pm_icmp_eq (tgt := 48) hC ⟨by exact ow_88_65 h1, by exact ow_88_66 h1⟩ ⟨by decide, by decide⟩ dX12_fits_26 (by decide) (fun c94 => ?_) (fun c94 => ?_)
      · skip
        replace hb79 := hb79.trans (if_pos c94)
        refine pm_aload_n hC 0 (by decide) dX12_fits_48 rfl ?_
        refine pm_iload hC 4 dX12_fits_49 rfl ?_
        refine pm_callV (ci := 12) (as := [(0, x65)]) (st := []) hC 90 (fB_X12_worksAnswer x65 ⟨by exact ow_88_67 hm76, by exact ow_88_68 b92 c93⟩) lm_X12_403 li_X12_worksAnswer (by decide) (by decide) rfl rfl rfl (by decide) rfl rfl (Nat.le_of_ble_eq_true rfl) ⟨Nat.le_refl _, Or.inl rfl⟩ dX12_fits_51 ⟨rfl, hV68, (show (x65) < V67 90 25 by exact ow_88_69 e91 c93), hp72, hp74⟩ (fun r95 V96 hp97 => ?_)
        obtain ⟨rfl, hV98, hF99, hq100, hq101, hg102, hg103, hE104⟩ := hp97
        replace hb79 := hb79.trans (pf_call_eq hE104)
        change pm_J X 54 [(0, (3, 90)), (1, (0, a1)), (2, (0, a2)), (3, (0, 0)), (4, (0, x65))] [] 118 V96
        have hF105 := pm_fs.tr hF69 hF99 (by decide) (by decide)
        have e106 : V96 114 2 = y59 := by rw [hF99.1 114 (by decide) (by decide)]; exact e70
        have e107 : V96 114 3 = y62 := by rw [hF99.1 114 (by decide) (by decide)]; exact e71
        have e108 : V96 114 0 = y84 := by rw [hF99.1 114 (by decide) (by decide)]; exact e85
        have e109 : V96 114 1 = y87 := by rw [hF99.1 114 (by decide) (by decide)]; exact e88
        have e110 : V96 90 25 = y90 := by rw [hF99.2 25 (by decide)]; exact e91
        have hp111 : pm_h1 V96 := (pm_h1.fr hp72 (hF99.2 16 (by decide)) (hF99.1 97 (by decide) (by decide)))
        have hp112 : pm_h2 V96 := (pm_h2.fr hp73 (hF99.2 16 (by decide)) (hF99.2 21 (by decide)) (hF99.1 99 (by decide) (by decide)))
        have hp113 : pm_h3 V96 := (pm_h3.fr hp74 (hF99.2 16 (by decide)) (hF99.2 25 (by decide)) (hF99.1 101 (by decide) (by decide)))
        obtain ⟨z114, ez115⟩ : ∃ z, V96 90 42 = z := ⟨_, rfl⟩
        rw [ez115] at hq100
        replace hb79 := hb79.trans (pf_let_eq ez115)
        obtain ⟨z116, ez117⟩ : ∃ z, V96 90 43 = z := ⟨_, rfl⟩
        rw [ez117] at hq101
        replace hb79 := hb79.trans (pf_let_eq ez117)
        refine pm_aload_n hC 0 (by decide) dX12_fits_54 rfl ?_
        refine pm_iload_n hC 1 dX12_fits_55 rfl ?_
        have q121 : 1 ≤ V96 90 42 ∧ V96 90 42 ≤ 171 := by (have e : V96 90 42 = z114 := ez115); rw [e]; exact ⟨by exact ow_88_70 hq100, by exact ow_88_71 hq100⟩
        have q122 : 1 ≤ V96 90 43 ∧ V96 90 43 ≤ 171 := by (have e : V96 90 43 = z116 := ez117); rw [e]; exact ⟨by exact ow_88_70 hq101, by exact ow_88_71 hq101⟩
        refine pm_callV (ci := 12) (as := [(0, a1)]) (st := []) hC 90 (fB_X12_weighs a1 ⟨by exact ow_88_72 h0, by exact ow_88_73 h0⟩) lm_X12_380 li_X12_weighs (by decide) (by decide) rfl rfl rfl (by decide) rfl rfl (Nat.le_of_ble_eq_true rfl) ⟨Nat.le_refl _, Or.inl rfl⟩ dX12_fits_56 ⟨rfl, hV98, q121, q122, hg102, hp111, hp112, hg103⟩ (fun r118 V119 hp120 => ?_)
        obtain ⟨rfl, hV123, hF124, hg125, hE126⟩ := hp120
        replace hb79 := hb79.trans (pf_call_eq hE126)
        change pm_J X 59 [(0, (3, 90)), (1, (0, a1)), (2, (0, a2)), (3, (0, 0)), (4, (0, x65))] [] 118 V119
        have hF127 := pm_fs.tr hF105 hF124 (by decide) (by decide)
        have e128 : V119 114 2 = y59 := by rw [hF124.1 114 (by decide) (by decide)]; exact e106
        have e129 : V119 114 3 = y62 := by rw [hF124.1 114 (by decide) (by decide)]; exact e107
        have e130 : V119 114 0 = y84 := by rw [hF124.1 114 (by decide) (by decide)]; exact e108
        have e131 : V119 114 1 = y87 := by rw [hF124.1 114 (by decide) (by decide)]; exact e109
        have e132 : V119 90 25 = y90 := by rw [hF124.2 25 (by decide)]; exact e110
        have e133 : V119 90 42 = z114 := by rw [hF124.2 42 (by decide)]; exact ez115
        have e134 : V119 90 43 = z116 := by rw [hF124.2 43 (by decide)]; exact ez117
        have hp135 : pm_h1 V119 := (pm_h1.fr hp111 (hF124.2 16 (by decide)) (hF124.1 97 (by decide) (by decide)))
        have hp136 : pm_h2 V119 := (pm_h2.fr hp112 (hF124.2 16 (by decide)) (hF124.2 21 (by decide)) (hF124.1 99 (by decide) (by decide)))
        have hp137 : pm_h3 V119 := (pm_h3.fr hp113 (hF124.2 16 (by decide)) (hF124.2 25 (by decide)) (hF124.1 101 (by decide) (by decide)))
        have hp138 : pm_w1 V119 := (pm_w1.fr hg102 (hF124.2 16 (by decide)) (hF124.2 48 (by decide)) (hF124.2 49 (by decide)) (hF124.1 110 (by decide) (by decide)) (hF124.1 111 (by decide) (by decide)))
        have hp139 : pm_w3 V119 := (pm_w3.fr hg103 (hF124.2 16 (by decide)) (hF124.2 46 (by decide)) (hF124.1 110 (by decide) (by decide)) (hF124.1 111 (by decide) (by decide)))
        refine pm_aload_n hC 0 (by decide) dX12_fits_59 rfl ?_
        refine pm_iload_n hC 3 dX12_fits_60 rfl ?_
        refine pm_aload_n hC 0 (by decide) dX12_fits_61 rfl ?_
        have e140 : V119 90 50 = 112 := hV123.one 90 50 (by decide) (by decide) rfl
        refine pm_getf (v := 112) hC 90 fl_X12_76 rfl rfl (by decide) rfl e140 dX12_fits_62 ?_
        refine pm_aload_n hC 0 (by decide) dX12_fits_65 rfl ?_
        have e141 : V119 90 26 = 101 := hV123.one 90 26 (by decide) (by decide) rfl
        refine pm_getf (v := 101) hC 90 fl_X12_43 rfl rfl (by decide) rfl e141 dX12_fits_66 ?_
        refine pm_iconst (v := 5) hC dX12_fits_69 ?_
        refine pm_iload hC 4 dX12_fits_70 rfl ?_
        refine pm_imul hC dX12_fits_72 ?_
        refine pm_iconst (v := 3) hC dX12_fits_73 ?_
        refine pm_iadd hC dX12_fits_74 ?_
        obtain ⟨y142, e143⟩ : ∃ y, V119 101 (((5 * x65) + 3) : Int).toNat = y := ⟨_, rfl⟩
        replace hb79 := hb79.trans (pf_let_eq e143)
        have b144 := hV123.get 101 (((5 * x65) + 3) : Int).toNat (lo := 0) (hi := 8) (t := 0) (by decide) (show _ < 300 by exact ow_88_74 b92 c93) ((pm_qe_r (tb := pm_qB) (k := 101) (i := (((5 * x65) + 3) : Int).toNat) (m := 5) (r := 3) (l := [(0, 999, 1), (0, 99, 0), (-99, 99, 0), (0, 8, 0), (0, 1, 0)]) rfl rfl (by omega)).trans rfl)
        rw [e143] at b144
        refine pm_iaload (len := 300) (v := y142) hC 101 rfl rfl (by decide) ⟨by exact ow_88_75 hm76, by exact ow_88_76 b92 c93⟩ (by decide) e143 dX12_fits_75 ?_
        obtain ⟨y145, e146⟩ : ∃ y, V119 112 (y142 : Int).toNat = y := ⟨_, rfl⟩
        replace hb79 := hb79.trans (pf_let_eq e146)
        have b147 := hV123.get 112 (y142 : Int).toNat (lo := 0) (hi := 80000000) (t := 0) (by decide) (show _ < 9 by exact ow_88_77 b144) rfl
        rw [e146] at b147
        refine pm_laload (len := 9) (v := y145) hC 112 rfl rfl (by decide) ⟨by exact ow_88_78 b144, by exact ow_88_79 b144⟩ (by decide) e146 dX12_fits_76 ?_
        have q151 : 1 ≤ V119 114 0 ∧ V119 114 0 ≤ 181 := by (have e : V119 114 0 = y84 := e130); rw [e]; exact ⟨by exact ow_88_80 hm75 e85, by exact ow_88_81 hm75 e85 b92 c93⟩
        refine pm_callV (ci := 12) (as := [(0, 0), (1, y145)]) (st := []) hC 90 (fB_X12_multiplies_d0 y145 ⟨by exact ow_88_82 b147, by exact ow_88_83 b147⟩) lm_X12_411 li_X12_multiplies (by decide) (by decide) rfl rfl rfl (by decide) rfl rfl (Nat.le_of_ble_eq_true rfl) ⟨Nat.le_refl _, Or.inl rfl⟩ dX12_fits_77 ⟨rfl, hV123, q151⟩ (fun r148 V149 hp150 => ?_)
        obtain ⟨rfl, hV152, hF153, hxp154, hxp155, hxp156, hxp157, hE158⟩ := hp150
        replace hb79 := hb79.trans (pf_call_eq hE158)
        change pm_J X 80 [(0, (3, 90)), (1, (0, a1)), (2, (0, a2)), (3, (0, 0)), (4, (0, x65))] [] 118 V149
        have hF159 := pm_fs.tr hF127 hF153 (by decide) (by decide)
        have e160 : V149 90 25 = y90 := by rw [hF153.2 25 (by decide)]; exact e132
        have e161 : V149 90 42 = z114 := by rw [hF153.2 42 (by decide)]; exact e133
        have e162 : V149 90 43 = z116 := by rw [hF153.2 43 (by decide)]; exact e134
        have e163 : V149 90 50 = 112 := by rw [hF153.2 50 (by decide)]; exact e140
        have e164 : V149 90 26 = 101 := by rw [hF153.2 26 (by decide)]; exact e141
        have hp165 : pm_h1 V149 := (pm_h1.fr hp135 (hF153.2 16 (by decide)) (hF153.1 97 (by decide) (by decide)))
        have hp166 : pm_h2 V149 := (pm_h2.fr hp136 (hF153.2 16 (by decide)) (hF153.2 21 (by decide)) (hF153.1 99 (by decide) (by decide)))
        have hp167 : pm_h3 V149 := (pm_h3.fr hp137 (hF153.2 16 (by decide)) (hF153.2 25 (by decide)) (hF153.1 101 (by decide) (by decide)))
        have hp168 : pm_w1 V149 := (pm_w1.fr hp138 (hF153.2 16 (by decide)) (hF153.2 48 (by decide)) (hF153.2 49 (by decide)) (hF153.1 110 (by decide) (by decide)) (hF153.1 111 (by decide) (by decide)))
        have hp169 : pm_w3 V149 := (pm_w3.fr hp139 (hF153.2 16 (by decide)) (hF153.2 46 (by decide)) (hF153.1 110 (by decide) (by decide)) (hF153.1 111 (by decide) (by decide)))
        have hp170 : pm_w2 V149 := (pm_w2.fr hg125 (hF153.2 16 (by decide)) (hF153.2 51 (by decide)) (hF153.1 112 (by decide) (by decide)))
        obtain ⟨y171, e172⟩ : ∃ y, V149 114 0 = y := ⟨_, rfl⟩
        have b173 := hV152.get 114 0 (lo := 0) (hi := 600) (by decide) (by decide) rfl
        rw [e172] at b173
        replace hb79 := hb79.trans (pf_let_eq e172)
        obtain ⟨y174, e175⟩ : ∃ y, V149 114 1 = y := ⟨_, rfl⟩
        have b176 := hV152.get 114 1 (lo := 0) (hi := 600) (by decide) (by decide) rfl
        rw [e175] at b176
        replace hb79 := hb79.trans (pf_let_eq e175)
        obtain ⟨y177, e178⟩ : ∃ y, V149 114 2 = y := ⟨_, rfl⟩
        have b179 := hV152.get 114 2 (lo := 0) (hi := 600) (by decide) (by decide) rfl
        rw [e178] at b179
        replace hb79 := hb79.trans (pf_let_eq e178)
        obtain ⟨y180, e181⟩ : ∃ y, V149 114 3 = y := ⟨_, rfl⟩
        have b182 := hV152.get 114 3 (lo := 0) (hi := 600) (by decide) (by decide) rfl
        rw [e181] at b182
        replace hb79 := hb79.trans (pf_let_eq e181)
        refine pm_aload_n hC 0 (by decide) dX12_fits_80 rfl ?_
        refine pm_iload_n hC 3 dX12_fits_81 rfl ?_
        refine pm_iconst (v := 1) hC dX12_fits_82 ?_
        refine pm_iadd hC dX12_fits_83 ?_
        change pm_J X 84 [(0, (3, 90)), (1, (0, a1)), (2, (0, a2)), (3, (0, 0)), (4, (0, x65))] [(0, 1), (3, 90)] 118 V149
        refine pm_aload_n hC 0 (by decide) dX12_fits_84 rfl ?_
        obtain ⟨y183, e184⟩ : ∃ y, V149 90 51 = y := ⟨_, rfl⟩
        have b185 := hV152.get 90 51 (lo := 0) (hi := 720000000) (by decide) (by decide) rfl
        rw [e184] at b185
        replace hb79 := hb79.trans (pf_let_eq e184)
        refine pm_getf (v := y183) hC 90 fl_X12_362 rfl rfl (by decide) rfl e184 dX12_fits_85 ?_
        have q189 : 1 ≤ V149 114 1 ∧ V149 114 1 ≤ 181 := by (have e : V149 114 1 = y174 := e175); rw [e]; exact ⟨by exact ow_88_84 hm76 e88 e131 hxp155 e175, by exact ow_88_85 hm76 e88 b92 c93 e131 hxp155 e175⟩
        refine pm_callV (ci := 12) (as := [(0, 1), (1, y183)]) (st := []) hC 90 (fB_X12_multiplies_d1 y183 ⟨by exact ow_88_23 b185, by exact ow_88_34 b185⟩) lm_X12_411 li_X12_multiplies (by decide) (by decide) rfl rfl rfl (by decide) rfl rfl (Nat.le_of_ble_eq_true rfl) ⟨Nat.le_refl _, Or.inl rfl⟩ dX12_fits_88 ⟨rfl, hV152, q189⟩ (fun r186 V187 hp188 => ?_)
        obtain ⟨rfl, hV190, hF191, hxp192, hxp193, hxp194, hxp195, hE196⟩ := hp188
        replace hb79 := hb79.trans (pf_call_eq hE196)
        change pm_J X 91 [(0, (3, 90)), (1, (0, a1)), (2, (0, a2)), (3, (0, 0)), (4, (0, x65))] [] 118 V187
        have hF197 := pm_fs.tr hF159 hF191 (by decide) (by decide)
        have e198 : V187 90 25 = y90 := by rw [hF191.2 25 (by decide)]; exact e160
        have e199 : V187 90 42 = z114 := by rw [hF191.2 42 (by decide)]; exact e161
        have e200 : V187 90 43 = z116 := by rw [hF191.2 43 (by decide)]; exact e162
        have e201 : V187 90 50 = 112 := by rw [hF191.2 50 (by decide)]; exact e163
        have e202 : V187 90 26 = 101 := by rw [hF191.2 26 (by decide)]; exact e164
        have e203 : V187 90 51 = y183 := by rw [hF191.2 51 (by decide)]; exact e184
        have hp204 : pm_h1 V187 := (pm_h1.fr hp165 (hF191.2 16 (by decide)) (hF191.1 97 (by decide) (by decide)))
        have hp205 : pm_h2 V187 := (pm_h2.fr hp166 (hF191.2 16 (by decide)) (hF191.2 21 (by decide)) (hF191.1 99 (by decide) (by decide)))
        have hp206 : pm_h3 V187 := (pm_h3.fr hp167 (hF191.2 16 (by decide)) (hF191.2 25 (by decide)) (hF191.1 101 (by decide) (by decide)))
        have hp207 : pm_w1 V187 := (pm_w1.fr hp168 (hF191.2 16 (by decide)) (hF191.2 48 (by decide)) (hF191.2 49 (by decide)) (hF191.1 110 (by decide) (by decide)) (hF191.1 111 (by decide) (by decide)))
        have hp208 : pm_w3 V187 := (pm_w3.fr hp169 (hF191.2 16 (by decide)) (hF191.2 46 (by decide)) (hF191.1 110 (by decide) (by decide)) (hF191.1 111 (by decide) (by decide)))
        have hp209 : pm_w2 V187 := (pm_w2.fr hp170 (hF191.2 16 (by decide)) (hF191.2 51 (by decide)) (hF191.1 112 (by decide) (by decide)))
        obtain ⟨y210, e211⟩ : ∃ y, V187 114 0 = y := ⟨_, rfl⟩
        have b212 := hV190.get 114 0 (lo := 0) (hi := 600) (by decide) (by decide) rfl
        rw [e211] at b212
        replace hb79 := hb79.trans (pf_let_eq e211)
        obtain ⟨y213, e214⟩ : ∃ y, V187 114 1 = y := ⟨_, rfl⟩
        have b215 := hV190.get 114 1 (lo := 0) (hi := 600) (by decide) (by decide) rfl
        rw [e214] at b215
        replace hb79 := hb79.trans (pf_let_eq e214)
        obtain ⟨y216, e217⟩ : ∃ y, V187 114 2 = y := ⟨_, rfl⟩
        have b218 := hV190.get 114 2 (lo := 0) (hi := 600) (by decide) (by decide) rfl
        rw [e217] at b218
        replace hb79 := hb79.trans (pf_let_eq e217)
        obtain ⟨y219, e220⟩ : ∃ y, V187 114 3 = y := ⟨_, rfl⟩
        have b221 := hV190.get 114 3 (lo := 0) (hi := 600) (by decide) (by decide) rfl
        rw [e220] at b221
        replace hb79 := hb79.trans (pf_let_eq e220)
        obtain ⟨x222, ei223⟩ : ∃ y : Int, x65 + 1 = y := ⟨_, rfl⟩
        replace hb79 := hb79.trans (pf_let_eq ei223)
        refine pm_iinc (y := x222) (lv' := [(4, (0, x222)), (0, (3, 90)), (1, (0, a1)), (2, (0, a2)), (3, (0, 0))]) hC 4 dX12_fits_91 (by decide) rfl ei223 rfl ?_
        refine pm_goto (tgt := 15) hC dX12_fits_94 (by decide) ?_
        refine pm_lvsub [1, 2, 3, 4, 0] (lv' := [(0, (3, 90)), (1, (0, a1)), (2, (0, a2)), (3, (0, 0)), (4, (0, x222))]) rfl ?_
        exact ih83 _ (by exact ow_88_86 hm81 b92 c93 ei223) x222 V187 ⟨by exact ow_88_87 hm75 ei223, by exact ow_88_88 b92 c93 ei223⟩ hV190 hF197 (by exact ow_88_89 e128 hxp156 hxp194) (by exact ow_88_89 e129 hxp157 hxp195) hp204 hp205 hp206 (by (have e : V187 114 0 = y210 := e211); rw [e]; exact ow_88_90 hm75 e85 e130 hxp154 hxp192 e211 ei223) (by (have e : V187 114 1 = y213 := e214); rw [e]; exact ow_88_91 hm76 e88 e131 hxp155 hxp193 e214 ei223) (hT.trans (pf_val_inl hb79)) rfl
      · skip
        replace hb79 := hb79.trans (if_neg c94)
        refine pm_aload_n hC 0 (by decide) dX12_fits_29 rfl ?_
        have e224 : V67 90 26 = 101 := hV68.one 90 26 (by decide) (by decide) rfl
        refine pm_getf (v := 101) hC 90 fl_X12_43 rfl rfl (by decide) rfl e224 dX12_fits_30 ?_
        refine pm_iconst (v := 5) hC dX12_fits_33 ?_
        refine pm_iload hC 4 dX12_fits_34 rfl ?_
        refine pm_imul hC dX12_fits_36 ?_
        obtain ⟨y225, e226⟩ : ∃ y, V67 101 ((5 * x65) : Int).toNat = y := ⟨_, rfl⟩
        replace hb79 := hb79.trans (pf_let_eq e226)
        have b227 := hV68.get1 101 ((5 * x65) : Int).toNat (lo := 0) (hi := 999) (by decide) (show _ < 300 by exact ow_88_92 b92 c93) ((pm_qe_r (tb := pm_qB) (k := 101) (i := ((5 * x65) : Int).toNat) (m := 5) (r := 0) (l := [(0, 999, 1), (0, 99, 0), (-99, 99, 0), (0, 8, 0), (0, 1, 0)]) rfl rfl (by omega)).trans rfl)
        rw [e226] at b227
        refine pm_iaload (len := 300) (v := y225) hC 101 rfl rfl (by decide) ⟨by exact ow_88_93 hm76, by exact ow_88_94 b92 c93⟩ (by decide) e226 dX12_fits_37 ?_
        refine pm_bipush (v := 100) hC dX12_fits_38 (by decide) ?_
        refine pm_idiv hC ⟨by exact ow_88_95 b227, by exact ow_88_96 b227, by exact ow_88_97 b227⟩ ⟨by decide, by decide, by decide⟩ dX12_fits_40 ?_
        refine pm_iload_n hC 2 dX12_fits_41 rfl ?_
        refine pm_icmp_eq (tgt := 48) hC ⟨by exact ow_88_98 b227, by exact ow_88_99 b227⟩ ⟨by exact ow_88_65 h1, by exact ow_88_66 h1⟩ dX12_fits_42 (by decide) (fun c228 => ?_) (fun c228 => ?_)
        · skip
          replace hb79 := hb79.trans (if_pos c228)
          refine pm_aload_n hC 0 (by decide) dX12_fits_48 rfl ?_
          refine pm_iload hC 4 dX12_fits_49 rfl ?_
          refine pm_callV (ci := 12) (as := [(0, x65)]) (st := []) hC 90 (fB_X12_worksAnswer x65 ⟨by exact ow_88_67 hm76, by exact ow_88_68 b92 c93⟩) lm_X12_403 li_X12_worksAnswer (by decide) (by decide) rfl rfl rfl (by decide) rfl rfl (Nat.le_of_ble_eq_true rfl) ⟨Nat.le_refl _, Or.inl rfl⟩ dX12_fits_51 ⟨rfl, hV68, (show (x65) < V67 90 25 by exact ow_88_69 e91 c93), hp72, hp74⟩ (fun r229 V230 hp231 => ?_)
          obtain ⟨rfl, hV232, hF233, hq234, hq235, hg236, hg237, hE238⟩ := hp231
          replace hb79 := hb79.trans (pf_call_eq hE238)
          change pm_J X 54 [(0, (3, 90)), (1, (0, a1)), (2, (0, a2)), (3, (0, 0)), (4, (0, x65))] [] 118 V230
          have hF239 := pm_fs.tr hF69 hF233 (by decide) (by decide)
          have e240 : V230 114 2 = y59 := by rw [hF233.1 114 (by decide) (by decide)]; exact e70
          have e241 : V230 114 3 = y62 := by rw [hF233.1 114 (by decide) (by decide)]; exact e71
          have e242 : V230 114 0 = y84 := by rw [hF233.1 114 (by decide) (by decide)]; exact e85
          have e243 : V230 114 1 = y87 := by rw [hF233.1 114 (by decide) (by decide)]; exact e88
          have e244 : V230 90 25 = y90 := by rw [hF233.2 25 (by decide)]; exact e91
          have e245 : V230 90 26 = 101 := by rw [hF233.2 26 (by decide)]; exact e224
          have hp246 : pm_h1 V230 := (pm_h1.fr hp72 (hF233.2 16 (by decide)) (hF233.1 97 (by decide) (by decide)))
          have hp247 : pm_h2 V230 := (pm_h2.fr hp73 (hF233.2 16 (by decide)) (hF233.2 21 (by decide)) (hF233.1 99 (by decide) (by decide)))
          have hp248 : pm_h3 V230 := (pm_h3.fr hp74 (hF233.2 16 (by decide)) (hF233.2 25 (by decide)) (hF233.1 101 (by decide) (by decide)))
          obtain ⟨z249, ez250⟩ : ∃ z, V230 90 42 = z := ⟨_, rfl⟩
          rw [ez250] at hq234
          replace hb79 := hb79.trans (pf_let_eq ez250)
          obtain ⟨z251, ez252⟩ : ∃ z, V230 90 43 = z := ⟨_, rfl⟩
          rw [ez252] at hq235
          replace hb79 := hb79.trans (pf_let_eq ez252)
          refine pm_aload_n hC 0 (by decide) dX12_fits_54 rfl ?_
          refine pm_iload_n hC 1 dX12_fits_55 rfl ?_
          have q256 : 1 ≤ V230 90 42 ∧ V230 90 42 ≤ 171 := by (have e : V230 90 42 = z249 := ez250); rw [e]; exact ⟨by exact ow_88_70 hq234, by exact ow_88_71 hq234⟩
          have q257 : 1 ≤ V230 90 43 ∧ V230 90 43 ≤ 171 := by (have e : V230 90 43 = z251 := ez252); rw [e]; exact ⟨by exact ow_88_70 hq235, by exact ow_88_71 hq235⟩
          refine pm_callV (ci := 12) (as := [(0, a1)]) (st := []) hC 90 (fB_X12_weighs a1 ⟨by exact ow_88_72 h0, by exact ow_88_73 h0⟩) lm_X12_380 li_X12_weighs (by decide) (by decide) rfl rfl rfl (by decide) rfl rfl (Nat.le_of_ble_eq_true rfl) ⟨Nat.le_refl _, Or.inl rfl⟩ dX12_fits_56 ⟨rfl, hV232, q256, q257, hg236, hp246, hp247, hg237⟩ (fun r253 V254 hp255 => ?_)
          obtain ⟨rfl, hV258, hF259, hg260, hE261⟩ := hp255
          replace hb79 := hb79.trans (pf_call_eq hE261)
          change pm_J X 59 [(0, (3, 90)), (1, (0, a1)), (2, (0, a2)), (3, (0, 0)), (4, (0, x65))] [] 118 V254
          have hF262 := pm_fs.tr hF239 hF259 (by decide) (by decide)
          have e263 : V254 114 2 = y59 := by rw [hF259.1 114 (by decide) (by decide)]; exact e240
          have e264 : V254 114 3 = y62 := by rw [hF259.1 114 (by decide) (by decide)]; exact e241
          have e265 : V254 114 0 = y84 := by rw [hF259.1 114 (by decide) (by decide)]; exact e242
          have e266 : V254 114 1 = y87 := by rw [hF259.1 114 (by decide) (by decide)]; exact e243
          have e267 : V254 90 25 = y90 := by rw [hF259.2 25 (by decide)]; exact e244
          have e268 : V254 90 26 = 101 := by rw [hF259.2 26 (by decide)]; exact e245
          have e269 : V254 90 42 = z249 := by rw [hF259.2 42 (by decide)]; exact ez250
          have e270 : V254 90 43 = z251 := by rw [hF259.2 43 (by decide)]; exact ez252
          have hp271 : pm_h1 V254 := (pm_h1.fr hp246 (hF259.2 16 (by decide)) (hF259.1 97 (by decide) (by decide)))
          have hp272 : pm_h2 V254 := (pm_h2.fr hp247 (hF259.2 16 (by decide)) (hF259.2 21 (by decide)) (hF259.1 99 (by decide) (by decide)))
          have hp273 : pm_h3 V254 := (pm_h3.fr hp248 (hF259.2 16 (by decide)) (hF259.2 25 (by decide)) (hF259.1 101 (by decide) (by decide)))
          have hp274 : pm_w1 V254 := (pm_w1.fr hg236 (hF259.2 16 (by decide)) (hF259.2 48 (by decide)) (hF259.2 49 (by decide)) (hF259.1 110 (by decide) (by decide)) (hF259.1 111 (by decide) (by decide)))
          have hp275 : pm_w3 V254 := (pm_w3.fr hg237 (hF259.2 16 (by decide)) (hF259.2 46 (by decide)) (hF259.1 110 (by decide) (by decide)) (hF259.1 111 (by decide) (by decide)))
          refine pm_aload_n hC 0 (by decide) dX12_fits_59 rfl ?_
          refine pm_iload_n hC 3 dX12_fits_60 rfl ?_
          refine pm_aload_n hC 0 (by decide) dX12_fits_61 rfl ?_
          have e276 : V254 90 50 = 112 := hV258.one 90 50 (by decide) (by decide) rfl
          refine pm_getf (v := 112) hC 90 fl_X12_76 rfl rfl (by decide) rfl e276 dX12_fits_62 ?_
          refine pm_aload_n hC 0 (by decide) dX12_fits_65 rfl ?_
          refine pm_getf (v := 101) hC 90 fl_X12_43 rfl rfl (by decide) rfl e268 dX12_fits_66 ?_
          refine pm_iconst (v := 5) hC dX12_fits_69 ?_
          refine pm_iload hC 4 dX12_fits_70 rfl ?_
          refine pm_imul hC dX12_fits_72 ?_
          refine pm_iconst (v := 3) hC dX12_fits_73 ?_
          refine pm_iadd hC dX12_fits_74 ?_
          obtain ⟨y277, e278⟩ : ∃ y, V254 101 (((5 * x65) + 3) : Int).toNat = y := ⟨_, rfl⟩
          replace hb79 := hb79.trans (pf_let_eq e278)
          have b279 := hV258.get 101 (((5 * x65) + 3) : Int).toNat (lo := 0) (hi := 8) (t := 0) (by decide) (show _ < 300 by exact ow_88_74 b92 c93) ((pm_qe_r (tb := pm_qB) (k := 101) (i := (((5 * x65) + 3) : Int).toNat) (m := 5) (r := 3) (l := [(0, 999, 1), (0, 99, 0), (-99, 99, 0), (0, 8, 0), (0, 1, 0)]) rfl rfl (by omega)).trans rfl)
          rw [e278] at b279
          refine pm_iaload (len := 300) (v := y277) hC 101 rfl rfl (by decide) ⟨by exact ow_88_75 hm75, by exact ow_88_76 b92 c93⟩ (by decide) e278 dX12_fits_75 ?_
          obtain ⟨y280, e281⟩ : ∃ y, V254 112 (y277 : Int).toNat = y := ⟨_, rfl⟩
          replace hb79 := hb79.trans (pf_let_eq e281)
          have b282 := hV258.get 112 (y277 : Int).toNat (lo := 0) (hi := 80000000) (t := 0) (by decide) (show _ < 9 by exact ow_88_77 b279) rfl
          rw [e281] at b282
          refine pm_laload (len := 9) (v := y280) hC 112 rfl rfl (by decide) ⟨by exact ow_88_78 b279, by exact ow_88_79 b279⟩ (by decide) e281 dX12_fits_76 ?_
          have q286 : 1 ≤ V254 114 0 ∧ V254 114 0 ≤ 181 := by (have e : V254 114 0 = y84 := e265); rw [e]; exact ⟨by exact ow_88_80 hm75 e85, by exact ow_88_81 hm75 e85 b92 c93⟩
          refine pm_callV (ci := 12) (as := [(0, 0), (1, y280)]) (st := []) hC 90 (fB_X12_multiplies_d0 y280 ⟨by exact ow_88_82 b282, by exact ow_88_83 b282⟩) lm_X12_411 li_X12_multiplies (by decide) (by decide) rfl rfl rfl (by decide) rfl rfl (Nat.le_of_ble_eq_true rfl) ⟨Nat.le_refl _, Or.inl rfl⟩ dX12_fits_77 ⟨rfl, hV258, q286⟩ (fun r283 V284 hp285 => ?_)
          obtain ⟨rfl, hV287, hF288, hxp289, hxp290, hxp291, hxp292, hE293⟩ := hp285
          replace hb79 := hb79.trans (pf_call_eq hE293)
          change pm_J X 80 [(0, (3, 90)), (1, (0, a1)), (2, (0, a2)), (3, (0, 0)), (4, (0, x65))] [] 118 V284
          have hF294 := pm_fs.tr hF262 hF288 (by decide) (by decide)
          have e295 : V284 90 25 = y90 := by rw [hF288.2 25 (by decide)]; exact e267
          have e296 : V284 90 26 = 101 := by rw [hF288.2 26 (by decide)]; exact e268
          have e297 : V284 90 42 = z249 := by rw [hF288.2 42 (by decide)]; exact e269
          have e298 : V284 90 43 = z251 := by rw [hF288.2 43 (by decide)]; exact e270
          have e299 : V284 90 50 = 112 := by rw [hF288.2 50 (by decide)]; exact e276
          have hp300 : pm_h1 V284 := (pm_h1.fr hp271 (hF288.2 16 (by decide)) (hF288.1 97 (by decide) (by decide)))
          have hp301 : pm_h2 V284 := (pm_h2.fr hp272 (hF288.2 16 (by decide)) (hF288.2 21 (by decide)) (hF288.1 99 (by decide) (by decide)))
          have hp302 : pm_h3 V284 := (pm_h3.fr hp273 (hF288.2 16 (by decide)) (hF288.2 25 (by decide)) (hF288.1 101 (by decide) (by decide)))
          have hp303 : pm_w1 V284 := (pm_w1.fr hp274 (hF288.2 16 (by decide)) (hF288.2 48 (by decide)) (hF288.2 49 (by decide)) (hF288.1 110 (by decide) (by decide)) (hF288.1 111 (by decide) (by decide)))
          have hp304 : pm_w3 V284 := (pm_w3.fr hp275 (hF288.2 16 (by decide)) (hF288.2 46 (by decide)) (hF288.1 110 (by decide) (by decide)) (hF288.1 111 (by decide) (by decide)))
          have hp305 : pm_w2 V284 := (pm_w2.fr hg260 (hF288.2 16 (by decide)) (hF288.2 51 (by decide)) (hF288.1 112 (by decide) (by decide)))
          obtain ⟨y306, e307⟩ : ∃ y, V284 114 0 = y := ⟨_, rfl⟩
          have b308 := hV287.get 114 0 (lo := 0) (hi := 600) (by decide) (by decide) rfl
          rw [e307] at b308
          replace hb79 := hb79.trans (pf_let_eq e307)
          obtain ⟨y309, e310⟩ : ∃ y, V284 114 1 = y := ⟨_, rfl⟩
          have b311 := hV287.get 114 1 (lo := 0) (hi := 600) (by decide) (by decide) rfl
          rw [e310] at b311
          replace hb79 := hb79.trans (pf_let_eq e310)
          obtain ⟨y312, e313⟩ : ∃ y, V284 114 2 = y := ⟨_, rfl⟩
          have b314 := hV287.get 114 2 (lo := 0) (hi := 600) (by decide) (by decide) rfl
          rw [e313] at b314
          replace hb79 := hb79.trans (pf_let_eq e313)
          obtain ⟨y315, e316⟩ : ∃ y, V284 114 3 = y := ⟨_, rfl⟩
          have b317 := hV287.get 114 3 (lo := 0) (hi := 600) (by decide) (by decide) rfl
          rw [e316] at b317
          replace hb79 := hb79.trans (pf_let_eq e316)
          refine pm_aload_n hC 0 (by decide) dX12_fits_80 rfl ?_
          refine pm_iload_n hC 3 dX12_fits_81 rfl ?_
          refine pm_iconst (v := 1) hC dX12_fits_82 ?_
          refine pm_iadd hC dX12_fits_83 ?_
          change pm_J X 84 [(0, (3, 90)), (1, (0, a1)), (2, (0, a2)), (3, (0, 0)), (4, (0, x65))] [(0, 1), (3, 90)] 118 V284
          refine pm_aload_n hC 0 (by decide) dX12_fits_84 rfl ?_
          obtain ⟨y318, e319⟩ : ∃ y, V284 90 51 = y := ⟨_, rfl⟩
          have b320 := hV287.get 90 51 (lo := 0) (hi := 720000000) (by decide) (by decide) rfl
          rw [e319] at b320
          replace hb79 := hb79.trans (pf_let_eq e319)
          refine pm_getf (v := y318) hC 90 fl_X12_362 rfl rfl (by decide) rfl e319 dX12_fits_85 ?_
          have q324 : 1 ≤ V284 114 1 ∧ V284 114 1 ≤ 181 := by (have e : V284 114 1 = y309 := e310); rw [e]; exact ⟨by exact ow_88_84 hm76 e88 e266 hxp290 e310, by exact ow_88_85 hm76 e88 b92 c93 e266 hxp290 e310⟩
          refine pm_callV (ci := 12) (as := [(0, 1), (1, y318)]) (st := []) hC 90 (fB_X12_multiplies_d1 y318 ⟨by exact ow_88_23 b320, by exact ow_88_34 b320⟩) lm_X12_411 li_X12_multiplies (by decide) (by decide) rfl rfl rfl (by decide) rfl rfl (Nat.le_of_ble_eq_true rfl) ⟨Nat.le_refl _, Or.inl rfl⟩ dX12_fits_88 ⟨rfl, hV287, q324⟩ (fun r321 V322 hp323 => ?_)
          obtain ⟨rfl, hV325, hF326, hxp327, hxp328, hxp329, hxp330, hE331⟩ := hp323
          replace hb79 := hb79.trans (pf_call_eq hE331)
          change pm_J X 91 [(0, (3, 90)), (1, (0, a1)), (2, (0, a2)), (3, (0, 0)), (4, (0, x65))] [] 118 V322
          have hF332 := pm_fs.tr hF294 hF326 (by decide) (by decide)
          have e333 : V322 90 25 = y90 := by rw [hF326.2 25 (by decide)]; exact e295
          have e334 : V322 90 26 = 101 := by rw [hF326.2 26 (by decide)]; exact e296
          have e335 : V322 90 42 = z249 := by rw [hF326.2 42 (by decide)]; exact e297
          have e336 : V322 90 43 = z251 := by rw [hF326.2 43 (by decide)]; exact e298
          have e337 : V322 90 50 = 112 := by rw [hF326.2 50 (by decide)]; exact e299
          have e338 : V322 90 51 = y318 := by rw [hF326.2 51 (by decide)]; exact e319
          have hp339 : pm_h1 V322 := (pm_h1.fr hp300 (hF326.2 16 (by decide)) (hF326.1 97 (by decide) (by decide)))
          have hp340 : pm_h2 V322 := (pm_h2.fr hp301 (hF326.2 16 (by decide)) (hF326.2 21 (by decide)) (hF326.1 99 (by decide) (by decide)))
          have hp341 : pm_h3 V322 := (pm_h3.fr hp302 (hF326.2 16 (by decide)) (hF326.2 25 (by decide)) (hF326.1 101 (by decide) (by decide)))
          have hp342 : pm_w1 V322 := (pm_w1.fr hp303 (hF326.2 16 (by decide)) (hF326.2 48 (by decide)) (hF326.2 49 (by decide)) (hF326.1 110 (by decide) (by decide)) (hF326.1 111 (by decide) (by decide)))
          have hp343 : pm_w3 V322 := (pm_w3.fr hp304 (hF326.2 16 (by decide)) (hF326.2 46 (by decide)) (hF326.1 110 (by decide) (by decide)) (hF326.1 111 (by decide) (by decide)))
          have hp344 : pm_w2 V322 := (pm_w2.fr hp305 (hF326.2 16 (by decide)) (hF326.2 51 (by decide)) (hF326.1 112 (by decide) (by decide)))
          obtain ⟨y345, e346⟩ : ∃ y, V322 114 0 = y := ⟨_, rfl⟩
          have b347 := hV325.get 114 0 (lo := 0) (hi := 600) (by decide) (by decide) rfl
          rw [e346] at b347
          replace hb79 := hb79.trans (pf_let_eq e346)
          obtain ⟨y348, e349⟩ : ∃ y, V322 114 1 = y := ⟨_, rfl⟩
          have b350 := hV325.get 114 1 (lo := 0) (hi := 600) (by decide) (by decide) rfl
          rw [e349] at b350
          replace hb79 := hb79.trans (pf_let_eq e349)
          obtain ⟨y351, e352⟩ : ∃ y, V322 114 2 = y := ⟨_, rfl⟩
          have b353 := hV325.get 114 2 (lo := 0) (hi := 600) (by decide) (by decide) rfl
          rw [e352] at b353
          replace hb79 := hb79.trans (pf_let_eq e352)
          obtain ⟨y354, e355⟩ : ∃ y, V322 114 3 = y := ⟨_, rfl⟩
          have b356 := hV325.get 114 3 (lo := 0) (hi := 600) (by decide) (by decide) rfl
          rw [e355] at b356
          replace hb79 := hb79.trans (pf_let_eq e355)
          obtain ⟨x357, ei358⟩ : ∃ y : Int, x65 + 1 = y := ⟨_, rfl⟩
          replace hb79 := hb79.trans (pf_let_eq ei358)
          refine pm_iinc (y := x357) (lv' := [(4, (0, x357)), (0, (3, 90)), (1, (0, a1)), (2, (0, a2)), (3, (0, 0))]) hC 4 dX12_fits_91 (by decide) rfl ei358 rfl ?_
          refine pm_goto (tgt := 15) hC dX12_fits_94 (by decide) ?_
          refine pm_lvsub [1, 2, 3, 4, 0] (lv' := [(0, (3, 90)), (1, (0, a1)), (2, (0, a2)), (3, (0, 0)), (4, (0, x357))]) rfl ?_
          exact ih83 _ (by exact ow_88_86 hm81 b92 c93 ei358) x357 V322 ⟨by exact ow_88_87 hm75 ei358, by exact ow_88_88 b92 c93 ei358⟩ hV325 hF332 (by exact ow_88_89 e263 hxp291 hxp329) (by exact ow_88_89 e264 hxp292 hxp330) hp339 hp340 hp341 (by (have e : V322 114 0 = y345 := e346); rw [e]; exact ow_88_90 hm75 e85 e265 hxp289 hxp327 e346 ei358) (by (have e : V322 114 1 = y348 := e349); rw [e]; exact ow_88_91 hm76 e88 e266 hxp290 hxp328 e349 ei358) (hT.trans (pf_val_inl hb79)) rfl
        · skip
          replace hb79 := hb79.trans (if_neg c228)
          refine pm_goto (tgt := 91) hC dX12_fits_45 (by decide) ?_
          obtain ⟨x359, ei360⟩ : ∃ y : Int, x65 + 1 = y := ⟨_, rfl⟩
          replace hb79 := hb79.trans (pf_let_eq ei360)
          refine pm_iinc (y := x359) (lv' := [(4, (0, x359)), (0, (3, 90)), (1, (0, a1)), (2, (0, a2)), (3, (0, 0))]) hC 4 dX12_fits_91 (by decide) rfl ei360 rfl ?_
          refine pm_goto (tgt := 15) hC dX12_fits_94 (by decide) ?_
          refine pm_lvsub [1, 2, 3, 4, 0] (lv' := [(0, (3, 90)), (1, (0, a1)), (2, (0, a2)), (3, (0, 0)), (4, (0, x359))]) rfl ?_
          exact ih83 _ (by exact ow_88_86 hm81 b92 c93 ei360) x359 V67 ⟨by exact ow_88_87 hm76 ei360, by exact ow_88_88 b92 c93 ei360⟩ hV68 hF69 (by exact ow_88_100 e70) (by exact ow_88_100 e71) hp72 hp73 hp74 (by (have e : V67 114 0 = y84 := e85); rw [e]; exact ow_88_101 hm75 e85 ei360) (by (have e : V67 114 1 = y87 := e88); rw [e]; exact ow_88_101 hm76 e88 ei360) (hT.trans (pf_val_inl hb79)) rfl
  refine pm_lvsub [1, 2, 3, 4, 0] (lv' := [(0, (3, 90)), (1, (0, a1)), (2, (0, a2)), (3, (0, 0)), (4, (0, 0))]) rfl ?_
  exact L80 _ 0 V40 ⟨by decide, by decide⟩ hV42 hF49 e60 e63 hp50 hp51 hp52 (by (have e : V40 114 0 = y53 := e54); rw [e]; exact ow_88_102 hxp18 hxp44 e54) (by (have e : V40 114 1 = y56 := e57); rw [e]; exact ow_88_103 hxp45 e57) hT rfl
set_option maxHeartbeats 4000000 in
set_option maxRecDepth 100000 in
theorem fB_X12_more (a1 a2 a3 : Int) (h0 : (-2147483648) ≤ a1 ∧ a1 ≤ 2147483647) (h1 : (-2147483648) ≤ a2 ∧ a2 ≤ 2147483647) (h2 : (-2147483648) ≤ a3 ∧ a3 ≤ 2147483647) : pm_K 5 yX12_more cX12_more 5 (some .int) (fun av V => av = [(3, 90), (0, a1), (0, a2), (0, a3)] ∧ pm_oq pm_qB V ∧ pm_h1 V ∧ pm_h2 V ∧ pm_h3 V) (fun _ V r V' => ∃ y, r = some (0, y) ∧ ((-1) ≤ y ∧ y ≤ 2) ∧ pm_oq pm_qB V' ∧ pm_fs [110, 111, 112, 113, 114] [42, 43, 44, 45, 46, 47, 48, 49, 51] V V' ∧ F_X12_more a1 a2 a3 V = (y, V')) := by
  refine pm_MT.of (by decide) ⟨Nat.le_refl _, by decide⟩ (fun av V h => by rw [h.1]; exact (by decide : pm_words [(3, 0), (0, 0), (0, 0), (0, 0)] ≤ 5)) ?_
  rintro X av V0 hC - hR ⟨rfl, hV0, hn_pm_h1, hn_pm_h2, hn_pm_h3⟩
  change pm_J X 0 [(0, (3, 90)), (1, (0, a1)), (2, (0, a2)), (3, (0, a3))] [] 118 V0
  have hT := F_X12_more_eq a1 a2 a3 V0
  refine pm_aload_n hC 0 (by decide) dX12_more_0 rfl ?_
  have e1 : V0 90 15 = 1 := hV0.one 90 15 (by decide) (by decide) rfl
  refine pm_getf (v := 1) hC 90 fl_X12_216 rfl rfl (by decide) rfl e1 dX12_more_1 ?_
  refine pm_if_eq (tgt := 34) hC ⟨by decide, by decide⟩ dX12_more_4 (by decide) (fun c2 => ?_) (fun c2 => ?_)
  · skip
    exfalso; exact ow_88_104 c2
  · skip
    refine pm_iload_n hC 1 dX12_more_7 rfl ?_
    refine pm_callS (as := [(0, a1)]) (st := []) hC (fB_X12_isLaw a1 ⟨by exact ow_88_105 h0, by exact ow_88_106 h0⟩) lm_X12_370 ls_X12_isLaw (by decide) (by decide) rfl rfl (Nat.le_of_ble_eq_true rfl) ⟨Nat.le_refl _, Or.inl rfl⟩ dX12_more_8 ⟨rfl, hV0⟩ (fun r3 V4 hp5 => ?_)
    obtain ⟨y6, rfl, b7, rfl, hE8⟩ := hp5
    replace hT := hT.trans (pf_call_eq hE8)
    change pm_J X 11 [(0, (3, 90)), (1, (0, a1)), (2, (0, a2)), (3, (0, a3))] [(0, y6)] 118 V0
    refine pm_if_eq (tgt := 34) hC ⟨by exact ow_88_107 b7, by exact ow_88_108 b7⟩ dX12_more_11 (by decide) (fun c9 => ?_) (fun c9 => ?_)
    · skip
      replace hT := hT.trans (if_pos c9)
      refine pm_iconst (v := (-1)) hC dX12_more_34 ?_
      exact pm_iret hC hR pm_nar0 ⟨(-1), rfl, ⟨by exact ow_88_109, by exact ow_88_110⟩, hV0, (pm_fs.rf (cs := [110, 111, 112, 113, 114]) (fs := [42, 43, 44, 45, 46, 47, 48, 49, 51]) (V := V0)), hT⟩ dX12_more_35
    · skip
      replace hT := hT.trans (if_neg c9)
      refine pm_iload_n hC 2 dX12_more_14 rfl ?_
      refine pm_callS (as := [(0, a2)]) (st := []) hC (fB_X12_isLaw a2 ⟨by exact ow_88_105 h1, by exact ow_88_106 h1⟩) lm_X12_370 ls_X12_isLaw (by decide) (by decide) rfl rfl (Nat.le_of_ble_eq_true rfl) ⟨Nat.le_refl _, Or.inl rfl⟩ dX12_more_15 ⟨rfl, hV0⟩ (fun r10 V11 hp12 => ?_)
      obtain ⟨y13, rfl, b14, rfl, hE15⟩ := hp12
      replace hT := hT.trans (pf_call_eq hE15)
      change pm_J X 18 [(0, (3, 90)), (1, (0, a1)), (2, (0, a2)), (3, (0, a3))] [(0, y13)] 118 V0
      refine pm_if_eq (tgt := 34) hC ⟨by exact ow_88_107 b14, by exact ow_88_108 b14⟩ dX12_more_18 (by decide) (fun c16 => ?_) (fun c16 => ?_)
      · skip
        replace hT := hT.trans (if_pos c16)
        refine pm_iconst (v := (-1)) hC dX12_more_34 ?_
        exact pm_iret hC hR pm_nar0 ⟨(-1), rfl, ⟨by exact ow_88_109, by exact ow_88_110⟩, hV0, (pm_fs.rf (cs := [110, 111, 112, 113, 114]) (fs := [42, 43, 44, 45, 46, 47, 48, 49, 51]) (V := V0)), hT⟩ dX12_more_35
      · skip
        replace hT := hT.trans (if_neg c16)
        refine pm_iload_n hC 3 dX12_more_21 rfl ?_
        refine pm_iconst (v := (-1)) hC dX12_more_22 ?_
        refine pm_icmp_eq (tgt := 36) hC ⟨by exact ow_88_105 h2, by exact ow_88_106 h2⟩ ⟨by decide, by decide⟩ dX12_more_23 (by decide) (fun c17 => ?_) (fun c17 => ?_)
        · skip
          replace hT := hT.trans (if_pos c17)
          refine pm_aload_n hC 0 (by decide) dX12_more_36 rfl ?_
          refine pm_iload_n hC 2 dX12_more_37 rfl ?_
          refine pm_iload_n hC 3 dX12_more_38 rfl ?_
          refine pm_iconst (v := 0) hC dX12_more_39 ?_
          obtain ⟨y18, e19⟩ : ∃ y, V0 114 0 = y := ⟨_, rfl⟩
          have b20 := hV0.get 114 0 (lo := 0) (hi := 600) (by decide) (by decide) rfl
          rw [e19] at b20
          replace hT := hT.trans (pf_let_eq e19)
          obtain ⟨y21, e22⟩ : ∃ y, V0 114 1 = y := ⟨_, rfl⟩
          have b23 := hV0.get 114 1 (lo := 0) (hi := 600) (by decide) (by decide) rfl
          rw [e22] at b23
          replace hT := hT.trans (pf_let_eq e22)
          obtain ⟨y24, e25⟩ : ∃ y, V0 114 2 = y := ⟨_, rfl⟩
          have b26 := hV0.get 114 2 (lo := 0) (hi := 600) (by decide) (by decide) rfl
          rw [e25] at b26
          replace hT := hT.trans (pf_let_eq e25)
          obtain ⟨y27, e28⟩ : ∃ y, V0 114 3 = y := ⟨_, rfl⟩
          have b29 := hV0.get 114 3 (lo := 0) (hi := 600) (by decide) (by decide) rfl
          rw [e28] at b29
          replace hT := hT.trans (pf_let_eq e28)
          refine pm_callV (ci := 12) (as := [(0, a2), (0, a3), (0, 0)]) (st := []) hC 90 (fB_X12_fits_d0 a2 a3 ⟨by exact ow_88_111 b14 c16, by exact ow_88_112 b14 c16⟩ ⟨by exact ow_88_113 c17, by exact ow_88_114 c17⟩) lm_X12_424 li_X12_fits (by decide) (by decide) rfl rfl rfl (by decide) rfl rfl (Nat.le_of_ble_eq_true rfl) ⟨Nat.le_refl _, Or.inl rfl⟩ dX12_more_40 ⟨rfl, hV0, hn_pm_h1, hn_pm_h2, hn_pm_h3⟩ (fun r30 V31 hp32 => ?_)
          obtain ⟨rfl, hV33, hF34, hxp35, hxp36, hxp37, hxp38, hE39⟩ := hp32
          replace hT := hT.trans (pf_call_eq hE39)
          change pm_J X 43 [(0, (3, 90)), (1, (0, a1)), (2, (0, a2)), (3, (0, a3))] [] 118 V31
          have hF40 := pm_fs.tr (pm_fs.rf (cs := [110, 111, 112, 113, 114]) (fs := [42, 43, 44, 45, 46, 47, 48, 49, 51]) (V := V0)) hF34 (by decide) (by decide)
          have e41 : V31 90 15 = 1 := by rw [hF34.2 15 (by decide)]; exact e1
          have hp42 : pm_h1 V31 := (pm_h1.fr hn_pm_h1 (hF34.2 16 (by decide)) (hF34.1 97 (by decide) (by decide)))
          have hp43 : pm_h2 V31 := (pm_h2.fr hn_pm_h2 (hF34.2 16 (by decide)) (hF34.2 21 (by decide)) (hF34.1 99 (by decide) (by decide)))
          have hp44 : pm_h3 V31 := (pm_h3.fr hn_pm_h3 (hF34.2 16 (by decide)) (hF34.2 25 (by decide)) (hF34.1 101 (by decide) (by decide)))
          obtain ⟨y45, e46⟩ : ∃ y, V31 114 0 = y := ⟨_, rfl⟩
          have b47 := hV33.get 114 0 (lo := 0) (hi := 600) (by decide) (by decide) rfl
          rw [e46] at b47
          replace hT := hT.trans (pf_let_eq e46)
          obtain ⟨y48, e49⟩ : ∃ y, V31 114 1 = y := ⟨_, rfl⟩
          have b50 := hV33.get 114 1 (lo := 0) (hi := 600) (by decide) (by decide) rfl
          rw [e49] at b50
          replace hT := hT.trans (pf_let_eq e49)
          obtain ⟨y51, e52⟩ : ∃ y, V31 114 2 = y := ⟨_, rfl⟩
          have b53 := hV33.get 114 2 (lo := 0) (hi := 600) (by decide) (by decide) rfl
          rw [e52] at b53
          replace hT := hT.trans (pf_let_eq e52)
          obtain ⟨y54, e55⟩ : ∃ y, V31 114 3 = y := ⟨_, rfl⟩
          have b56 := hV33.get 114 3 (lo := 0) (hi := 600) (by decide) (by decide) rfl
          rw [e55] at b56
          replace hT := hT.trans (pf_let_eq e55)
          refine pm_aload_n hC 0 (by decide) dX12_more_43 rfl ?_
          refine pm_callV (ci := 12) (as := []) (st := []) hC 90 fB_X12_keeps lm_X12_427 li_X12_keeps (by decide) (by decide) rfl rfl rfl (by decide) rfl rfl (Nat.le_of_ble_eq_true rfl) ⟨Nat.le_refl _, Or.inl rfl⟩ dX12_more_44 ⟨rfl, hV33⟩ (fun r57 V58 hp59 => ?_)
          obtain ⟨rfl, hV60, hF61, hxp62, hxp63, hxp64, hxp65, hE66⟩ := hp59
          replace hT := hT.trans (pf_call_eq hE66)
          change pm_J X 47 [(0, (3, 90)), (1, (0, a1)), (2, (0, a2)), (3, (0, a3))] [] 118 V58
          have hF67 := pm_fs.tr hF40 hF61 (by decide) (by decide)
          have e68 : V58 90 15 = 1 := by rw [hF61.2 15 (by decide)]; exact e41
          have hp69 : pm_h1 V58 := (pm_h1.fr hp42 (hF61.2 16 (by decide)) (hF61.1 97 (by decide) (by decide)))
          have hp70 : pm_h2 V58 := (pm_h2.fr hp43 (hF61.2 16 (by decide)) (hF61.2 21 (by decide)) (hF61.1 99 (by decide) (by decide)))
          have hp71 : pm_h3 V58 := (pm_h3.fr hp44 (hF61.2 16 (by decide)) (hF61.2 25 (by decide)) (hF61.1 101 (by decide) (by decide)))
          obtain ⟨y72, e73⟩ : ∃ y, V58 114 0 = y := ⟨_, rfl⟩
          have b74 := hV60.get 114 0 (lo := 0) (hi := 600) (by decide) (by decide) rfl
          rw [e73] at b74
          replace hT := hT.trans (pf_let_eq e73)
          obtain ⟨y75, e76⟩ : ∃ y, V58 114 1 = y := ⟨_, rfl⟩
          have b77 := hV60.get 114 1 (lo := 0) (hi := 600) (by decide) (by decide) rfl
          rw [e76] at b77
          replace hT := hT.trans (pf_let_eq e76)
          obtain ⟨y78, e79⟩ : ∃ y, V58 114 2 = y := ⟨_, rfl⟩
          have b80 := hV60.get 114 2 (lo := 0) (hi := 600) (by decide) (by decide) rfl
          rw [e79] at b80
          replace hT := hT.trans (pf_let_eq e79)
          obtain ⟨y81, e82⟩ : ∃ y, V58 114 3 = y := ⟨_, rfl⟩
          have b83 := hV60.get 114 3 (lo := 0) (hi := 600) (by decide) (by decide) rfl
          rw [e82] at b83
          replace hT := hT.trans (pf_let_eq e82)
          refine pm_aload_n hC 0 (by decide) dX12_more_47 rfl ?_
          refine pm_iload_n hC 1 dX12_more_48 rfl ?_
          refine pm_iload_n hC 3 dX12_more_49 rfl ?_
          refine pm_iconst (v := 0) hC dX12_more_50 ?_
          refine pm_callV (ci := 12) (as := [(0, a1), (0, a3), (0, 0)]) (st := []) hC 90 (fB_X12_fits_d0 a1 a3 ⟨by exact ow_88_111 b7 c9, by exact ow_88_112 b7 c9⟩ ⟨by exact ow_88_113 c17, by exact ow_88_114 c17⟩) lm_X12_424 li_X12_fits (by decide) (by decide) rfl rfl rfl (by decide) rfl rfl (Nat.le_of_ble_eq_true rfl) ⟨Nat.le_refl _, Or.inl rfl⟩ dX12_more_51 ⟨rfl, hV60, hp69, hp70, hp71⟩ (fun r84 V85 hp86 => ?_)
          obtain ⟨rfl, hV87, hF88, hxp89, hxp90, hxp91, hxp92, hE93⟩ := hp86
          replace hT := hT.trans (pf_call_eq hE93)
          change pm_J X 54 [(0, (3, 90)), (1, (0, a1)), (2, (0, a2)), (3, (0, a3))] [] 118 V85
          have hF94 := pm_fs.tr hF67 hF88 (by decide) (by decide)
          have e95 : V85 90 15 = 1 := by rw [hF88.2 15 (by decide)]; exact e68
          have hp96 : pm_h1 V85 := (pm_h1.fr hp69 (hF88.2 16 (by decide)) (hF88.1 97 (by decide) (by decide)))
          have hp97 : pm_h2 V85 := (pm_h2.fr hp70 (hF88.2 16 (by decide)) (hF88.2 21 (by decide)) (hF88.1 99 (by decide) (by decide)))
          have hp98 : pm_h3 V85 := (pm_h3.fr hp71 (hF88.2 16 (by decide)) (hF88.2 25 (by decide)) (hF88.1 101 (by decide) (by decide)))
          obtain ⟨y99, e100⟩ : ∃ y, V85 114 0 = y := ⟨_, rfl⟩
          have b101 := hV87.get 114 0 (lo := 0) (hi := 600) (by decide) (by decide) rfl
          rw [e100] at b101
          replace hT := hT.trans (pf_let_eq e100)
          obtain ⟨y102, e103⟩ : ∃ y, V85 114 1 = y := ⟨_, rfl⟩
          have b104 := hV87.get 114 1 (lo := 0) (hi := 600) (by decide) (by decide) rfl
          rw [e103] at b104
          replace hT := hT.trans (pf_let_eq e103)
          obtain ⟨y105, e106⟩ : ∃ y, V85 114 2 = y := ⟨_, rfl⟩
          have b107 := hV87.get 114 2 (lo := 0) (hi := 600) (by decide) (by decide) rfl
          rw [e106] at b107
          replace hT := hT.trans (pf_let_eq e106)
          obtain ⟨y108, e109⟩ : ∃ y, V85 114 3 = y := ⟨_, rfl⟩
          have b110 := hV87.get 114 3 (lo := 0) (hi := 600) (by decide) (by decide) rfl
          rw [e109] at b110
          replace hT := hT.trans (pf_let_eq e109)
          refine pm_aload_n hC 0 (by decide) dX12_more_54 rfl ?_
          have q114 : 0 ≤ V85 114 0 ∧ V85 114 0 ≤ 181 := by (have e : V85 114 0 = y99 := e100); rw [e]; exact ⟨by exact ow_88_115 hxp89 e100, by exact ow_88_116 hxp89 e100⟩
          have q115 : 0 ≤ V85 114 1 ∧ V85 114 1 ≤ 181 := by (have e : V85 114 1 = y102 := e103); rw [e]; exact ⟨by exact ow_88_115 hxp90 e103, by exact ow_88_116 hxp90 e103⟩
          have q116 : 0 ≤ V85 114 2 ∧ V85 114 2 ≤ 181 := by (have e : V85 114 2 = y105 := e106); rw [e]; exact ⟨by exact ow_88_117 b107, by exact ow_88_118 hxp35 hxp64 hxp91 e106⟩
          have q117 : 0 ≤ V85 114 3 ∧ V85 114 3 ≤ 181 := by (have e : V85 114 3 = y108 := e109); rw [e]; exact ⟨by exact ow_88_117 b110, by exact ow_88_118 hxp36 hxp65 hxp92 e109⟩
          refine pm_callV (ci := 12) (as := []) (st := []) hC 90 fB_X12_against lm_X12_430 li_X12_against (by decide) (by decide) rfl rfl rfl (by decide) rfl rfl (Nat.le_of_ble_eq_true rfl) ⟨Nat.le_refl _, Or.inl rfl⟩ dX12_more_55 ⟨rfl, hV87, q114, q115, q116, q117⟩ (fun r111 V112 hp113 => ?_)
          obtain ⟨y118, rfl, b119, hV120, hF121, hxp122, hxp123, hxp124, hxp125, hE126⟩ := hp113
          replace hT := hT.trans (pf_call_eq hE126)
          change pm_J X 58 [(0, (3, 90)), (1, (0, a1)), (2, (0, a2)), (3, (0, a3))] [(0, y118)] 118 V112
          have hF127 := pm_fs.tr hF94 hF121 (by decide) (by decide)
          have e128 : V112 90 15 = 1 := by rw [hF121.2 15 (by decide)]; exact e95
          have hp129 : pm_h1 V112 := (pm_h1.fr hp96 (hF121.2 16 (by decide)) (hF121.1 97 (by decide) (by decide)))
          have hp130 : pm_h2 V112 := (pm_h2.fr hp97 (hF121.2 16 (by decide)) (hF121.2 21 (by decide)) (hF121.1 99 (by decide) (by decide)))
          have hp131 : pm_h3 V112 := (pm_h3.fr hp98 (hF121.2 16 (by decide)) (hF121.2 25 (by decide)) (hF121.1 101 (by decide) (by decide)))
          obtain ⟨y132, e133⟩ : ∃ y, V112 114 0 = y := ⟨_, rfl⟩
          have b134 := hV120.get 114 0 (lo := 0) (hi := 600) (by decide) (by decide) rfl
          rw [e133] at b134
          replace hT := hT.trans (pf_let_eq e133)
          obtain ⟨y135, e136⟩ : ∃ y, V112 114 1 = y := ⟨_, rfl⟩
          have b137 := hV120.get 114 1 (lo := 0) (hi := 600) (by decide) (by decide) rfl
          rw [e136] at b137
          replace hT := hT.trans (pf_let_eq e136)
          obtain ⟨y138, e139⟩ : ∃ y, V112 114 2 = y := ⟨_, rfl⟩
          have b140 := hV120.get 114 2 (lo := 0) (hi := 600) (by decide) (by decide) rfl
          rw [e139] at b140
          replace hT := hT.trans (pf_let_eq e139)
          obtain ⟨y141, e142⟩ : ∃ y, V112 114 3 = y := ⟨_, rfl⟩
          have b143 := hV120.get 114 3 (lo := 0) (hi := 600) (by decide) (by decide) rfl
          rw [e142] at b143
          replace hT := hT.trans (pf_let_eq e142)
          refine pm_istore (lv' := [(4, (0, y118)), (0, (3, 90)), (1, (0, a1)), (2, (0, a2)), (3, (0, a3))]) hC dX12_more_58 (by decide) rfl ?_
          refine pm_iload hC 0 dX12_more_60 rfl ?_
          refine pm_if_le (tgt := 69) hC ⟨by exact ow_88_119 b119, by exact ow_88_120 b119⟩ dX12_more_62 (by decide) (fun c144 => ?_) (fun c144 => ?_)
          · skip
            replace hT := hT.trans (if_pos c144)
            refine pm_iload hC 0 dX12_more_69 rfl ?_
            refine pm_if_ge (tgt := 78) hC ⟨by exact ow_88_119 b119, by exact ow_88_121 c144⟩ dX12_more_71 (by decide) (fun c145 => ?_) (fun c145 => ?_)
            · skip
              replace hT := hT.trans (if_pos c145)
              refine pm_iconst (v := 0) hC dX12_more_78 ?_
              exact pm_iret hC hR pm_nar0 ⟨0, rfl, ⟨by exact ow_88_122, by exact ow_88_123⟩, hV120, hF127, hT⟩ dX12_more_79
            · skip
              replace hT := hT.trans (if_neg (Int.not_le.mpr c145))
              refine pm_iconst (v := 2) hC dX12_more_74 ?_
              refine pm_goto (tgt := 79) hC dX12_more_75 (by decide) ?_
              exact pm_iret hC hR pm_nar0 ⟨2, rfl, ⟨by exact ow_88_110, by exact ow_88_124⟩, hV120, hF127, hT⟩ dX12_more_79
          · skip
            replace hT := hT.trans (if_neg (Int.not_le.mpr c144))
            refine pm_iconst (v := 1) hC dX12_more_65 ?_
            refine pm_goto (tgt := 79) hC dX12_more_66 (by decide) ?_
            exact pm_iret hC hR pm_nar0 ⟨1, rfl, ⟨by exact ow_88_125, by exact ow_88_126⟩, hV120, hF127, hT⟩ dX12_more_79
        · skip
          replace hT := hT.trans (if_neg c17)
          refine pm_aload_n hC 0 (by decide) dX12_more_26 rfl ?_
          refine pm_iload_n hC 3 dX12_more_27 rfl ?_
          refine pm_callV (ci := 12) (as := [(0, a3)]) (st := []) hC 90 (fB_X12_isPerson a3 ⟨by exact ow_88_105 h2, by exact ow_88_106 h2⟩) lm_X12_302 li_X12_isPerson (by decide) (by decide) rfl rfl rfl (by decide) rfl rfl (Nat.le_of_ble_eq_true rfl) ⟨Nat.le_refl _, Or.inl rfl⟩ dX12_more_28 ⟨rfl, hV0⟩ (fun r146 V147 hp148 => ?_)
          obtain ⟨y149, rfl, b150, rfl, hE151⟩ := hp148
          replace hT := hT.trans (pf_call_eq hE151)
          change pm_J X 31 [(0, (3, 90)), (1, (0, a1)), (2, (0, a2)), (3, (0, a3))] [(0, y149)] 118 V0
          refine pm_if_ne (tgt := 36) hC ⟨by exact ow_88_127 b150, by exact ow_88_128 b150⟩ dX12_more_31 (by decide) (fun c152 => ?_) (fun c152 => ?_)
          · skip
            replace hT := hT.trans (if_pos c152)
            refine pm_aload_n hC 0 (by decide) dX12_more_36 rfl ?_
            refine pm_iload_n hC 2 dX12_more_37 rfl ?_
            refine pm_iload_n hC 3 dX12_more_38 rfl ?_
            refine pm_iconst (v := 0) hC dX12_more_39 ?_
            obtain ⟨y153, e154⟩ : ∃ y, V0 114 0 = y := ⟨_, rfl⟩
            have b155 := hV0.get 114 0 (lo := 0) (hi := 600) (by decide) (by decide) rfl
            rw [e154] at b155
            replace hT := hT.trans (pf_let_eq e154)
            obtain ⟨y156, e157⟩ : ∃ y, V0 114 1 = y := ⟨_, rfl⟩
            have b158 := hV0.get 114 1 (lo := 0) (hi := 600) (by decide) (by decide) rfl
            rw [e157] at b158
            replace hT := hT.trans (pf_let_eq e157)
            obtain ⟨y159, e160⟩ : ∃ y, V0 114 2 = y := ⟨_, rfl⟩
            have b161 := hV0.get 114 2 (lo := 0) (hi := 600) (by decide) (by decide) rfl
            rw [e160] at b161
            replace hT := hT.trans (pf_let_eq e160)
            obtain ⟨y162, e163⟩ : ∃ y, V0 114 3 = y := ⟨_, rfl⟩
            have b164 := hV0.get 114 3 (lo := 0) (hi := 600) (by decide) (by decide) rfl
            rw [e163] at b164
            replace hT := hT.trans (pf_let_eq e163)
            refine pm_callV (ci := 12) (as := [(0, a2), (0, a3), (0, 0)]) (st := []) hC 90 (fB_X12_fits_d0 a2 a3 ⟨by exact ow_88_111 b14 c16, by exact ow_88_112 b14 c16⟩ ⟨by exact ow_88_129 b150 c152, by exact ow_88_130 b150 c152⟩) lm_X12_424 li_X12_fits (by decide) (by decide) rfl rfl rfl (by decide) rfl rfl (Nat.le_of_ble_eq_true rfl) ⟨Nat.le_refl _, Or.inl rfl⟩ dX12_more_40 ⟨rfl, hV0, hn_pm_h1, hn_pm_h2, hn_pm_h3⟩ (fun r165 V166 hp167 => ?_)
            obtain ⟨rfl, hV168, hF169, hxp170, hxp171, hxp172, hxp173, hE174⟩ := hp167
            replace hT := hT.trans (pf_call_eq hE174)
            change pm_J X 43 [(0, (3, 90)), (1, (0, a1)), (2, (0, a2)), (3, (0, a3))] [] 118 V166
            have hF175 := pm_fs.tr (pm_fs.rf (cs := [110, 111, 112, 113, 114]) (fs := [42, 43, 44, 45, 46, 47, 48, 49, 51]) (V := V0)) hF169 (by decide) (by decide)
            have e176 : V166 90 15 = 1 := by rw [hF169.2 15 (by decide)]; exact e1
            have hp177 : pm_h1 V166 := (pm_h1.fr hn_pm_h1 (hF169.2 16 (by decide)) (hF169.1 97 (by decide) (by decide)))
            have hp178 : pm_h2 V166 := (pm_h2.fr hn_pm_h2 (hF169.2 16 (by decide)) (hF169.2 21 (by decide)) (hF169.1 99 (by decide) (by decide)))
            have hp179 : pm_h3 V166 := (pm_h3.fr hn_pm_h3 (hF169.2 16 (by decide)) (hF169.2 25 (by decide)) (hF169.1 101 (by decide) (by decide)))
            obtain ⟨y180, e181⟩ : ∃ y, V166 114 0 = y := ⟨_, rfl⟩
            have b182 := hV168.get 114 0 (lo := 0) (hi := 600) (by decide) (by decide) rfl
            rw [e181] at b182
            replace hT := hT.trans (pf_let_eq e181)
            obtain ⟨y183, e184⟩ : ∃ y, V166 114 1 = y := ⟨_, rfl⟩
            have b185 := hV168.get 114 1 (lo := 0) (hi := 600) (by decide) (by decide) rfl
            rw [e184] at b185
            replace hT := hT.trans (pf_let_eq e184)
            obtain ⟨y186, e187⟩ : ∃ y, V166 114 2 = y := ⟨_, rfl⟩
            have b188 := hV168.get 114 2 (lo := 0) (hi := 600) (by decide) (by decide) rfl
            rw [e187] at b188
            replace hT := hT.trans (pf_let_eq e187)
            obtain ⟨y189, e190⟩ : ∃ y, V166 114 3 = y := ⟨_, rfl⟩
            have b191 := hV168.get 114 3 (lo := 0) (hi := 600) (by decide) (by decide) rfl
            rw [e190] at b191
            replace hT := hT.trans (pf_let_eq e190)
            refine pm_aload_n hC 0 (by decide) dX12_more_43 rfl ?_
            refine pm_callV (ci := 12) (as := []) (st := []) hC 90 fB_X12_keeps lm_X12_427 li_X12_keeps (by decide) (by decide) rfl rfl rfl (by decide) rfl rfl (Nat.le_of_ble_eq_true rfl) ⟨Nat.le_refl _, Or.inl rfl⟩ dX12_more_44 ⟨rfl, hV168⟩ (fun r192 V193 hp194 => ?_)
            obtain ⟨rfl, hV195, hF196, hxp197, hxp198, hxp199, hxp200, hE201⟩ := hp194
            replace hT := hT.trans (pf_call_eq hE201)
            change pm_J X 47 [(0, (3, 90)), (1, (0, a1)), (2, (0, a2)), (3, (0, a3))] [] 118 V193
            have hF202 := pm_fs.tr hF175 hF196 (by decide) (by decide)
            have e203 : V193 90 15 = 1 := by rw [hF196.2 15 (by decide)]; exact e176
            have hp204 : pm_h1 V193 := (pm_h1.fr hp177 (hF196.2 16 (by decide)) (hF196.1 97 (by decide) (by decide)))
            have hp205 : pm_h2 V193 := (pm_h2.fr hp178 (hF196.2 16 (by decide)) (hF196.2 21 (by decide)) (hF196.1 99 (by decide) (by decide)))
            have hp206 : pm_h3 V193 := (pm_h3.fr hp179 (hF196.2 16 (by decide)) (hF196.2 25 (by decide)) (hF196.1 101 (by decide) (by decide)))
            obtain ⟨y207, e208⟩ : ∃ y, V193 114 0 = y := ⟨_, rfl⟩
            have b209 := hV195.get 114 0 (lo := 0) (hi := 600) (by decide) (by decide) rfl
            rw [e208] at b209
            replace hT := hT.trans (pf_let_eq e208)
            obtain ⟨y210, e211⟩ : ∃ y, V193 114 1 = y := ⟨_, rfl⟩
            have b212 := hV195.get 114 1 (lo := 0) (hi := 600) (by decide) (by decide) rfl
            rw [e211] at b212
            replace hT := hT.trans (pf_let_eq e211)
            obtain ⟨y213, e214⟩ : ∃ y, V193 114 2 = y := ⟨_, rfl⟩
            have b215 := hV195.get 114 2 (lo := 0) (hi := 600) (by decide) (by decide) rfl
            rw [e214] at b215
            replace hT := hT.trans (pf_let_eq e214)
            obtain ⟨y216, e217⟩ : ∃ y, V193 114 3 = y := ⟨_, rfl⟩
            have b218 := hV195.get 114 3 (lo := 0) (hi := 600) (by decide) (by decide) rfl
            rw [e217] at b218
            replace hT := hT.trans (pf_let_eq e217)
            refine pm_aload_n hC 0 (by decide) dX12_more_47 rfl ?_
            refine pm_iload_n hC 1 dX12_more_48 rfl ?_
            refine pm_iload_n hC 3 dX12_more_49 rfl ?_
            refine pm_iconst (v := 0) hC dX12_more_50 ?_
            refine pm_callV (ci := 12) (as := [(0, a1), (0, a3), (0, 0)]) (st := []) hC 90 (fB_X12_fits_d0 a1 a3 ⟨by exact ow_88_111 b7 c9, by exact ow_88_112 b7 c9⟩ ⟨by exact ow_88_129 b150 c152, by exact ow_88_130 b150 c152⟩) lm_X12_424 li_X12_fits (by decide) (by decide) rfl rfl rfl (by decide) rfl rfl (Nat.le_of_ble_eq_true rfl) ⟨Nat.le_refl _, Or.inl rfl⟩ dX12_more_51 ⟨rfl, hV195, hp204, hp205, hp206⟩ (fun r219 V220 hp221 => ?_)
            obtain ⟨rfl, hV222, hF223, hxp224, hxp225, hxp226, hxp227, hE228⟩ := hp221
            replace hT := hT.trans (pf_call_eq hE228)
            change pm_J X 54 [(0, (3, 90)), (1, (0, a1)), (2, (0, a2)), (3, (0, a3))] [] 118 V220
            have hF229 := pm_fs.tr hF202 hF223 (by decide) (by decide)
            have e230 : V220 90 15 = 1 := by rw [hF223.2 15 (by decide)]; exact e203
            have hp231 : pm_h1 V220 := (pm_h1.fr hp204 (hF223.2 16 (by decide)) (hF223.1 97 (by decide) (by decide)))
            have hp232 : pm_h2 V220 := (pm_h2.fr hp205 (hF223.2 16 (by decide)) (hF223.2 21 (by decide)) (hF223.1 99 (by decide) (by decide)))
            have hp233 : pm_h3 V220 := (pm_h3.fr hp206 (hF223.2 16 (by decide)) (hF223.2 25 (by decide)) (hF223.1 101 (by decide) (by decide)))
            obtain ⟨y234, e235⟩ : ∃ y, V220 114 0 = y := ⟨_, rfl⟩
            have b236 := hV222.get 114 0 (lo := 0) (hi := 600) (by decide) (by decide) rfl
            rw [e235] at b236
            replace hT := hT.trans (pf_let_eq e235)
            obtain ⟨y237, e238⟩ : ∃ y, V220 114 1 = y := ⟨_, rfl⟩
            have b239 := hV222.get 114 1 (lo := 0) (hi := 600) (by decide) (by decide) rfl
            rw [e238] at b239
            replace hT := hT.trans (pf_let_eq e238)
            obtain ⟨y240, e241⟩ : ∃ y, V220 114 2 = y := ⟨_, rfl⟩
            have b242 := hV222.get 114 2 (lo := 0) (hi := 600) (by decide) (by decide) rfl
            rw [e241] at b242
            replace hT := hT.trans (pf_let_eq e241)
            obtain ⟨y243, e244⟩ : ∃ y, V220 114 3 = y := ⟨_, rfl⟩
            have b245 := hV222.get 114 3 (lo := 0) (hi := 600) (by decide) (by decide) rfl
            rw [e244] at b245
            replace hT := hT.trans (pf_let_eq e244)
            refine pm_aload_n hC 0 (by decide) dX12_more_54 rfl ?_
            have q249 : 0 ≤ V220 114 0 ∧ V220 114 0 ≤ 181 := by (have e : V220 114 0 = y234 := e235); rw [e]; exact ⟨by exact ow_88_115 hxp224 e235, by exact ow_88_116 hxp224 e235⟩
            have q250 : 0 ≤ V220 114 1 ∧ V220 114 1 ≤ 181 := by (have e : V220 114 1 = y237 := e238); rw [e]; exact ⟨by exact ow_88_115 hxp225 e238, by exact ow_88_116 hxp225 e238⟩
            have q251 : 0 ≤ V220 114 2 ∧ V220 114 2 ≤ 181 := by (have e : V220 114 2 = y240 := e241); rw [e]; exact ⟨by exact ow_88_117 b242, by exact ow_88_118 hxp170 hxp199 hxp226 e241⟩
            have q252 : 0 ≤ V220 114 3 ∧ V220 114 3 ≤ 181 := by (have e : V220 114 3 = y243 := e244); rw [e]; exact ⟨by exact ow_88_117 b245, by exact ow_88_118 hxp171 hxp200 hxp227 e244⟩
            refine pm_callV (ci := 12) (as := []) (st := []) hC 90 fB_X12_against lm_X12_430 li_X12_against (by decide) (by decide) rfl rfl rfl (by decide) rfl rfl (Nat.le_of_ble_eq_true rfl) ⟨Nat.le_refl _, Or.inl rfl⟩ dX12_more_55 ⟨rfl, hV222, q249, q250, q251, q252⟩ (fun r246 V247 hp248 => ?_)
            obtain ⟨y253, rfl, b254, hV255, hF256, hxp257, hxp258, hxp259, hxp260, hE261⟩ := hp248
            replace hT := hT.trans (pf_call_eq hE261)
            change pm_J X 58 [(0, (3, 90)), (1, (0, a1)), (2, (0, a2)), (3, (0, a3))] [(0, y253)] 118 V247
            have hF262 := pm_fs.tr hF229 hF256 (by decide) (by decide)
            have e263 : V247 90 15 = 1 := by rw [hF256.2 15 (by decide)]; exact e230
            have hp264 : pm_h1 V247 := (pm_h1.fr hp231 (hF256.2 16 (by decide)) (hF256.1 97 (by decide) (by decide)))
            have hp265 : pm_h2 V247 := (pm_h2.fr hp232 (hF256.2 16 (by decide)) (hF256.2 21 (by decide)) (hF256.1 99 (by decide) (by decide)))
            have hp266 : pm_h3 V247 := (pm_h3.fr hp233 (hF256.2 16 (by decide)) (hF256.2 25 (by decide)) (hF256.1 101 (by decide) (by decide)))
            obtain ⟨y267, e268⟩ : ∃ y, V247 114 0 = y := ⟨_, rfl⟩
            have b269 := hV255.get 114 0 (lo := 0) (hi := 600) (by decide) (by decide) rfl
            rw [e268] at b269
            replace hT := hT.trans (pf_let_eq e268)
            obtain ⟨y270, e271⟩ : ∃ y, V247 114 1 = y := ⟨_, rfl⟩
            have b272 := hV255.get 114 1 (lo := 0) (hi := 600) (by decide) (by decide) rfl
            rw [e271] at b272
            replace hT := hT.trans (pf_let_eq e271)
            obtain ⟨y273, e274⟩ : ∃ y, V247 114 2 = y := ⟨_, rfl⟩
            have b275 := hV255.get 114 2 (lo := 0) (hi := 600) (by decide) (by decide) rfl
            rw [e274] at b275
            replace hT := hT.trans (pf_let_eq e274)
            obtain ⟨y276, e277⟩ : ∃ y, V247 114 3 = y := ⟨_, rfl⟩
            have b278 := hV255.get 114 3 (lo := 0) (hi := 600) (by decide) (by decide) rfl
            rw [e277] at b278
            replace hT := hT.trans (pf_let_eq e277)
            refine pm_istore (lv' := [(4, (0, y253)), (0, (3, 90)), (1, (0, a1)), (2, (0, a2)), (3, (0, a3))]) hC dX12_more_58 (by decide) rfl ?_
            refine pm_iload hC 0 dX12_more_60 rfl ?_
            refine pm_if_le (tgt := 69) hC ⟨by exact ow_88_119 b254, by exact ow_88_120 b254⟩ dX12_more_62 (by decide) (fun c279 => ?_) (fun c279 => ?_)
            · skip
              replace hT := hT.trans (if_pos c279)
              refine pm_iload hC 0 dX12_more_69 rfl ?_
              refine pm_if_ge (tgt := 78) hC ⟨by exact ow_88_119 b254, by exact ow_88_121 c279⟩ dX12_more_71 (by decide) (fun c280 => ?_) (fun c280 => ?_)
              · skip
                replace hT := hT.trans (if_pos c280)
                refine pm_iconst (v := 0) hC dX12_more_78 ?_
                exact pm_iret hC hR pm_nar0 ⟨0, rfl, ⟨by exact ow_88_122, by exact ow_88_123⟩, hV255, hF262, hT⟩ dX12_more_79
              · skip
                replace hT := hT.trans (if_neg (Int.not_le.mpr c280))
                refine pm_iconst (v := 2) hC dX12_more_74 ?_
                refine pm_goto (tgt := 79) hC dX12_more_75 (by decide) ?_
                exact pm_iret hC hR pm_nar0 ⟨2, rfl, ⟨by exact ow_88_110, by exact ow_88_124⟩, hV255, hF262, hT⟩ dX12_more_79
            · skip
              replace hT := hT.trans (if_neg (Int.not_le.mpr c279))
              refine pm_iconst (v := 1) hC dX12_more_65 ?_
              refine pm_goto (tgt := 79) hC dX12_more_66 (by decide) ?_
              exact pm_iret hC hR pm_nar0 ⟨1, rfl, ⟨by exact ow_88_125, by exact ow_88_126⟩, hV255, hF262, hT⟩ dX12_more_79
          · skip
            replace hT := hT.trans (if_neg (fun q => q c152))
            refine pm_iconst (v := (-1)) hC dX12_more_34 ?_
            exact pm_iret hC hR pm_nar0 ⟨(-1), rfl, ⟨by exact ow_88_109, by exact ow_88_110⟩, hV0, (pm_fs.rf (cs := [110, 111, 112, 113, 114]) (fs := [42, 43, 44, 45, 46, 47, 48, 49, 51]) (V := V0)), hT⟩ dX12_more_35
set_option maxHeartbeats 4000000 in
set_option maxRecDepth 100000 in
theorem fB_X12_best (a1 : Int) (h0 : (-2147483648) ≤ a1 ∧ a1 ≤ 2147483647) : pm_K 5 yX12_best cX12_best 4 (some .int) (fun av V => av = [(3, 90), (0, a1)] ∧ pm_oq pm_qB V ∧ pm_h1 V ∧ pm_h2 V ∧ pm_h3 V) (fun _ V r V' => ∃ y, r = some (0, y) ∧ ((-1) ≤ y ∧ y ≤ 6) ∧ pm_oq pm_qB V' ∧ pm_fs [110, 111, 112, 113, 114] [42, 43, 44, 45, 46, 47, 48, 49, 51] V V' ∧ F_X12_best a1 V = (y, V')) := by
  refine pm_MT.of (by decide) ⟨Nat.le_refl _, by decide⟩ (fun av V h => by rw [h.1]; exact (by decide : pm_words [(3, 0), (0, 0)] ≤ 4)) ?_
  rintro X av V0 hC - hR ⟨rfl, hV0, hn_pm_h1, hn_pm_h2, hn_pm_h3⟩
  change pm_J X 0 [(0, (3, 90)), (1, (0, a1))] [] 118 V0
  have hT := F_X12_best_eq a1 V0
  refine pm_aload_n hC 0 (by decide) dX12_best_0 rfl ?_
  have e1 : V0 90 15 = 1 := hV0.one 90 15 (by decide) (by decide) rfl
  refine pm_getf (v := 1) hC 90 fl_X12_216 rfl rfl (by decide) rfl e1 dX12_best_1 ?_
  refine pm_if_eq (tgt := 20) hC ⟨by decide, by decide⟩ dX12_best_4 (by decide) (fun c2 => ?_) (fun c2 => ?_)
  · skip
    exfalso; exact ow_88_104 c2
  · skip
    refine pm_iload_n hC 1 dX12_best_7 rfl ?_
    refine pm_iconst (v := (-1)) hC dX12_best_8 ?_
    refine pm_icmp_eq (tgt := 22) hC ⟨by exact ow_88_105 h0, by exact ow_88_106 h0⟩ ⟨by decide, by decide⟩ dX12_best_9 (by decide) (fun c3 => ?_) (fun c3 => ?_)
    · skip
      replace hT := hT.trans (if_pos c3)
      refine pm_iconst (v := (-1)) hC dX12_best_22 ?_
      refine pm_istore_n (lv' := [(2, (0, (-1))), (0, (3, 90)), (1, (0, a1))]) hC dX12_best_23 (by decide) rfl ?_
      refine pm_iconst (v := 0) hC dX12_best_24 ?_
      refine pm_istore_n (lv' := [(3, (0, 0)), (2, (0, (-1))), (0, (3, 90)), (1, (0, a1))]) hC dX12_best_25 (by decide) rfl ?_
      obtain ⟨y4, e5⟩ : ∃ y, V0 114 2 = y := ⟨_, rfl⟩
      have b6 := hV0.get 114 2 (lo := 0) (hi := 600) (by decide) (by decide) rfl
      rw [e5] at b6
      replace hT := hT.trans (pf_let_eq e5)
      obtain ⟨y7, e8⟩ : ∃ y, V0 114 3 = y := ⟨_, rfl⟩
      have b9 := hV0.get 114 3 (lo := 0) (hi := 600) (by decide) (by decide) rfl
      rw [e8] at b9
      replace hT := hT.trans (pf_let_eq e8)
      obtain ⟨B23, hB24, hT⟩ := pf_loop hT
      have L26 : ∀ (N28 : Nat) (x10 : Int) (x12 : Int) (V14 : pm_M), ((-1) ≤ x10 ∧ x10 ≤ 6) → (0 ≤ x12 ∧ x12 ≤ 7) → pm_oq pm_qB V14 → pm_fs [110, 111, 112, 113, 114] [42, 43, 44, 45, 46, 47, 48, 49, 51] V0 V14 → V14 90 15 = 1 → pm_h1 V14 → pm_h2 V14 → pm_h3 V14 → (x10 = -1 ∨ V14 114 2 ≤ 181) → (x10 = -1 ∨ V14 114 3 ≤ 181) → F_X12_best a1 V0 = pf_val ((0 : Int), V0) B23 (x10, x12, V14) → (Int.toNat (7 - x12)) = N28 → pm_J X 26 [(0, (3, 90)), (1, (0, a1)), (2, (0, x10)), (3, (0, x12))] [] 118 V14 := by
        intro N28
        induction N28 using Nat.strongRecOn with
        | _ N28 ih29 =>
        intro x10 x12 V14 b11 b13 hV15 hF16 e17 hp18 hp19 hp20 hm21 hm22 hT hm27
        have hb25 := congrFun hB24 (x10, x12, V14)
        obtain ⟨y30, e31⟩ : ∃ y, V14 114 2 = y := ⟨_, rfl⟩
        have b32 := hV15.get 114 2 (lo := 0) (hi := 600) (by decide) (by decide) rfl
        rw [e31] at b32
        replace hb25 := hb25.trans (pf_let_eq e31)
        obtain ⟨y33, e34⟩ : ∃ y, V14 114 3 = y := ⟨_, rfl⟩
        have b35 := hV15.get 114 3 (lo := 0) (hi := 600) (by decide) (by decide) rfl
        rw [e34] at b35
        replace hb25 := hb25.trans (pf_let_eq e34)
        refine pm_iload_n hC 3 dX12_best_26 rfl ?_
        refine pm_bipush (v := 7) hC dX12_best_27 (by decide) ?_
        refine pm_icmp_ge (tgt := 66) hC ⟨by exact ow_88_131 b13, by exact ow_88_132 b13⟩ ⟨by decide, by decide⟩ dX12_best_29 (by decide) (fun c36 => ?_) (fun c36 => ?_)
        · skip
          replace hb25 := hb25.trans (if_pos c36)
          refine pm_iload_n hC 2 dX12_best_66 rfl ?_
          replace hT := hT.trans (pf_val_inr hb25)
          exact pm_iret hC hR pm_nar0 ⟨x10, rfl, ⟨by exact ow_88_133 b11, by exact ow_88_134 b11⟩, hV15, hF16, hT⟩ dX12_best_67
        · skip
          replace hb25 := hb25.trans (if_neg (Int.not_le.mpr c36))
          refine pm_aload_n hC 0 (by decide) dX12_best_32 rfl ?_
          refine pm_iload_n hC 3 dX12_best_33 rfl ?_
          refine pm_iload_n hC 1 dX12_best_34 rfl ?_
          refine pm_iconst (v := 0) hC dX12_best_35 ?_
          obtain ⟨y37, e38⟩ : ∃ y, V14 114 0 = y := ⟨_, rfl⟩
          have b39 := hV15.get 114 0 (lo := 0) (hi := 600) (by decide) (by decide) rfl
          rw [e38] at b39
          replace hb25 := hb25.trans (pf_let_eq e38)
          obtain ⟨y40, e41⟩ : ∃ y, V14 114 1 = y := ⟨_, rfl⟩
          have b42 := hV15.get 114 1 (lo := 0) (hi := 600) (by decide) (by decide) rfl
          rw [e41] at b42
          replace hb25 := hb25.trans (pf_let_eq e41)
          refine pm_callV (ci := 12) (as := [(0, x12), (0, a1), (0, 0)]) (st := []) hC 90 (fB_X12_fits_d0 x12 a1 ⟨by exact ow_88_135 b13, by exact ow_88_136 c36⟩ ⟨by exact ow_88_113 c3, by exact ow_88_114 c3⟩) lm_X12_424 li_X12_fits (by decide) (by decide) rfl rfl rfl (by decide) rfl rfl (Nat.le_of_ble_eq_true rfl) ⟨Nat.le_refl _, Or.inl rfl⟩ dX12_best_36 ⟨rfl, hV15, hp18, hp19, hp20⟩ (fun r43 V44 hp45 => ?_)
          obtain ⟨rfl, hV46, hF47, hxp48, hxp49, hxp50, hxp51, hE52⟩ := hp45
          replace hb25 := hb25.trans (pf_call_eq hE52)
          change pm_J X 39 [(0, (3, 90)), (1, (0, a1)), (2, (0, x10)), (3, (0, x12))] [] 118 V44
          have hF53 := pm_fs.tr hF16 hF47 (by decide) (by decide)
          have e54 : V44 90 15 = 1 := by rw [hF47.2 15 (by decide)]; exact e17
          have hp55 : pm_h1 V44 := (pm_h1.fr hp18 (hF47.2 16 (by decide)) (hF47.1 97 (by decide) (by decide)))
          have hp56 : pm_h2 V44 := (pm_h2.fr hp19 (hF47.2 16 (by decide)) (hF47.2 21 (by decide)) (hF47.1 99 (by decide) (by decide)))
          have hp57 : pm_h3 V44 := (pm_h3.fr hp20 (hF47.2 16 (by decide)) (hF47.2 25 (by decide)) (hF47.1 101 (by decide) (by decide)))
          obtain ⟨y58, e59⟩ : ∃ y, V44 114 0 = y := ⟨_, rfl⟩
          have b60 := hV46.get 114 0 (lo := 0) (hi := 600) (by decide) (by decide) rfl
          rw [e59] at b60
          replace hb25 := hb25.trans (pf_let_eq e59)
          obtain ⟨y61, e62⟩ : ∃ y, V44 114 1 = y := ⟨_, rfl⟩
          have b63 := hV46.get 114 1 (lo := 0) (hi := 600) (by decide) (by decide) rfl
          rw [e62] at b63
          replace hb25 := hb25.trans (pf_let_eq e62)
          obtain ⟨y64, e65⟩ : ∃ y, V44 114 2 = y := ⟨_, rfl⟩
          have b66 := hV46.get 114 2 (lo := 0) (hi := 600) (by decide) (by decide) rfl
          rw [e65] at b66
          replace hb25 := hb25.trans (pf_let_eq e65)
          obtain ⟨y67, e68⟩ : ∃ y, V44 114 3 = y := ⟨_, rfl⟩
          have b69 := hV46.get 114 3 (lo := 0) (hi := 600) (by decide) (by decide) rfl
          rw [e68] at b69
          replace hb25 := hb25.trans (pf_let_eq e68)
          refine pm_iload_n hC 2 dX12_best_39 rfl ?_
          refine pm_iconst (v := (-1)) hC dX12_best_40 ?_
          refine pm_icmp_eq (tgt := 54) hC ⟨by exact ow_88_137 b11, by exact ow_88_138 b11⟩ ⟨by decide, by decide⟩ dX12_best_41 (by decide) (fun c70 => ?_) (fun c70 => ?_)
          · skip
            replace hb25 := hb25.trans (if_pos c70)
            refine pm_aload_n hC 0 (by decide) dX12_best_54 rfl ?_
            refine pm_callV (ci := 12) (as := []) (st := []) hC 90 fB_X12_keeps lm_X12_427 li_X12_keeps (by decide) (by decide) rfl rfl rfl (by decide) rfl rfl (Nat.le_of_ble_eq_true rfl) ⟨Nat.le_refl _, Or.inl rfl⟩ dX12_best_55 ⟨rfl, hV46⟩ (fun r71 V72 hp73 => ?_)
            obtain ⟨rfl, hV74, hF75, hxp76, hxp77, hxp78, hxp79, hE80⟩ := hp73
            replace hb25 := hb25.trans (pf_call_eq hE80)
            change pm_J X 58 [(0, (3, 90)), (1, (0, a1)), (2, (0, x10)), (3, (0, x12))] [] 118 V72
            have hF81 := pm_fs.tr hF53 hF75 (by decide) (by decide)
            have e82 : V72 90 15 = 1 := by rw [hF75.2 15 (by decide)]; exact e54
            have hp83 : pm_h1 V72 := (pm_h1.fr hp55 (hF75.2 16 (by decide)) (hF75.1 97 (by decide) (by decide)))
            have hp84 : pm_h2 V72 := (pm_h2.fr hp56 (hF75.2 16 (by decide)) (hF75.2 21 (by decide)) (hF75.1 99 (by decide) (by decide)))
            have hp85 : pm_h3 V72 := (pm_h3.fr hp57 (hF75.2 16 (by decide)) (hF75.2 25 (by decide)) (hF75.1 101 (by decide) (by decide)))
            obtain ⟨y86, e87⟩ : ∃ y, V72 114 0 = y := ⟨_, rfl⟩
            have b88 := hV74.get 114 0 (lo := 0) (hi := 600) (by decide) (by decide) rfl
            rw [e87] at b88
            replace hb25 := hb25.trans (pf_let_eq e87)
            obtain ⟨y89, e90⟩ : ∃ y, V72 114 1 = y := ⟨_, rfl⟩
            have b91 := hV74.get 114 1 (lo := 0) (hi := 600) (by decide) (by decide) rfl
            rw [e90] at b91
            replace hb25 := hb25.trans (pf_let_eq e90)
            obtain ⟨y92, e93⟩ : ∃ y, V72 114 2 = y := ⟨_, rfl⟩
            have b94 := hV74.get 114 2 (lo := 0) (hi := 600) (by decide) (by decide) rfl
            rw [e93] at b94
            replace hb25 := hb25.trans (pf_let_eq e93)
            obtain ⟨y95, e96⟩ : ∃ y, V72 114 3 = y := ⟨_, rfl⟩
            have b97 := hV74.get 114 3 (lo := 0) (hi := 600) (by decide) (by decide) rfl
            rw [e96] at b97
            replace hb25 := hb25.trans (pf_let_eq e96)
            refine pm_iload_n hC 3 dX12_best_58 rfl ?_
            refine pm_istore_n (lv' := [(2, (0, x12)), (0, (3, 90)), (1, (0, a1)), (3, (0, x12))]) hC dX12_best_59 (by decide) rfl ?_
            obtain ⟨x98, ei99⟩ : ∃ y : Int, x12 + 1 = y := ⟨_, rfl⟩
            replace hb25 := hb25.trans (pf_let_eq ei99)
            refine pm_iinc (y := x98) (lv' := [(3, (0, x98)), (2, (0, x12)), (0, (3, 90)), (1, (0, a1))]) hC 3 dX12_best_60 (by decide) rfl ei99 rfl ?_
            refine pm_goto (tgt := 26) hC dX12_best_63 (by decide) ?_
            refine pm_lvsub [2, 3, 1, 0] (lv' := [(0, (3, 90)), (1, (0, a1)), (2, (0, x12)), (3, (0, x98))]) rfl ?_
            exact ih29 _ (by exact ow_88_139 hm27 c36 ei99) x12 x98 V72 ⟨by exact ow_88_140 b13, by exact ow_88_136 c36⟩ ⟨by exact ow_88_141 b13 ei99, by exact ow_88_142 c36 ei99⟩ hV74 hF81 e82 hp83 hp84 hp85 (by (have e : V72 114 2 = y92 := e93); rw [e]; exact ow_88_143 hxp48 hxp78 e93) (by (have e : V72 114 3 = y95 := e96); rw [e]; exact ow_88_143 hxp49 hxp79 e96) (hT.trans (pf_val_inl hb25)) rfl
          · skip
            replace hb25 := hb25.trans (if_neg c70)
            refine pm_aload_n hC 0 (by decide) dX12_best_44 rfl ?_
            have q103 : 0 ≤ V44 114 0 ∧ V44 114 0 ≤ 181 := by (have e : V44 114 0 = y58 := e59); rw [e]; exact ⟨by exact ow_88_115 hxp48 e59, by exact ow_88_116 hxp48 e59⟩
            have q104 : 0 ≤ V44 114 1 ∧ V44 114 1 ≤ 181 := by (have e : V44 114 1 = y61 := e62); rw [e]; exact ⟨by exact ow_88_115 hxp49 e62, by exact ow_88_116 hxp49 e62⟩
            have q105 : 0 ≤ V44 114 2 ∧ V44 114 2 ≤ 181 := by (have e : V44 114 2 = y64 := e65); rw [e]; exact ⟨by exact ow_88_117 b66, by exact ow_88_144 b11 hm21 hxp50 e65 c70⟩
            have q106 : 0 ≤ V44 114 3 ∧ V44 114 3 ≤ 181 := by (have e : V44 114 3 = y67 := e68); rw [e]; exact ⟨by exact ow_88_117 b69, by exact ow_88_144 b11 hm22 hxp51 e68 c70⟩
            refine pm_callV (ci := 12) (as := []) (st := []) hC 90 fB_X12_against lm_X12_430 li_X12_against (by decide) (by decide) rfl rfl rfl (by decide) rfl rfl (Nat.le_of_ble_eq_true rfl) ⟨Nat.le_refl _, Or.inl rfl⟩ dX12_best_45 ⟨rfl, hV46, q103, q104, q105, q106⟩ (fun r100 V101 hp102 => ?_)
            obtain ⟨y107, rfl, b108, hV109, hF110, hxp111, hxp112, hxp113, hxp114, hE115⟩ := hp102
            replace hb25 := hb25.trans (pf_call_eq hE115)
            change pm_J X 48 [(0, (3, 90)), (1, (0, a1)), (2, (0, x10)), (3, (0, x12))] [(0, y107)] 118 V101
            have hF116 := pm_fs.tr hF53 hF110 (by decide) (by decide)
            have e117 : V101 90 15 = 1 := by rw [hF110.2 15 (by decide)]; exact e54
            have hp118 : pm_h1 V101 := (pm_h1.fr hp55 (hF110.2 16 (by decide)) (hF110.1 97 (by decide) (by decide)))
            have hp119 : pm_h2 V101 := (pm_h2.fr hp56 (hF110.2 16 (by decide)) (hF110.2 21 (by decide)) (hF110.1 99 (by decide) (by decide)))
            have hp120 : pm_h3 V101 := (pm_h3.fr hp57 (hF110.2 16 (by decide)) (hF110.2 25 (by decide)) (hF110.1 101 (by decide) (by decide)))
            obtain ⟨y121, e122⟩ : ∃ y, V101 114 0 = y := ⟨_, rfl⟩
            have b123 := hV109.get 114 0 (lo := 0) (hi := 600) (by decide) (by decide) rfl
            rw [e122] at b123
            replace hb25 := hb25.trans (pf_let_eq e122)
            obtain ⟨y124, e125⟩ : ∃ y, V101 114 1 = y := ⟨_, rfl⟩
            have b126 := hV109.get 114 1 (lo := 0) (hi := 600) (by decide) (by decide) rfl
            rw [e125] at b126
            replace hb25 := hb25.trans (pf_let_eq e125)
            obtain ⟨y127, e128⟩ : ∃ y, V101 114 2 = y := ⟨_, rfl⟩
            have b129 := hV109.get 114 2 (lo := 0) (hi := 600) (by decide) (by decide) rfl
            rw [e128] at b129
            replace hb25 := hb25.trans (pf_let_eq e128)
            obtain ⟨y130, e131⟩ : ∃ y, V101 114 3 = y := ⟨_, rfl⟩
            have b132 := hV109.get 114 3 (lo := 0) (hi := 600) (by decide) (by decide) rfl
            rw [e131] at b132
            replace hb25 := hb25.trans (pf_let_eq e131)
            refine pm_if_gt (tgt := 54) hC ⟨by exact ow_88_119 b108, by exact ow_88_120 b108⟩ dX12_best_48 (by decide) (fun c133 => ?_) (fun c133 => ?_)
            · skip
              replace hb25 := hb25.trans (if_pos c133)
              refine pm_aload_n hC 0 (by decide) dX12_best_54 rfl ?_
              refine pm_callV (ci := 12) (as := []) (st := []) hC 90 fB_X12_keeps lm_X12_427 li_X12_keeps (by decide) (by decide) rfl rfl rfl (by decide) rfl rfl (Nat.le_of_ble_eq_true rfl) ⟨Nat.le_refl _, Or.inl rfl⟩ dX12_best_55 ⟨rfl, hV109⟩ (fun r134 V135 hp136 => ?_)
              obtain ⟨rfl, hV137, hF138, hxp139, hxp140, hxp141, hxp142, hE143⟩ := hp136
              replace hb25 := hb25.trans (pf_call_eq hE143)
              change pm_J X 58 [(0, (3, 90)), (1, (0, a1)), (2, (0, x10)), (3, (0, x12))] [] 118 V135
              have hF144 := pm_fs.tr hF116 hF138 (by decide) (by decide)
              have e145 : V135 90 15 = 1 := by rw [hF138.2 15 (by decide)]; exact e117
              have hp146 : pm_h1 V135 := (pm_h1.fr hp118 (hF138.2 16 (by decide)) (hF138.1 97 (by decide) (by decide)))
              have hp147 : pm_h2 V135 := (pm_h2.fr hp119 (hF138.2 16 (by decide)) (hF138.2 21 (by decide)) (hF138.1 99 (by decide) (by decide)))
              have hp148 : pm_h3 V135 := (pm_h3.fr hp120 (hF138.2 16 (by decide)) (hF138.2 25 (by decide)) (hF138.1 101 (by decide) (by decide)))
              obtain ⟨y149, e150⟩ : ∃ y, V135 114 0 = y := ⟨_, rfl⟩
              have b151 := hV137.get 114 0 (lo := 0) (hi := 600) (by decide) (by decide) rfl
              rw [e150] at b151
              replace hb25 := hb25.trans (pf_let_eq e150)
              obtain ⟨y152, e153⟩ : ∃ y, V135 114 1 = y := ⟨_, rfl⟩
              have b154 := hV137.get 114 1 (lo := 0) (hi := 600) (by decide) (by decide) rfl
              rw [e153] at b154
              replace hb25 := hb25.trans (pf_let_eq e153)
              obtain ⟨y155, e156⟩ : ∃ y, V135 114 2 = y := ⟨_, rfl⟩
              have b157 := hV137.get 114 2 (lo := 0) (hi := 600) (by decide) (by decide) rfl
              rw [e156] at b157
              replace hb25 := hb25.trans (pf_let_eq e156)
              obtain ⟨y158, e159⟩ : ∃ y, V135 114 3 = y := ⟨_, rfl⟩
              have b160 := hV137.get 114 3 (lo := 0) (hi := 600) (by decide) (by decide) rfl
              rw [e159] at b160
              replace hb25 := hb25.trans (pf_let_eq e159)
              refine pm_iload_n hC 3 dX12_best_58 rfl ?_
              refine pm_istore_n (lv' := [(2, (0, x12)), (0, (3, 90)), (1, (0, a1)), (3, (0, x12))]) hC dX12_best_59 (by decide) rfl ?_
              obtain ⟨x161, ei162⟩ : ∃ y : Int, x12 + 1 = y := ⟨_, rfl⟩
              replace hb25 := hb25.trans (pf_let_eq ei162)
              refine pm_iinc (y := x161) (lv' := [(3, (0, x161)), (2, (0, x12)), (0, (3, 90)), (1, (0, a1))]) hC 3 dX12_best_60 (by decide) rfl ei162 rfl ?_
              refine pm_goto (tgt := 26) hC dX12_best_63 (by decide) ?_
              refine pm_lvsub [2, 3, 1, 0] (lv' := [(0, (3, 90)), (1, (0, a1)), (2, (0, x12)), (3, (0, x161))]) rfl ?_
              exact ih29 _ (by exact ow_88_139 hm27 c36 ei162) x12 x161 V135 ⟨by exact ow_88_140 b13, by exact ow_88_136 c36⟩ ⟨by exact ow_88_141 b13 ei162, by exact ow_88_142 c36 ei162⟩ hV137 hF144 e145 hp146 hp147 hp148 (by (have e : V135 114 2 = y155 := e156); rw [e]; exact ow_88_145 hxp48 hxp111 hxp141 e156) (by (have e : V135 114 3 = y158 := e159); rw [e]; exact ow_88_145 hxp49 hxp112 hxp142 e159) (hT.trans (pf_val_inl hb25)) rfl
            · skip
              replace hb25 := hb25.trans (if_neg (Int.not_lt.mpr c133))
              refine pm_goto (tgt := 60) hC dX12_best_51 (by decide) ?_
              obtain ⟨x163, ei164⟩ : ∃ y : Int, x12 + 1 = y := ⟨_, rfl⟩
              replace hb25 := hb25.trans (pf_let_eq ei164)
              refine pm_iinc (y := x163) (lv' := [(3, (0, x163)), (0, (3, 90)), (1, (0, a1)), (2, (0, x10))]) hC 3 dX12_best_60 (by decide) rfl ei164 rfl ?_
              refine pm_goto (tgt := 26) hC dX12_best_63 (by decide) ?_
              refine pm_lvsub [1, 2, 3, 0] (lv' := [(0, (3, 90)), (1, (0, a1)), (2, (0, x10)), (3, (0, x163))]) rfl ?_
              exact ih29 _ (by exact ow_88_139 hm27 c36 ei164) x10 x163 V101 ⟨by exact ow_88_133 b11, by exact ow_88_134 b11⟩ ⟨by exact ow_88_141 b13 ei164, by exact ow_88_142 c36 ei164⟩ hV109 hF116 e117 hp118 hp119 hp120 (by (have e : V101 114 2 = y127 := e128); rw [e]; exact ow_88_146 q105 hxp113 e128) (by (have e : V101 114 3 = y130 := e131); rw [e]; exact ow_88_146 q106 hxp114 e131) (hT.trans (pf_val_inl hb25)) rfl
      refine pm_lvsub [2, 3, 1, 0] (lv' := [(0, (3, 90)), (1, (0, a1)), (2, (0, (-1))), (3, (0, 0))]) rfl ?_
      exact L26 _ (-1) 0 V0 ⟨by decide, by decide⟩ ⟨by decide, by decide⟩ hV0 (pm_fs.rf (cs := [110, 111, 112, 113, 114]) (fs := [42, 43, 44, 45, 46, 47, 48, 49, 51]) (V := V0)) e1 hn_pm_h1 hn_pm_h2 hn_pm_h3 (by (have e : V0 114 2 = y4 := e5); rw [e]; exact ow_88_147) (by (have e : V0 114 3 = y7 := e8); rw [e]; exact ow_88_147) hT rfl
    · skip
      replace hT := hT.trans (if_neg c3)
      refine pm_aload_n hC 0 (by decide) dX12_best_12 rfl ?_
      refine pm_iload_n hC 1 dX12_best_13 rfl ?_
      refine pm_callV (ci := 12) (as := [(0, a1)]) (st := []) hC 90 (fB_X12_isPerson a1 ⟨by exact ow_88_105 h0, by exact ow_88_106 h0⟩) lm_X12_302 li_X12_isPerson (by decide) (by decide) rfl rfl rfl (by decide) rfl rfl (Nat.le_of_ble_eq_true rfl) ⟨Nat.le_refl _, Or.inl rfl⟩ dX12_best_14 ⟨rfl, hV0⟩ (fun r165 V166 hp167 => ?_)
      obtain ⟨y168, rfl, b169, rfl, hE170⟩ := hp167
      replace hT := hT.trans (pf_call_eq hE170)
      change pm_J X 17 [(0, (3, 90)), (1, (0, a1))] [(0, y168)] 118 V0
      refine pm_if_ne (tgt := 22) hC ⟨by exact ow_88_127 b169, by exact ow_88_128 b169⟩ dX12_best_17 (by decide) (fun c171 => ?_) (fun c171 => ?_)
      · skip
        replace hT := hT.trans (if_pos c171)
        refine pm_iconst (v := (-1)) hC dX12_best_22 ?_
        refine pm_istore_n (lv' := [(2, (0, (-1))), (0, (3, 90)), (1, (0, a1))]) hC dX12_best_23 (by decide) rfl ?_
        refine pm_iconst (v := 0) hC dX12_best_24 ?_
        refine pm_istore_n (lv' := [(3, (0, 0)), (2, (0, (-1))), (0, (3, 90)), (1, (0, a1))]) hC dX12_best_25 (by decide) rfl ?_
        obtain ⟨y172, e173⟩ : ∃ y, V0 114 2 = y := ⟨_, rfl⟩
        have b174 := hV0.get 114 2 (lo := 0) (hi := 600) (by decide) (by decide) rfl
        rw [e173] at b174
        replace hT := hT.trans (pf_let_eq e173)
        obtain ⟨y175, e176⟩ : ∃ y, V0 114 3 = y := ⟨_, rfl⟩
        have b177 := hV0.get 114 3 (lo := 0) (hi := 600) (by decide) (by decide) rfl
        rw [e176] at b177
        replace hT := hT.trans (pf_let_eq e176)
        obtain ⟨B191, hB192, hT⟩ := pf_loop hT
        have L194 : ∀ (N196 : Nat) (x178 : Int) (x180 : Int) (V182 : pm_M), ((-1) ≤ x178 ∧ x178 ≤ 6) → (0 ≤ x180 ∧ x180 ≤ 7) → pm_oq pm_qB V182 → pm_fs [110, 111, 112, 113, 114] [42, 43, 44, 45, 46, 47, 48, 49, 51] V0 V182 → V182 90 15 = 1 → pm_h1 V182 → pm_h2 V182 → pm_h3 V182 → (x178 = -1 ∨ V182 114 2 ≤ 181) → (x178 = -1 ∨ V182 114 3 ≤ 181) → F_X12_best a1 V0 = pf_val ((0 : Int), V0) B191 (x178, x180, V182) → (Int.toNat (7 - x180)) = N196 → pm_J X 26 [(0, (3, 90)), (1, (0, a1)), (2, (0, x178)), (3, (0, x180))] [] 118 V182 := by
          intro N196
          induction N196 using Nat.strongRecOn with
          | _ N196 ih197 =>
          intro x178 x180 V182 b179 b181 hV183 hF184 e185 hp186 hp187 hp188 hm189 hm190 hT hm195
          have hb193 := congrFun hB192 (x178, x180, V182)
          obtain ⟨y198, e199⟩ : ∃ y, V182 114 2 = y := ⟨_, rfl⟩
          have b200 := hV183.get 114 2 (lo := 0) (hi := 600) (by decide) (by decide) rfl
          rw [e199] at b200
          replace hb193 := hb193.trans (pf_let_eq e199)
          obtain ⟨y201, e202⟩ : ∃ y, V182 114 3 = y := ⟨_, rfl⟩
          have b203 := hV183.get 114 3 (lo := 0) (hi := 600) (by decide) (by decide) rfl
          rw [e202] at b203
          replace hb193 := hb193.trans (pf_let_eq e202)
          refine pm_iload_n hC 3 dX12_best_26 rfl ?_
          refine pm_bipush (v := 7) hC dX12_best_27 (by decide) ?_
          refine pm_icmp_ge (tgt := 66) hC ⟨by exact ow_88_131 b181, by exact ow_88_132 b181⟩ ⟨by decide, by decide⟩ dX12_best_29 (by decide) (fun c204 => ?_) (fun c204 => ?_)
          · skip
            replace hb193 := hb193.trans (if_pos c204)
            refine pm_iload_n hC 2 dX12_best_66 rfl ?_
            replace hT := hT.trans (pf_val_inr hb193)
            exact pm_iret hC hR pm_nar0 ⟨x178, rfl, ⟨by exact ow_88_133 b179, by exact ow_88_134 b179⟩, hV183, hF184, hT⟩ dX12_best_67
          · skip
            replace hb193 := hb193.trans (if_neg (Int.not_le.mpr c204))
            refine pm_aload_n hC 0 (by decide) dX12_best_32 rfl ?_
            refine pm_iload_n hC 3 dX12_best_33 rfl ?_
            refine pm_iload_n hC 1 dX12_best_34 rfl ?_
            refine pm_iconst (v := 0) hC dX12_best_35 ?_
            obtain ⟨y205, e206⟩ : ∃ y, V182 114 0 = y := ⟨_, rfl⟩
            have b207 := hV183.get 114 0 (lo := 0) (hi := 600) (by decide) (by decide) rfl
            rw [e206] at b207
            replace hb193 := hb193.trans (pf_let_eq e206)
            obtain ⟨y208, e209⟩ : ∃ y, V182 114 1 = y := ⟨_, rfl⟩
            have b210 := hV183.get 114 1 (lo := 0) (hi := 600) (by decide) (by decide) rfl
            rw [e209] at b210
            replace hb193 := hb193.trans (pf_let_eq e209)
            refine pm_callV (ci := 12) (as := [(0, x180), (0, a1), (0, 0)]) (st := []) hC 90 (fB_X12_fits_d0 x180 a1 ⟨by exact ow_88_135 b181, by exact ow_88_136 c204⟩ ⟨by exact ow_88_129 b169 c171, by exact ow_88_130 b169 c171⟩) lm_X12_424 li_X12_fits (by decide) (by decide) rfl rfl rfl (by decide) rfl rfl (Nat.le_of_ble_eq_true rfl) ⟨Nat.le_refl _, Or.inl rfl⟩ dX12_best_36 ⟨rfl, hV183, hp186, hp187, hp188⟩ (fun r211 V212 hp213 => ?_)
            obtain ⟨rfl, hV214, hF215, hxp216, hxp217, hxp218, hxp219, hE220⟩ := hp213
            replace hb193 := hb193.trans (pf_call_eq hE220)
            change pm_J X 39 [(0, (3, 90)), (1, (0, a1)), (2, (0, x178)), (3, (0, x180))] [] 118 V212
            have hF221 := pm_fs.tr hF184 hF215 (by decide) (by decide)
            have e222 : V212 90 15 = 1 := by rw [hF215.2 15 (by decide)]; exact e185
            have hp223 : pm_h1 V212 := (pm_h1.fr hp186 (hF215.2 16 (by decide)) (hF215.1 97 (by decide) (by decide)))
            have hp224 : pm_h2 V212 := (pm_h2.fr hp187 (hF215.2 16 (by decide)) (hF215.2 21 (by decide)) (hF215.1 99 (by decide) (by decide)))
            have hp225 : pm_h3 V212 := (pm_h3.fr hp188 (hF215.2 16 (by decide)) (hF215.2 25 (by decide)) (hF215.1 101 (by decide) (by decide)))
            obtain ⟨y226, e227⟩ : ∃ y, V212 114 0 = y := ⟨_, rfl⟩
            have b228 := hV214.get 114 0 (lo := 0) (hi := 600) (by decide) (by decide) rfl
            rw [e227] at b228
            replace hb193 := hb193.trans (pf_let_eq e227)
            obtain ⟨y229, e230⟩ : ∃ y, V212 114 1 = y := ⟨_, rfl⟩
            have b231 := hV214.get 114 1 (lo := 0) (hi := 600) (by decide) (by decide) rfl
            rw [e230] at b231
            replace hb193 := hb193.trans (pf_let_eq e230)
            obtain ⟨y232, e233⟩ : ∃ y, V212 114 2 = y := ⟨_, rfl⟩
            have b234 := hV214.get 114 2 (lo := 0) (hi := 600) (by decide) (by decide) rfl
            rw [e233] at b234
            replace hb193 := hb193.trans (pf_let_eq e233)
            obtain ⟨y235, e236⟩ : ∃ y, V212 114 3 = y := ⟨_, rfl⟩
            have b237 := hV214.get 114 3 (lo := 0) (hi := 600) (by decide) (by decide) rfl
            rw [e236] at b237
            replace hb193 := hb193.trans (pf_let_eq e236)
            refine pm_iload_n hC 2 dX12_best_39 rfl ?_
            refine pm_iconst (v := (-1)) hC dX12_best_40 ?_
            refine pm_icmp_eq (tgt := 54) hC ⟨by exact ow_88_137 b179, by exact ow_88_138 b179⟩ ⟨by decide, by decide⟩ dX12_best_41 (by decide) (fun c238 => ?_) (fun c238 => ?_)
            · skip
              replace hb193 := hb193.trans (if_pos c238)
              refine pm_aload_n hC 0 (by decide) dX12_best_54 rfl ?_
              refine pm_callV (ci := 12) (as := []) (st := []) hC 90 fB_X12_keeps lm_X12_427 li_X12_keeps (by decide) (by decide) rfl rfl rfl (by decide) rfl rfl (Nat.le_of_ble_eq_true rfl) ⟨Nat.le_refl _, Or.inl rfl⟩ dX12_best_55 ⟨rfl, hV214⟩ (fun r239 V240 hp241 => ?_)
              obtain ⟨rfl, hV242, hF243, hxp244, hxp245, hxp246, hxp247, hE248⟩ := hp241
              replace hb193 := hb193.trans (pf_call_eq hE248)
              change pm_J X 58 [(0, (3, 90)), (1, (0, a1)), (2, (0, x178)), (3, (0, x180))] [] 118 V240
              have hF249 := pm_fs.tr hF221 hF243 (by decide) (by decide)
              have e250 : V240 90 15 = 1 := by rw [hF243.2 15 (by decide)]; exact e222
              have hp251 : pm_h1 V240 := (pm_h1.fr hp223 (hF243.2 16 (by decide)) (hF243.1 97 (by decide) (by decide)))
              have hp252 : pm_h2 V240 := (pm_h2.fr hp224 (hF243.2 16 (by decide)) (hF243.2 21 (by decide)) (hF243.1 99 (by decide) (by decide)))
              have hp253 : pm_h3 V240 := (pm_h3.fr hp225 (hF243.2 16 (by decide)) (hF243.2 25 (by decide)) (hF243.1 101 (by decide) (by decide)))
              obtain ⟨y254, e255⟩ : ∃ y, V240 114 0 = y := ⟨_, rfl⟩
              have b256 := hV242.get 114 0 (lo := 0) (hi := 600) (by decide) (by decide) rfl
              rw [e255] at b256
              replace hb193 := hb193.trans (pf_let_eq e255)
              obtain ⟨y257, e258⟩ : ∃ y, V240 114 1 = y := ⟨_, rfl⟩
              have b259 := hV242.get 114 1 (lo := 0) (hi := 600) (by decide) (by decide) rfl
              rw [e258] at b259
              replace hb193 := hb193.trans (pf_let_eq e258)
              obtain ⟨y260, e261⟩ : ∃ y, V240 114 2 = y := ⟨_, rfl⟩
              have b262 := hV242.get 114 2 (lo := 0) (hi := 600) (by decide) (by decide) rfl
              rw [e261] at b262
              replace hb193 := hb193.trans (pf_let_eq e261)
              obtain ⟨y263, e264⟩ : ∃ y, V240 114 3 = y := ⟨_, rfl⟩
              have b265 := hV242.get 114 3 (lo := 0) (hi := 600) (by decide) (by decide) rfl
              rw [e264] at b265
              replace hb193 := hb193.trans (pf_let_eq e264)
              refine pm_iload_n hC 3 dX12_best_58 rfl ?_
              refine pm_istore_n (lv' := [(2, (0, x180)), (0, (3, 90)), (1, (0, a1)), (3, (0, x180))]) hC dX12_best_59 (by decide) rfl ?_
              obtain ⟨x266, ei267⟩ : ∃ y : Int, x180 + 1 = y := ⟨_, rfl⟩
              replace hb193 := hb193.trans (pf_let_eq ei267)
              refine pm_iinc (y := x266) (lv' := [(3, (0, x266)), (2, (0, x180)), (0, (3, 90)), (1, (0, a1))]) hC 3 dX12_best_60 (by decide) rfl ei267 rfl ?_
              refine pm_goto (tgt := 26) hC dX12_best_63 (by decide) ?_
              refine pm_lvsub [2, 3, 1, 0] (lv' := [(0, (3, 90)), (1, (0, a1)), (2, (0, x180)), (3, (0, x266))]) rfl ?_
              exact ih197 _ (by exact ow_88_139 hm195 c204 ei267) x180 x266 V240 ⟨by exact ow_88_140 b181, by exact ow_88_136 c204⟩ ⟨by exact ow_88_141 b181 ei267, by exact ow_88_142 c204 ei267⟩ hV242 hF249 e250 hp251 hp252 hp253 (by (have e : V240 114 2 = y260 := e261); rw [e]; exact ow_88_143 hxp216 hxp246 e261) (by (have e : V240 114 3 = y263 := e264); rw [e]; exact ow_88_143 hxp217 hxp247 e264) (hT.trans (pf_val_inl hb193)) rfl
            · skip
              replace hb193 := hb193.trans (if_neg c238)
              refine pm_aload_n hC 0 (by decide) dX12_best_44 rfl ?_
              have q271 : 0 ≤ V212 114 0 ∧ V212 114 0 ≤ 181 := by (have e : V212 114 0 = y226 := e227); rw [e]; exact ⟨by exact ow_88_115 hxp216 e227, by exact ow_88_116 hxp216 e227⟩
              have q272 : 0 ≤ V212 114 1 ∧ V212 114 1 ≤ 181 := by (have e : V212 114 1 = y229 := e230); rw [e]; exact ⟨by exact ow_88_115 hxp217 e230, by exact ow_88_116 hxp217 e230⟩
              have q273 : 0 ≤ V212 114 2 ∧ V212 114 2 ≤ 181 := by (have e : V212 114 2 = y232 := e233); rw [e]; exact ⟨by exact ow_88_117 b234, by exact ow_88_144 b179 hm189 hxp218 e233 c238⟩
              have q274 : 0 ≤ V212 114 3 ∧ V212 114 3 ≤ 181 := by (have e : V212 114 3 = y235 := e236); rw [e]; exact ⟨by exact ow_88_117 b237, by exact ow_88_144 b179 hm190 hxp219 e236 c238⟩
              refine pm_callV (ci := 12) (as := []) (st := []) hC 90 fB_X12_against lm_X12_430 li_X12_against (by decide) (by decide) rfl rfl rfl (by decide) rfl rfl (Nat.le_of_ble_eq_true rfl) ⟨Nat.le_refl _, Or.inl rfl⟩ dX12_best_45 ⟨rfl, hV214, q271, q272, q273, q274⟩ (fun r268 V269 hp270 => ?_)
              obtain ⟨y275, rfl, b276, hV277, hF278, hxp279, hxp280, hxp281, hxp282, hE283⟩ := hp270
              replace hb193 := hb193.trans (pf_call_eq hE283)
              change pm_J X 48 [(0, (3, 90)), (1, (0, a1)), (2, (0, x178)), (3, (0, x180))] [(0, y275)] 118 V269
              have hF284 := pm_fs.tr hF221 hF278 (by decide) (by decide)
              have e285 : V269 90 15 = 1 := by rw [hF278.2 15 (by decide)]; exact e222
              have hp286 : pm_h1 V269 := (pm_h1.fr hp223 (hF278.2 16 (by decide)) (hF278.1 97 (by decide) (by decide)))
              have hp287 : pm_h2 V269 := (pm_h2.fr hp224 (hF278.2 16 (by decide)) (hF278.2 21 (by decide)) (hF278.1 99 (by decide) (by decide)))
              have hp288 : pm_h3 V269 := (pm_h3.fr hp225 (hF278.2 16 (by decide)) (hF278.2 25 (by decide)) (hF278.1 101 (by decide) (by decide)))
              obtain ⟨y289, e290⟩ : ∃ y, V269 114 0 = y := ⟨_, rfl⟩
              have b291 := hV277.get 114 0 (lo := 0) (hi := 600) (by decide) (by decide) rfl
              rw [e290] at b291
              replace hb193 := hb193.trans (pf_let_eq e290)
              obtain ⟨y292, e293⟩ : ∃ y, V269 114 1 = y := ⟨_, rfl⟩
              have b294 := hV277.get 114 1 (lo := 0) (hi := 600) (by decide) (by decide) rfl
              rw [e293] at b294
              replace hb193 := hb193.trans (pf_let_eq e293)
              obtain ⟨y295, e296⟩ : ∃ y, V269 114 2 = y := ⟨_, rfl⟩
              have b297 := hV277.get 114 2 (lo := 0) (hi := 600) (by decide) (by decide) rfl
              rw [e296] at b297
              replace hb193 := hb193.trans (pf_let_eq e296)
              obtain ⟨y298, e299⟩ : ∃ y, V269 114 3 = y := ⟨_, rfl⟩
              have b300 := hV277.get 114 3 (lo := 0) (hi := 600) (by decide) (by decide) rfl
              rw [e299] at b300
              replace hb193 := hb193.trans (pf_let_eq e299)
              refine pm_if_gt (tgt := 54) hC ⟨by exact ow_88_119 b276, by exact ow_88_120 b276⟩ dX12_best_48 (by decide) (fun c301 => ?_) (fun c301 => ?_)
              · skip
                replace hb193 := hb193.trans (if_pos c301)
                refine pm_aload_n hC 0 (by decide) dX12_best_54 rfl ?_
                refine pm_callV (ci := 12) (as := []) (st := []) hC 90 fB_X12_keeps lm_X12_427 li_X12_keeps (by decide) (by decide) rfl rfl rfl (by decide) rfl rfl (Nat.le_of_ble_eq_true rfl) ⟨Nat.le_refl _, Or.inl rfl⟩ dX12_best_55 ⟨rfl, hV277⟩ (fun r302 V303 hp304 => ?_)
                obtain ⟨rfl, hV305, hF306, hxp307, hxp308, hxp309, hxp310, hE311⟩ := hp304
                replace hb193 := hb193.trans (pf_call_eq hE311)
                change pm_J X 58 [(0, (3, 90)), (1, (0, a1)), (2, (0, x178)), (3, (0, x180))] [] 118 V303
                have hF312 := pm_fs.tr hF284 hF306 (by decide) (by decide)
                have e313 : V303 90 15 = 1 := by rw [hF306.2 15 (by decide)]; exact e285
                have hp314 : pm_h1 V303 := (pm_h1.fr hp286 (hF306.2 16 (by decide)) (hF306.1 97 (by decide) (by decide)))
                have hp315 : pm_h2 V303 := (pm_h2.fr hp287 (hF306.2 16 (by decide)) (hF306.2 21 (by decide)) (hF306.1 99 (by decide) (by decide)))
                have hp316 : pm_h3 V303 := (pm_h3.fr hp288 (hF306.2 16 (by decide)) (hF306.2 25 (by decide)) (hF306.1 101 (by decide) (by decide)))
                obtain ⟨y317, e318⟩ : ∃ y, V303 114 0 = y := ⟨_, rfl⟩
                have b319 := hV305.get 114 0 (lo := 0) (hi := 600) (by decide) (by decide) rfl
                rw [e318] at b319
                replace hb193 := hb193.trans (pf_let_eq e318)
                obtain ⟨y320, e321⟩ : ∃ y, V303 114 1 = y := ⟨_, rfl⟩
                have b322 := hV305.get 114 1 (lo := 0) (hi := 600) (by decide) (by decide) rfl
                rw [e321] at b322
                replace hb193 := hb193.trans (pf_let_eq e321)
                obtain ⟨y323, e324⟩ : ∃ y, V303 114 2 = y := ⟨_, rfl⟩
                have b325 := hV305.get 114 2 (lo := 0) (hi := 600) (by decide) (by decide) rfl
                rw [e324] at b325
                replace hb193 := hb193.trans (pf_let_eq e324)
                obtain ⟨y326, e327⟩ : ∃ y, V303 114 3 = y := ⟨_, rfl⟩
                have b328 := hV305.get 114 3 (lo := 0) (hi := 600) (by decide) (by decide) rfl
                rw [e327] at b328
                replace hb193 := hb193.trans (pf_let_eq e327)
                refine pm_iload_n hC 3 dX12_best_58 rfl ?_
                refine pm_istore_n (lv' := [(2, (0, x180)), (0, (3, 90)), (1, (0, a1)), (3, (0, x180))]) hC dX12_best_59 (by decide) rfl ?_
                obtain ⟨x329, ei330⟩ : ∃ y : Int, x180 + 1 = y := ⟨_, rfl⟩
                replace hb193 := hb193.trans (pf_let_eq ei330)
                refine pm_iinc (y := x329) (lv' := [(3, (0, x329)), (2, (0, x180)), (0, (3, 90)), (1, (0, a1))]) hC 3 dX12_best_60 (by decide) rfl ei330 rfl ?_
                refine pm_goto (tgt := 26) hC dX12_best_63 (by decide) ?_
                refine pm_lvsub [2, 3, 1, 0] (lv' := [(0, (3, 90)), (1, (0, a1)), (2, (0, x180)), (3, (0, x329))]) rfl ?_
                exact ih197 _ (by exact ow_88_139 hm195 c204 ei330) x180 x329 V303 ⟨by exact ow_88_140 b181, by exact ow_88_136 c204⟩ ⟨by exact ow_88_141 b181 ei330, by exact ow_88_142 c204 ei330⟩ hV305 hF312 e313 hp314 hp315 hp316 (by (have e : V303 114 2 = y323 := e324); rw [e]; exact ow_88_145 hxp216 hxp279 hxp309 e324) (by (have e : V303 114 3 = y326 := e327); rw [e]; exact ow_88_145 hxp217 hxp280 hxp310 e327) (hT.trans (pf_val_inl hb193)) rfl
              · skip
                replace hb193 := hb193.trans (if_neg (Int.not_lt.mpr c301))
                refine pm_goto (tgt := 60) hC dX12_best_51 (by decide) ?_
                obtain ⟨x331, ei332⟩ : ∃ y : Int, x180 + 1 = y := ⟨_, rfl⟩
                replace hb193 := hb193.trans (pf_let_eq ei332)
                refine pm_iinc (y := x331) (lv' := [(3, (0, x331)), (0, (3, 90)), (1, (0, a1)), (2, (0, x178))]) hC 3 dX12_best_60 (by decide) rfl ei332 rfl ?_
                refine pm_goto (tgt := 26) hC dX12_best_63 (by decide) ?_
                refine pm_lvsub [1, 2, 3, 0] (lv' := [(0, (3, 90)), (1, (0, a1)), (2, (0, x178)), (3, (0, x331))]) rfl ?_
                exact ih197 _ (by exact ow_88_139 hm195 c204 ei332) x178 x331 V269 ⟨by exact ow_88_133 b179, by exact ow_88_134 b179⟩ ⟨by exact ow_88_141 b181 ei332, by exact ow_88_142 c204 ei332⟩ hV277 hF284 e285 hp286 hp287 hp288 (by (have e : V269 114 2 = y295 := e296); rw [e]; exact ow_88_146 q273 hxp281 e296) (by (have e : V269 114 3 = y298 := e299); rw [e]; exact ow_88_146 q274 hxp282 e299) (hT.trans (pf_val_inl hb193)) rfl
        refine pm_lvsub [2, 3, 1, 0] (lv' := [(0, (3, 90)), (1, (0, a1)), (2, (0, (-1))), (3, (0, 0))]) rfl ?_
        exact L194 _ (-1) 0 V0 ⟨by decide, by decide⟩ ⟨by decide, by decide⟩ hV0 (pm_fs.rf (cs := [110, 111, 112, 113, 114]) (fs := [42, 43, 44, 45, 46, 47, 48, 49, 51]) (V := V0)) e1 hn_pm_h1 hn_pm_h2 hn_pm_h3 (by (have e : V0 114 2 = y172 := e173); rw [e]; exact ow_88_147) (by (have e : V0 114 3 = y175 := e176); rw [e]; exact ow_88_147) hT rfl
      · skip
        replace hT := hT.trans (if_neg (fun q => q c171))
        refine pm_iconst (v := (-1)) hC dX12_best_20 ?_
        exact pm_iret hC hR pm_nar0 ⟨(-1), rfl, ⟨by exact ow_88_109, by exact ow_88_148⟩, hV0, (pm_fs.rf (cs := [110, 111, 112, 113, 114]) (fs := [42, 43, 44, 45, 46, 47, 48, 49, 51]) (V := V0)), hT⟩ dX12_best_21
set_option maxHeartbeats 4000000 in
set_option maxRecDepth 100000 in
theorem fB_X12_own (a1 a2 : Int) (h0 : (-2147483648) ≤ a1 ∧ a1 ≤ 2147483647) (h1 : (-2147483648) ≤ a2 ∧ a2 ≤ 2147483647) : pm_K 5 yX12_own cX12_own 12 (some .int) (fun av V => av = [(3, 90), (0, a1), (0, a2)] ∧ pm_oq pm_qB V ∧ pm_h1 V ∧ pm_h2 V ∧ pm_h3 V) (fun _ V r V' => ∃ y, r = some (0, y) ∧ ((-2147483648) ≤ y ∧ y ≤ 16) ∧ pm_oq pm_qB V' ∧ pm_fs [100, 110, 111, 112, 113, 114] [42, 43, 44, 45, 46, 47, 48, 49, 51] V V' ∧ (∀ q : Nat, V' 100 q = V 100 q) ∧ F_X12_own a1 a2 V = (y, V')) := by
  refine pm_MT.of (by decide) ⟨Nat.le_refl _, by decide⟩ (fun av V h => by rw [h.1]; exact (by decide : pm_words [(3, 0), (0, 0), (0, 0)] ≤ 12)) ?_
  rintro X av V0 hC - hR ⟨rfl, hV0, hn_pm_h1, hn_pm_h2, hn_pm_h3⟩
  change pm_J X 0 [(0, (3, 90)), (1, (0, a1)), (2, (0, a2))] [] 118 V0
  have hT := F_X12_own_eq a1 a2 V0
  have ho1 : pm_ow (V0 100) (((4 * a1) + 2) : Int).toNat (((4 * a1) + 2) : Int).toNat V0 := fun q _ _ => rfl
  have ho2 : pm_ow (V0 100) ((4 * a1) : Int).toNat (((4 * a1) + 1) : Int).toNat V0 := fun q _ _ => rfl
  refine pm_aload_n hC 0 (by decide) dX12_own_0 rfl ?_
  refine pm_iload_n hC 1 dX12_own_1 rfl ?_
  refine pm_callV (ci := 12) (as := [(0, a1)]) (st := []) hC 90 (fB_X12_isPerson a1 ⟨by exact ow_88_105 h0, by exact ow_88_106 h0⟩) lm_X12_302 li_X12_isPerson (by decide) (by decide) rfl rfl rfl (by decide) rfl rfl (Nat.le_of_ble_eq_true rfl) ⟨Nat.le_refl _, Or.inl rfl⟩ dX12_own_2 ⟨rfl, hV0⟩ (fun r1 V2 hp3 => ?_)
  obtain ⟨y4, rfl, b5, rfl, hE6⟩ := hp3
  replace hT := hT.trans (pf_call_eq hE6)
  change pm_J X 5 [(0, (3, 90)), (1, (0, a1)), (2, (0, a2))] [(0, y4)] 118 V0
  refine pm_if_eq (tgt := 17) hC ⟨by exact ow_88_127 b5, by exact ow_88_128 b5⟩ dX12_own_5 (by decide) (fun c7 => ?_) (fun c7 => ?_)
  · skip
    replace hT := hT.trans (if_pos c7)
    refine pm_ldcw (v := (-2147483648)) hC 7000 dX12_own_17 (by decide +kernel) ?_
    exact pm_iret hC hR pm_nar0 ⟨(-2147483648), rfl, ⟨by exact ow_88_149, by exact ow_88_150⟩, hV0, (pm_fs.rf (cs := [100, 110, 111, 112, 113, 114]) (fs := [42, 43, 44, 45, 46, 47, 48, 49, 51]) (V := V0)), (fun _ => rfl), hT⟩ dX12_own_20
  · skip
    replace hT := hT.trans (if_neg c7)
    refine pm_iload_n hC 2 dX12_own_8 rfl ?_
    refine pm_iconst (v := 0) hC dX12_own_9 ?_
    refine pm_iconst (v := 2) hC dX12_own_10 ?_
    refine pm_callS (as := [(0, a2), (0, 0), (0, 2)]) (st := []) hC (fB_X12_in a2 0 2 ⟨by exact ow_88_105 h1, by exact ow_88_106 h1⟩ ⟨by decide, by decide⟩ ⟨by decide, by decide⟩) lm_X12_98 ls_X12_in (by decide) (by decide) rfl rfl (Nat.le_of_ble_eq_true rfl) ⟨Nat.le_refl _, Or.inl rfl⟩ dX12_own_11 ⟨rfl, hV0⟩ (fun r8 V9 hp10 => ?_)
    obtain ⟨y11, rfl, b12, rfl, hE13⟩ := hp10
    replace hT := hT.trans (pf_call_eq hE13)
    change pm_J X 14 [(0, (3, 90)), (1, (0, a1)), (2, (0, a2))] [(0, y11)] 118 V0
    refine pm_if_ne (tgt := 21) hC ⟨by exact ow_88_151 b12, by exact ow_88_152 b12⟩ dX12_own_14 (by decide) (fun c14 => ?_) (fun c14 => ?_)
    · skip
      replace hT := hT.trans (if_pos c14)
      refine pm_iconst (v := 4) hC dX12_own_21 ?_
      refine pm_iload_n hC 1 dX12_own_22 rfl ?_
      refine pm_imul hC dX12_own_23 ?_
      refine pm_istore_n (lv' := [(3, (0, (4 * a1))), (0, (3, 90)), (1, (0, a1)), (2, (0, a2))]) hC dX12_own_24 (by decide) rfl ?_
      refine pm_aload_n hC 1 (by decide) dX12_own_25 rfl ?_
      have e15 : V0 90 24 = 100 := hV0.one 90 24 (by decide) (by decide) rfl
      refine pm_getf (v := 100) hC 90 fl_X12_40 rfl rfl (by decide) rfl e15 dX12_own_26 ?_
      refine pm_iload_n hC 0 dX12_own_29 rfl ?_
      obtain ⟨y16, e17⟩ : ∃ y, V0 100 ((4 * a1) : Int).toNat = y := ⟨_, rfl⟩
      replace hT := hT.trans (pf_let_eq e17)
      have b18 := hV0.get 100 ((4 * a1) : Int).toNat (lo := (-30)) (hi := 30) (t := 0) (by decide) (show _ < 40 by exact ow_88_153 b5 c7) ((pm_qe_r (tb := pm_qB) (k := 100) (i := ((4 * a1) : Int).toNat) (m := 4) (r := 0) (l := [(-30, 30, 0), (-30, 30, 0), (0, 16, 0), (0, 3, 0)]) rfl rfl (by omega)).trans rfl)
      rw [e17] at b18
      refine pm_iaload (len := 40) (v := y16) hC 100 rfl rfl (by decide) ⟨by exact ow_88_154 b5 c7, by exact ow_88_155 b5 c7⟩ (by decide) e17 dX12_own_30 ?_
      refine pm_istore (lv' := [(4, (0, y16)), (3, (0, (4 * a1))), (0, (3, 90)), (1, (0, a1)), (2, (0, a2))]) hC dX12_own_31 (by decide) rfl ?_
      refine pm_aload_n hC 2 (by decide) dX12_own_33 rfl ?_
      refine pm_getf (v := 100) hC 90 fl_X12_40 rfl rfl (by decide) rfl e15 dX12_own_34 ?_
      refine pm_iload_n hC 1 dX12_own_37 rfl ?_
      refine pm_iconst (v := 1) hC dX12_own_38 ?_
      refine pm_iadd hC dX12_own_39 ?_
      obtain ⟨y19, e20⟩ : ∃ y, V0 100 (((4 * a1) + 1) : Int).toNat = y := ⟨_, rfl⟩
      replace hT := hT.trans (pf_let_eq e20)
      have b21 := hV0.get 100 (((4 * a1) + 1) : Int).toNat (lo := (-30)) (hi := 30) (t := 0) (by decide) (show _ < 40 by exact ow_88_156 b5 c7) ((pm_qe_r (tb := pm_qB) (k := 100) (i := (((4 * a1) + 1) : Int).toNat) (m := 4) (r := 1) (l := [(-30, 30, 0), (-30, 30, 0), (0, 16, 0), (0, 3, 0)]) rfl rfl (by omega)).trans rfl)
      rw [e20] at b21
      refine pm_iaload (len := 40) (v := y19) hC 100 rfl rfl (by decide) ⟨by exact ow_88_157 b5 c7, by exact ow_88_158 b5 c7⟩ (by decide) e20 dX12_own_40 ?_
      refine pm_istore (lv' := [(5, (0, y19)), (4, (0, y16)), (3, (0, (4 * a1))), (0, (3, 90)), (1, (0, a1)), (2, (0, a2))]) hC dX12_own_41 (by decide) rfl ?_
      refine pm_aload_n hC 3 (by decide) dX12_own_43 rfl ?_
      refine pm_getf (v := 100) hC 90 fl_X12_40 rfl rfl (by decide) rfl e15 dX12_own_44 ?_
      refine pm_iload_n hC 2 dX12_own_47 rfl ?_
      refine pm_iconst (v := 2) hC dX12_own_48 ?_
      refine pm_iadd hC dX12_own_49 ?_
      obtain ⟨y22, e23⟩ : ∃ y, V0 100 (((4 * a1) + 2) : Int).toNat = y := ⟨_, rfl⟩
      replace hT := hT.trans (pf_let_eq e23)
      have b24 := hV0.get 100 (((4 * a1) + 2) : Int).toNat (lo := 0) (hi := 16) (t := 0) (by decide) (show _ < 40 by exact ow_88_159 b5 c7) ((pm_qe_r (tb := pm_qB) (k := 100) (i := (((4 * a1) + 2) : Int).toNat) (m := 4) (r := 2) (l := [(-30, 30, 0), (-30, 30, 0), (0, 16, 0), (0, 3, 0)]) rfl rfl (by omega)).trans rfl)
      rw [e23] at b24
      refine pm_iaload (len := 40) (v := y22) hC 100 rfl rfl (by decide) ⟨by exact ow_88_160 b5 c7, by exact ow_88_161 b5 c7⟩ (by decide) e23 dX12_own_50 ?_
      refine pm_istore (lv' := [(6, (0, y22)), (5, (0, y19)), (4, (0, y16)), (3, (0, (4 * a1))), (0, (3, 90)), (1, (0, a1)), (2, (0, a2))]) hC dX12_own_51 (by decide) rfl ?_
      refine pm_ldcw (v := (-2147483648)) hC 7000 dX12_own_53 (by decide +kernel) ?_
      refine pm_istore (lv' := [(7, (0, (-2147483648))), (6, (0, y22)), (5, (0, y19)), (4, (0, y16)), (3, (0, (4 * a1))), (0, (3, 90)), (1, (0, a1)), (2, (0, a2))]) hC dX12_own_56 (by decide) rfl ?_
      refine pm_iconst (v := 0) hC dX12_own_58 ?_
      refine pm_istore (lv' := [(8, (0, 0)), (7, (0, (-2147483648))), (6, (0, y22)), (5, (0, y19)), (4, (0, y16)), (3, (0, (4 * a1))), (0, (3, 90)), (1, (0, a1)), (2, (0, a2))]) hC dX12_own_59 (by decide) rfl ?_
      refine pm_iload_n hC 8 dX12_own_61 rfl ?_
      refine pm_iconst (v := 2) hC dX12_own_62 ?_
      refine pm_icmp_ne (tgt := 138) hC ⟨by exact ow_88_105 h1, by exact ow_88_106 h1⟩ ⟨by decide, by decide⟩ dX12_own_63 (by decide) (fun c25 => ?_) (fun c25 => ?_)
      · skip
        replace hT := hT.trans (if_pos c25)
        refine pm_bipush (v := (-12)) hC dX12_own_138 (by decide) ?_
        refine pm_istore (lv' := [(9, (0, (-12))), (8, (0, 0)), (7, (0, (-2147483648))), (6, (0, y22)), (5, (0, y19)), (4, (0, y16)), (3, (0, (4 * a1))), (0, (3, 90)), (1, (0, a1)), (2, (0, a2))]) hC dX12_own_140 (by decide) rfl ?_
        obtain ⟨y26, e27⟩ : ∃ y, V0 114 2 = y := ⟨_, rfl⟩
        have b28 := hV0.get 114 2 (lo := 0) (hi := 600) (by decide) (by decide) rfl
        rw [e27] at b28
        replace hT := hT.trans (pf_let_eq e27)
        obtain ⟨y29, e30⟩ : ∃ y, V0 114 3 = y := ⟨_, rfl⟩
        have b31 := hV0.get 114 3 (lo := 0) (hi := 600) (by decide) (by decide) rfl
        rw [e30] at b31
        replace hT := hT.trans (pf_let_eq e30)
        obtain ⟨B49, hB50, hT⟩ := pf_loop hT
        have L52 : ∀ (N54 : Nat) (x32 : Int) (x34 : Int) (x36 : Int) (V39 : pm_M), ((-2147483648) ≤ x32 ∧ x32 ≤ 12) → ((-12) ≤ x34 ∧ x34 ≤ 12) → ((-12) ≤ x36 ∧ x36 ≤ 13) → (x32 = -2147483648 ∨ -12 ≤ x32) → pm_oq pm_qB V39 → pm_fs [100, 110, 111, 112, 113, 114] [42, 43, 44, 45, 46, 47, 48, 49, 51] V0 V39 → V39 90 24 = 100 → pm_h1 V39 → pm_h2 V39 → pm_h3 V39 → pm_ow (V0 100) ((4 * a1) : Int).toNat (((4 * a1) + 1) : Int).toNat V39 → (x32 = -2147483648 ∨ V39 114 2 ≤ 181) → (x32 = -2147483648 ∨ V39 114 3 ≤ 181) → F_X12_own a1 a2 V0 = pf_val ((0 : Int), V0) B49 (x32, x34, x36, V39) → (Int.toNat (13 - x36)) = N54 → pm_J X 142 [(0, (3, 90)), (1, (0, a1)), (2, (0, a2)), (3, (0, (4 * a1))), (4, (0, y16)), (5, (0, y19)), (6, (0, y22)), (7, (0, x32)), (8, (0, x34)), (9, (0, x36))] [] 118 V39 := by
          intro N54
          induction N54 using Nat.strongRecOn with
          | _ N54 ih55 =>
          intro x32 x34 x36 V39 b33 b35 b37 b38 hV40 hF41 e42 hp43 hp44 hp45 hp46 hm47 hm48 hT hm53
          have hb51 := congrFun hB50 (x32, x34, x36, V39)
          obtain ⟨y56, e57⟩ : ∃ y, V39 114 2 = y := ⟨_, rfl⟩
          have b58 := hV40.get 114 2 (lo := 0) (hi := 600) (by decide) (by decide) rfl
          rw [e57] at b58
          replace hb51 := hb51.trans (pf_let_eq e57)
          obtain ⟨y59, e60⟩ : ∃ y, V39 114 3 = y := ⟨_, rfl⟩
          have b61 := hV40.get 114 3 (lo := 0) (hi := 600) (by decide) (by decide) rfl
          rw [e60] at b61
          replace hb51 := hb51.trans (pf_let_eq e60)
          refine pm_iload hC 9 dX12_own_142 rfl ?_
          refine pm_bipush (v := 12) hC dX12_own_144 (by decide) ?_
          refine pm_icmp_gt (tgt := 265) hC ⟨by exact ow_88_162 b37, by exact ow_88_163 b37⟩ ⟨by decide, by decide⟩ dX12_own_146 (by decide) (fun c62 => ?_) (fun c62 => ?_)
          · skip
            replace hb51 := hb51.trans (if_pos c62)
            refine pm_aload_n hC 0 (by decide) dX12_own_265 rfl ?_
            refine pm_getf (v := 100) hC 90 fl_X12_40 rfl rfl (by decide) rfl e42 dX12_own_266 ?_
            refine pm_iload_n hC 3 dX12_own_269 rfl ?_
            refine pm_iload hC 4 dX12_own_270 rfl ?_
            refine pm_iastore (len := 40) hC 100 rfl rfl (by decide) ⟨by exact ow_88_154 b5 c7, by exact ow_88_155 b5 c7⟩ (by decide) dX12_own_272 ?_
            refine pm_aload_n hC 0 (by decide) dX12_own_273 rfl ?_
            refine pm_getf (v := 100) hC 90 fl_X12_40 rfl rfl (by decide) rfl e42 dX12_own_274 ?_
            refine pm_iload_n hC 3 dX12_own_277 rfl ?_
            refine pm_iconst (v := 1) hC dX12_own_278 ?_
            refine pm_iadd hC dX12_own_279 ?_
            refine pm_iload hC 5 dX12_own_280 rfl ?_
            refine pm_iastore (len := 40) hC 100 rfl rfl (by decide) ⟨by exact ow_88_157 b5 c7, by exact ow_88_158 b5 c7⟩ (by decide) dX12_own_282 ?_
            refine pm_iload_n hC 2 dX12_own_283 rfl ?_
            refine pm_if_ne (tgt := 292) hC ⟨by exact ow_88_105 h1, by exact ow_88_106 h1⟩ dX12_own_284 (by decide) (fun c63 => ?_) (fun c63 => ?_)
            · skip
              replace hb51 := hb51.trans (if_pos c63)
              refine pm_iload hC 8 dX12_own_292 rfl ?_
              replace hT := hT.trans (pf_val_inr hb51)
              exact pm_iret hC hR pm_nar0 ⟨x34, rfl, ⟨by exact ow_88_164 b35, by exact ow_88_165 b35⟩, ((hV40.put 100 ((4 * a1) : Int).toNat (x := y16) (lo := (-30)) (hi := 30) ((pm_qe_r (tb := pm_qB) (k := 100) (i := ((4 * a1) : Int).toNat) (m := 4) (r := 0) (l := [(-30, 30, 0), (-30, 30, 0), (0, 16, 0), (0, 3, 0)]) rfl rfl (by omega)).trans rfl) ⟨by exact ow_88_166 b18, by exact ow_88_167 b18⟩).put 100 (((4 * a1) + 1) : Int).toNat (x := y19) (lo := (-30)) (hi := 30) ((pm_qe_r (tb := pm_qB) (k := 100) (i := (((4 * a1) + 1) : Int).toNat) (m := 4) (r := 1) (l := [(-30, 30, 0), (-30, 30, 0), (0, 16, 0), (0, 3, 0)]) rfl rfl (by omega)).trans rfl) ⟨by exact ow_88_166 b21, by exact ow_88_167 b21⟩), ((hF41.up 100 ((4 * a1) : Int).toNat y16 (by decide) rfl).up 100 (((4 * a1) + 1) : Int).toNat y19 (by decide) rfl), (fun q => by (by_cases h1 : q = (((4 * a1) + 1) : Int).toNat); (rw [h1]; exact pm_up_s.trans e20.symm); (refine (pm_up_i h1).trans ?_); (by_cases h0 : q = ((4 * a1) : Int).toNat); (rw [h0]; exact pm_up_s.trans e17.symm); (exact (pm_up_i h0).trans (hp46 q h0 h1))), hT⟩ dX12_own_294
            · skip
              replace hb51 := hb51.trans (if_neg (fun q => q c63))
              refine pm_iload hC 7 dX12_own_287 rfl ?_
              refine pm_goto (tgt := 294) hC dX12_own_289 (by decide) ?_
              replace hT := hT.trans (pf_val_inr hb51)
              exact pm_iret hC hR pm_nar0 ⟨x32, rfl, ⟨by exact ow_88_168 b33, by exact ow_88_169 b33⟩, ((hV40.put 100 ((4 * a1) : Int).toNat (x := y16) (lo := (-30)) (hi := 30) ((pm_qe_r (tb := pm_qB) (k := 100) (i := ((4 * a1) : Int).toNat) (m := 4) (r := 0) (l := [(-30, 30, 0), (-30, 30, 0), (0, 16, 0), (0, 3, 0)]) rfl rfl (by omega)).trans rfl) ⟨by exact ow_88_166 b18, by exact ow_88_167 b18⟩).put 100 (((4 * a1) + 1) : Int).toNat (x := y19) (lo := (-30)) (hi := 30) ((pm_qe_r (tb := pm_qB) (k := 100) (i := (((4 * a1) + 1) : Int).toNat) (m := 4) (r := 1) (l := [(-30, 30, 0), (-30, 30, 0), (0, 16, 0), (0, 3, 0)]) rfl rfl (by omega)).trans rfl) ⟨by exact ow_88_166 b21, by exact ow_88_167 b21⟩), ((hF41.up 100 ((4 * a1) : Int).toNat y16 (by decide) rfl).up 100 (((4 * a1) + 1) : Int).toNat y19 (by decide) rfl), (fun q => by (by_cases h1 : q = (((4 * a1) + 1) : Int).toNat); (rw [h1]; exact pm_up_s.trans e20.symm); (refine (pm_up_i h1).trans ?_); (by_cases h0 : q = ((4 * a1) : Int).toNat); (rw [h0]; exact pm_up_s.trans e17.symm); (exact (pm_up_i h0).trans (hp46 q h0 h1))), hT⟩ dX12_own_294
          · skip
            replace hb51 := hb51.trans (if_neg (Int.not_lt.mpr c62))
            refine pm_bipush (v := (-12)) hC dX12_own_149 (by decide) ?_
            refine pm_istore (lv' := [(10, (0, (-12))), (0, (3, 90)), (1, (0, a1)), (2, (0, a2)), (3, (0, (4 * a1))), (4, (0, y16)), (5, (0, y19)), (6, (0, y22)), (7, (0, x32)), (8, (0, x34)), (9, (0, x36))]) hC dX12_own_151 (by decide) rfl ?_
            obtain ⟨B81, hB82, hb51⟩ := pf_loop hb51
            have L84 : ∀ (N86 : Nat) (x64 : Int) (x66 : Int) (x68 : Int) (V71 : pm_M), ((-2147483648) ≤ x64 ∧ x64 ≤ 12) → ((-12) ≤ x66 ∧ x66 ≤ 12) → ((-12) ≤ x68 ∧ x68 ≤ 13) → (x64 = -2147483648 ∨ -12 ≤ x64) → pm_oq pm_qB V71 → pm_fs [100, 110, 111, 112, 113, 114] [42, 43, 44, 45, 46, 47, 48, 49, 51] V0 V71 → V71 90 24 = 100 → pm_h1 V71 → pm_h2 V71 → pm_h3 V71 → pm_ow (V0 100) ((4 * a1) : Int).toNat (((4 * a1) + 1) : Int).toNat V71 → (x64 = -2147483648 ∨ V71 114 2 ≤ 181) → (x64 = -2147483648 ∨ V71 114 3 ≤ 181) → B49 (x32, x34, x36, V39) = pf_val (.inr ((0 : Int), V0)) B81 (x64, x66, x68, V71) → (Int.toNat (13 - x68)) = N86 → pm_J X 153 [(0, (3, 90)), (1, (0, a1)), (2, (0, a2)), (3, (0, (4 * a1))), (4, (0, y16)), (5, (0, y19)), (6, (0, y22)), (7, (0, x64)), (8, (0, x66)), (9, (0, x36)), (10, (0, x68))] [] 118 V71 := by
              intro N86
              induction N86 using Nat.strongRecOn with
              | _ N86 ih87 =>
              intro x64 x66 x68 V71 b65 b67 b69 b70 hV72 hF73 e74 hp75 hp76 hp77 hp78 hm79 hm80 hb51 hm85
              have hb83 := congrFun hB82 (x64, x66, x68, V71)
              obtain ⟨y88, e89⟩ : ∃ y, V71 114 2 = y := ⟨_, rfl⟩
              have b90 := hV72.get 114 2 (lo := 0) (hi := 600) (by decide) (by decide) rfl
              rw [e89] at b90
              replace hb83 := hb83.trans (pf_let_eq e89)
              obtain ⟨y91, e92⟩ : ∃ y, V71 114 3 = y := ⟨_, rfl⟩
              have b93 := hV72.get 114 3 (lo := 0) (hi := 600) (by decide) (by decide) rfl
              rw [e92] at b93
              replace hb83 := hb83.trans (pf_let_eq e92)
              refine pm_iload hC 10 dX12_own_153 rfl ?_
              refine pm_bipush (v := 12) hC dX12_own_155 (by decide) ?_
              refine pm_icmp_gt (tgt := 259) hC ⟨by exact ow_88_162 b69, by exact ow_88_163 b69⟩ ⟨by decide, by decide⟩ dX12_own_157 (by decide) (fun c94 => ?_) (fun c94 => ?_)
              · skip
                replace hb83 := hb83.trans (if_pos c94)
                obtain ⟨x95, ei96⟩ : ∃ y : Int, x36 + 1 = y := ⟨_, rfl⟩
                replace hb83 := hb83.trans (pf_let_eq ei96)
                refine pm_iinc (y := x95) (lv' := [(9, (0, x95)), (0, (3, 90)), (1, (0, a1)), (2, (0, a2)), (3, (0, (4 * a1))), (4, (0, y16)), (5, (0, y19)), (6, (0, y22)), (7, (0, x64)), (8, (0, x66)), (10, (0, x68))]) hC 9 dX12_own_259 (by decide) rfl ei96 rfl ?_
                refine pm_goto (tgt := 142) hC dX12_own_262 (by decide) ?_
                replace hb51 := hb51.trans (pf_val_inr hb83)
                refine pm_lvsub [1, 2, 3, 4, 5, 6, 7, 8, 9, 0] (lv' := [(0, (3, 90)), (1, (0, a1)), (2, (0, a2)), (3, (0, (4 * a1))), (4, (0, y16)), (5, (0, y19)), (6, (0, y22)), (7, (0, x64)), (8, (0, x66)), (9, (0, x95))]) rfl ?_
                exact ih55 _ (by exact ow_88_170 hm53 c62 ei96) x64 x66 x95 V71 ⟨by exact ow_88_168 b65, by exact ow_88_171 b65⟩ ⟨by exact ow_88_172 b67, by exact ow_88_173 b67⟩ ⟨by exact ow_88_174 b37 ei96, by exact ow_88_175 c62 ei96⟩ (by exact ow_88_176 b65 b70) hV72 hF73 e74 hp75 hp76 hp77 hp78 (by (have e : V71 114 2 = y88 := e89); rw [e]; exact ow_88_177 b65 b70 hm79 e89) (by (have e : V71 114 3 = y91 := e92); rw [e]; exact ow_88_177 b65 b70 hm80 e92) (hT.trans (pf_val_inl hb51)) rfl
              · skip
                replace hb83 := hb83.trans (if_neg (Int.not_lt.mpr c94))
                refine pm_aload_n hC 0 (by decide) dX12_own_160 rfl ?_
                refine pm_getf (v := 100) hC 90 fl_X12_40 rfl rfl (by decide) rfl e74 dX12_own_161 ?_
                refine pm_iload_n hC 3 dX12_own_164 rfl ?_
                refine pm_iload hC 9 dX12_own_165 rfl ?_
                refine pm_iastore (len := 40) hC 100 rfl rfl (by decide) ⟨by (exact ow_88_154 b5 c7), by (exact ow_88_155 b5 c7)⟩ (by decide) dX12_own_167 ?_
                refine pm_aload_n hC 0 (by decide) dX12_own_168 rfl ?_
                refine pm_getf (v := 100) hC 90 fl_X12_40 rfl rfl (by decide) rfl e74 dX12_own_169 ?_
                refine pm_iload_n hC 3 dX12_own_172 rfl ?_
                refine pm_iconst (v := 1) hC dX12_own_173 ?_
                refine pm_iadd hC dX12_own_174 ?_
                refine pm_iload hC 10 dX12_own_175 rfl ?_
                refine pm_iastore (len := 40) hC 100 rfl rfl (by decide) ⟨by (exact ow_88_157 b5 c7), by (exact ow_88_158 b5 c7)⟩ (by decide) dX12_own_177 ?_
                refine pm_aload_n hC 0 (by decide) dX12_own_178 rfl ?_
                refine pm_iconst (v := 4) hC dX12_own_179 ?_
                refine pm_iload_n hC 1 dX12_own_180 rfl ?_
                refine pm_iconst (v := 0) hC dX12_own_181 ?_
                have hV99 := ((hV72.put 100 ((4 * a1) : Int).toNat (x := x36) (lo := (-30)) (hi := 30) ((pm_qe_r (tb := pm_qB) (k := 100) (i := ((4 * a1) : Int).toNat) (m := 4) (r := 0) (l := [(-30, 30, 0), (-30, 30, 0), (0, 16, 0), (0, 3, 0)]) rfl rfl (by omega)).trans rfl) ⟨by exact ow_88_178 b37, by exact ow_88_179 c62⟩).put 100 (((4 * a1) + 1) : Int).toNat (x := x68) (lo := (-30)) (hi := 30) ((pm_qe_r (tb := pm_qB) (k := 100) (i := (((4 * a1) + 1) : Int).toNat) (m := 4) (r := 1) (l := [(-30, 30, 0), (-30, 30, 0), (0, 16, 0), (0, 3, 0)]) rfl rfl (by (clear e15 e17 b18 e20 b21 e23 b24 e27 b28 e30 b31 b33 b35 e42 hm53 e57 b58 e60 b61 b65 b67 e74 hm85 e89 b90 e92 b93; omega))).trans rfl) ⟨by exact ow_88_178 b69, by exact ow_88_179 c94⟩)
                have hF100 := ((hF73.up 100 ((4 * a1) : Int).toNat x36 (by decide) rfl).up 100 (((4 * a1) + 1) : Int).toNat x68 (by decide) rfl)
                obtain ⟨V97, hv98⟩ : ∃ V, V = (pm_up (pm_up V71 100 ((4 * a1) : Int).toNat x36) 100 (((4 * a1) + 1) : Int).toNat x68) := ⟨_, rfl⟩
                rw [← hv98] at hV99 hF100
                rw [← hv98]
                replace hb83 := hb83.trans (pf_let_eq hv98.symm)
                have e101 : V97 90 24 = 100 := by rw [hv98]; exact e74
                have e102 : V97 114 2 = y88 := by rw [hv98]; exact e89
                have e103 : V97 114 3 = y91 := by rw [hv98]; exact e92
                have hp104 : pm_h1 V97 := by rw [hv98]; exact (pm_h1.fr hp75 rfl rfl)
                have hp105 : pm_h2 V97 := by rw [hv98]; exact (pm_h2.fr hp76 rfl rfl rfl)
                have hp106 : pm_h3 V97 := by rw [hv98]; exact (pm_h3.fr hp77 rfl rfl rfl)
                have hp107 : pm_ow (V0 100) ((4 * a1) : Int).toNat (((4 * a1) + 1) : Int).toNat V97 := by rw [hv98]; exact (pm_ow.up (pm_ow.up hp78 (by first | exact Or.inl rfl | exact Or.inr rfl)) (by first | exact Or.inl rfl | exact Or.inr rfl))
                obtain ⟨y108, e109⟩ : ∃ y, V97 114 0 = y := ⟨_, rfl⟩
                have b110 := hV99.get 114 0 (lo := 0) (hi := 600) (by decide) (by decide) rfl
                rw [e109] at b110
                replace hb83 := hb83.trans (pf_let_eq e109)
                obtain ⟨y111, e112⟩ : ∃ y, V97 114 1 = y := ⟨_, rfl⟩
                have b113 := hV99.get 114 1 (lo := 0) (hi := 600) (by decide) (by decide) rfl
                rw [e112] at b113
                replace hb83 := hb83.trans (pf_let_eq e112)
                refine pm_callV (ci := 12) (as := [(0, 4), (0, a1), (0, 0)]) (st := []) hC 90 (fB_X12_fits_d0 4 a1 ⟨by decide, by decide⟩ ⟨by (exact ow_88_129 b5 c7), by (exact ow_88_130 b5 c7)⟩) lm_X12_424 li_X12_fits (by decide) (by decide) rfl rfl rfl (by decide) rfl rfl (Nat.le_of_ble_eq_true rfl) ⟨Nat.le_refl _, Or.inl rfl⟩ dX12_own_182 ⟨rfl, hV99, hp104, hp105, hp106⟩ (fun r114 V115 hp116 => ?_)
                obtain ⟨rfl, hV117, hF118, hxp119, hxp120, hxp121, hxp122, hE123⟩ := hp116
                replace hb83 := hb83.trans (pf_call_eq hE123)
                change pm_J X 185 [(0, (3, 90)), (1, (0, a1)), (2, (0, a2)), (3, (0, (4 * a1))), (4, (0, y16)), (5, (0, y19)), (6, (0, y22)), (7, (0, x64)), (8, (0, x66)), (9, (0, x36)), (10, (0, x68))] [] 118 V115
                have hF124 := pm_fs.tr hF100 hF118 (by decide) (by decide)
                have e125 : V115 90 24 = 100 := by rw [hF118.2 24 (by decide)]; exact e101
                have hp126 : pm_h1 V115 := (pm_h1.fr hp104 (hF118.2 16 (by decide)) (hF118.1 97 (by decide) (by decide)))
                have hp127 : pm_h2 V115 := (pm_h2.fr hp105 (hF118.2 16 (by decide)) (hF118.2 21 (by decide)) (hF118.1 99 (by decide) (by decide)))
                have hp128 : pm_h3 V115 := (pm_h3.fr hp106 (hF118.2 16 (by decide)) (hF118.2 25 (by decide)) (hF118.1 101 (by decide) (by decide)))
                have hp129 : pm_ow (V0 100) ((4 * a1) : Int).toNat (((4 * a1) + 1) : Int).toNat V115 := (pm_ow.fr hp107 (hF118.1 100 (by decide) (by decide)))
                obtain ⟨y130, e131⟩ : ∃ y, V115 114 0 = y := ⟨_, rfl⟩
                have b132 := hV117.get 114 0 (lo := 0) (hi := 600) (by decide) (by decide) rfl
                rw [e131] at b132
                replace hb83 := hb83.trans (pf_let_eq e131)
                obtain ⟨y133, e134⟩ : ∃ y, V115 114 1 = y := ⟨_, rfl⟩
                have b135 := hV117.get 114 1 (lo := 0) (hi := 600) (by decide) (by decide) rfl
                rw [e134] at b135
                replace hb83 := hb83.trans (pf_let_eq e134)
                obtain ⟨y136, e137⟩ : ∃ y, V115 114 2 = y := ⟨_, rfl⟩
                have b138 := hV117.get 114 2 (lo := 0) (hi := 600) (by decide) (by decide) rfl
                rw [e137] at b138
                replace hb83 := hb83.trans (pf_let_eq e137)
                obtain ⟨y139, e140⟩ : ∃ y, V115 114 3 = y := ⟨_, rfl⟩
                have b141 := hV117.get 114 3 (lo := 0) (hi := 600) (by decide) (by decide) rfl
                rw [e140] at b141
                replace hb83 := hb83.trans (pf_let_eq e140)
                refine pm_iload hC 7 dX12_own_185 rfl ?_
                refine pm_ldcw (v := (-2147483648)) hC 7000 dX12_own_187 (by decide +kernel) ?_
                refine pm_icmp_ne (tgt := 197) hC ⟨by exact ow_88_168 b65, by exact ow_88_180 b65⟩ ⟨by decide, by decide⟩ dX12_own_190 (by decide) (fun c142 => ?_) (fun c142 => ?_)
                · skip
                  replace hb83 := hb83.trans (if_pos c142)
                  refine pm_aload_n hC 0 (by decide) dX12_own_197 rfl ?_
                  have q146 : 0 ≤ V115 114 0 ∧ V115 114 0 ≤ 181 := by (have e : V115 114 0 = y130 := e131); rw [e]; exact ⟨by exact ow_88_115 hxp119 e131, by exact ow_88_116 hxp119 e131⟩
                  have q147 : 0 ≤ V115 114 1 ∧ V115 114 1 ≤ 181 := by (have e : V115 114 1 = y133 := e134); rw [e]; exact ⟨by exact ow_88_115 hxp120 e134, by exact ow_88_116 hxp120 e134⟩
                  have q148 : 0 ≤ V115 114 2 ∧ V115 114 2 ≤ 181 := by (have e : V115 114 2 = y136 := e137); rw [e]; exact ⟨by exact ow_88_117 b138, by exact ow_88_181 b65 hm79 e89 e102 hxp121 e137 c142⟩
                  have q149 : 0 ≤ V115 114 3 ∧ V115 114 3 ≤ 181 := by (have e : V115 114 3 = y139 := e140); rw [e]; exact ⟨by exact ow_88_117 b141, by exact ow_88_181 b65 hm80 e92 e103 hxp122 e140 c142⟩
                  refine pm_callV (ci := 12) (as := []) (st := []) hC 90 fB_X12_against lm_X12_430 li_X12_against (by decide) (by decide) rfl rfl rfl (by decide) rfl rfl (Nat.le_of_ble_eq_true rfl) ⟨Nat.le_refl _, Or.inl rfl⟩ dX12_own_198 ⟨rfl, hV117, q146, q147, q148, q149⟩ (fun r143 V144 hp145 => ?_)
                  obtain ⟨y150, rfl, b151, hV152, hF153, hxp154, hxp155, hxp156, hxp157, hE158⟩ := hp145
                  replace hb83 := hb83.trans (pf_call_eq hE158)
                  change pm_J X 201 [(0, (3, 90)), (1, (0, a1)), (2, (0, a2)), (3, (0, (4 * a1))), (4, (0, y16)), (5, (0, y19)), (6, (0, y22)), (7, (0, x64)), (8, (0, x66)), (9, (0, x36)), (10, (0, x68))] [(0, y150)] 118 V144
                  have hF159 := pm_fs.tr hF124 hF153 (by decide) (by decide)
                  have e160 : V144 90 24 = 100 := by rw [hF153.2 24 (by decide)]; exact e125
                  have hp161 : pm_h1 V144 := (pm_h1.fr hp126 (hF153.2 16 (by decide)) (hF153.1 97 (by decide) (by decide)))
                  have hp162 : pm_h2 V144 := (pm_h2.fr hp127 (hF153.2 16 (by decide)) (hF153.2 21 (by decide)) (hF153.1 99 (by decide) (by decide)))
                  have hp163 : pm_h3 V144 := (pm_h3.fr hp128 (hF153.2 16 (by decide)) (hF153.2 25 (by decide)) (hF153.1 101 (by decide) (by decide)))
                  have hp164 : pm_ow (V0 100) ((4 * a1) : Int).toNat (((4 * a1) + 1) : Int).toNat V144 := (pm_ow.fr hp129 (hF153.1 100 (by decide) (by decide)))
                  obtain ⟨y165, e166⟩ : ∃ y, V144 114 0 = y := ⟨_, rfl⟩
                  have b167 := hV152.get 114 0 (lo := 0) (hi := 600) (by decide) (by decide) rfl
                  rw [e166] at b167
                  replace hb83 := hb83.trans (pf_let_eq e166)
                  obtain ⟨y168, e169⟩ : ∃ y, V144 114 1 = y := ⟨_, rfl⟩
                  have b170 := hV152.get 114 1 (lo := 0) (hi := 600) (by decide) (by decide) rfl
                  rw [e169] at b170
                  replace hb83 := hb83.trans (pf_let_eq e169)
                  obtain ⟨y171, e172⟩ : ∃ y, V144 114 2 = y := ⟨_, rfl⟩
                  have b173 := hV152.get 114 2 (lo := 0) (hi := 600) (by decide) (by decide) rfl
                  rw [e172] at b173
                  replace hb83 := hb83.trans (pf_let_eq e172)
                  obtain ⟨y174, e175⟩ : ∃ y, V144 114 3 = y := ⟨_, rfl⟩
                  have b176 := hV152.get 114 3 (lo := 0) (hi := 600) (by decide) (by decide) rfl
                  rw [e175] at b176
                  replace hb83 := hb83.trans (pf_let_eq e175)
                  refine pm_istore (lv' := [(11, (0, y150)), (0, (3, 90)), (1, (0, a1)), (2, (0, a2)), (3, (0, (4 * a1))), (4, (0, y16)), (5, (0, y19)), (6, (0, y22)), (7, (0, x64)), (8, (0, x66)), (9, (0, x36)), (10, (0, x68))]) hC dX12_own_201 (by decide) rfl ?_
                  refine pm_iload hC 0 dX12_own_203 rfl ?_
                  refine pm_if_lt (tgt := 253) hC ⟨by exact ow_88_119 b151, by exact ow_88_120 b151⟩ dX12_own_205 (by decide) (fun c177 => ?_) (fun c177 => ?_)
                  · skip
                    replace hb83 := hb83.trans (if_pos c177)
                    obtain ⟨x178, ei179⟩ : ∃ y : Int, x68 + 1 = y := ⟨_, rfl⟩
                    replace hb83 := hb83.trans (pf_let_eq ei179)
                    refine pm_iinc (y := x178) (lv' := [(10, (0, x178)), (11, (0, y150)), (0, (3, 90)), (1, (0, a1)), (2, (0, a2)), (3, (0, (4 * a1))), (4, (0, y16)), (5, (0, y19)), (6, (0, y22)), (7, (0, x64)), (8, (0, x66)), (9, (0, x36))]) hC 11 dX12_own_253 (by decide) rfl ei179 rfl ?_
                    refine pm_goto (tgt := 153) hC dX12_own_256 (by decide) ?_
                    refine pm_lvsub [2, 3, 4, 5, 6, 7, 8, 9, 10, 11, 0] (lv' := [(0, (3, 90)), (1, (0, a1)), (2, (0, a2)), (3, (0, (4 * a1))), (4, (0, y16)), (5, (0, y19)), (6, (0, y22)), (7, (0, x64)), (8, (0, x66)), (9, (0, x36)), (10, (0, x178))]) rfl ?_
                    exact ih87 _ (by exact ow_88_170 hm85 c94 ei179) x64 x66 x178 V144 ⟨by exact ow_88_168 b65, by exact ow_88_171 b65⟩ ⟨by exact ow_88_172 b67, by exact ow_88_173 b67⟩ ⟨by exact ow_88_174 b69 ei179, by exact ow_88_175 c94 ei179⟩ (by exact ow_88_176 b65 b70) hV152 hF159 e160 hp161 hp162 hp163 hp164 (by (have e : V144 114 2 = y171 := e172); rw [e]; exact ow_88_182 q148 hxp156 e172) (by (have e : V144 114 3 = y174 := e175); rw [e]; exact ow_88_182 q149 hxp157 e175) (hb51.trans (pf_val_inl hb83)) rfl
                  · skip
                    replace hb83 := hb83.trans (if_neg (Int.not_lt.mpr c177))
                    refine pm_iload hC 0 dX12_own_208 rfl ?_
                    refine pm_if_ne (tgt := 241) hC ⟨by exact ow_88_183 c177, by exact ow_88_120 b151⟩ dX12_own_210 (by decide) (fun c180 => ?_) (fun c180 => ?_)
                    · skip
                      replace hb83 := hb83.trans (if_pos c180)
                      refine pm_aload_n hC 1 (by decide) dX12_own_241 rfl ?_
                      refine pm_callV (ci := 12) (as := []) (st := []) hC 90 fB_X12_keeps lm_X12_427 li_X12_keeps (by decide) (by decide) rfl rfl rfl (by decide) rfl rfl (Nat.le_of_ble_eq_true rfl) ⟨Nat.le_refl _, Or.inl rfl⟩ dX12_own_242 ⟨rfl, hV152⟩ (fun r181 V182 hp183 => ?_)
                      obtain ⟨rfl, hV184, hF185, hxp186, hxp187, hxp188, hxp189, hE190⟩ := hp183
                      replace hb83 := hb83.trans (pf_call_eq hE190)
                      change pm_J X 245 [(11, (0, y150)), (0, (3, 90)), (1, (0, a1)), (2, (0, a2)), (3, (0, (4 * a1))), (4, (0, y16)), (5, (0, y19)), (6, (0, y22)), (7, (0, x64)), (8, (0, x66)), (9, (0, x36)), (10, (0, x68))] [] 118 V182
                      have hF191 := pm_fs.tr hF159 hF185 (by decide) (by decide)
                      have e192 : V182 90 24 = 100 := by rw [hF185.2 24 (by decide)]; exact e160
                      have hp193 : pm_h1 V182 := (pm_h1.fr hp161 (hF185.2 16 (by decide)) (hF185.1 97 (by decide) (by decide)))
                      have hp194 : pm_h2 V182 := (pm_h2.fr hp162 (hF185.2 16 (by decide)) (hF185.2 21 (by decide)) (hF185.1 99 (by decide) (by decide)))
                      have hp195 : pm_h3 V182 := (pm_h3.fr hp163 (hF185.2 16 (by decide)) (hF185.2 25 (by decide)) (hF185.1 101 (by decide) (by decide)))
                      have hp196 : pm_ow (V0 100) ((4 * a1) : Int).toNat (((4 * a1) + 1) : Int).toNat V182 := (pm_ow.fr hp164 (hF185.1 100 (by decide) (by decide)))
                      obtain ⟨y197, e198⟩ : ∃ y, V182 114 0 = y := ⟨_, rfl⟩
                      have b199 := hV184.get 114 0 (lo := 0) (hi := 600) (by decide) (by decide) rfl
                      rw [e198] at b199
                      replace hb83 := hb83.trans (pf_let_eq e198)
                      obtain ⟨y200, e201⟩ : ∃ y, V182 114 1 = y := ⟨_, rfl⟩
                      have b202 := hV184.get 114 1 (lo := 0) (hi := 600) (by decide) (by decide) rfl
                      rw [e201] at b202
                      replace hb83 := hb83.trans (pf_let_eq e201)
                      obtain ⟨y203, e204⟩ : ∃ y, V182 114 2 = y := ⟨_, rfl⟩
                      have b205 := hV184.get 114 2 (lo := 0) (hi := 600) (by decide) (by decide) rfl
                      rw [e204] at b205
                      replace hb83 := hb83.trans (pf_let_eq e204)
                      obtain ⟨y206, e207⟩ : ∃ y, V182 114 3 = y := ⟨_, rfl⟩
                      have b208 := hV184.get 114 3 (lo := 0) (hi := 600) (by decide) (by decide) rfl
                      rw [e207] at b208
                      replace hb83 := hb83.trans (pf_let_eq e207)
                      refine pm_iload hC 10 dX12_own_245 rfl ?_
                      refine pm_istore (lv' := [(7, (0, x36)), (11, (0, y150)), (0, (3, 90)), (1, (0, a1)), (2, (0, a2)), (3, (0, (4 * a1))), (4, (0, y16)), (5, (0, y19)), (6, (0, y22)), (8, (0, x66)), (9, (0, x36)), (10, (0, x68))]) hC dX12_own_247 (by decide) rfl ?_
                      refine pm_iload hC 11 dX12_own_249 rfl ?_
                      refine pm_istore (lv' := [(8, (0, x68)), (7, (0, x36)), (11, (0, y150)), (0, (3, 90)), (1, (0, a1)), (2, (0, a2)), (3, (0, (4 * a1))), (4, (0, y16)), (5, (0, y19)), (6, (0, y22)), (9, (0, x36)), (10, (0, x68))]) hC dX12_own_251 (by decide) rfl ?_
                      obtain ⟨x209, ei210⟩ : ∃ y : Int, x68 + 1 = y := ⟨_, rfl⟩
                      replace hb83 := hb83.trans (pf_let_eq ei210)
                      refine pm_iinc (y := x209) (lv' := [(10, (0, x209)), (8, (0, x68)), (7, (0, x36)), (11, (0, y150)), (0, (3, 90)), (1, (0, a1)), (2, (0, a2)), (3, (0, (4 * a1))), (4, (0, y16)), (5, (0, y19)), (6, (0, y22)), (9, (0, x36))]) hC 11 dX12_own_253 (by decide) rfl ei210 rfl ?_
                      refine pm_goto (tgt := 153) hC dX12_own_256 (by decide) ?_
                      refine pm_lvsub [4, 5, 6, 7, 8, 9, 10, 2, 1, 11, 0] (lv' := [(0, (3, 90)), (1, (0, a1)), (2, (0, a2)), (3, (0, (4 * a1))), (4, (0, y16)), (5, (0, y19)), (6, (0, y22)), (7, (0, x36)), (8, (0, x68)), (9, (0, x36)), (10, (0, x209))]) rfl ?_
                      exact ih87 _ (by exact ow_88_170 hm85 c94 ei210) x36 x68 x209 V182 ⟨by exact ow_88_162 b37, by exact ow_88_184 c62⟩ ⟨by exact ow_88_185 b69, by exact ow_88_184 c94⟩ ⟨by exact ow_88_174 b69 ei210, by exact ow_88_175 c94 ei210⟩ (by exact ow_88_186 b37) hV184 hF191 e192 hp193 hp194 hp195 hp196 (by (have e : V182 114 2 = y203 := e204); rw [e]; exact ow_88_187 hxp119 hxp154 hxp188 e204) (by (have e : V182 114 3 = y206 := e207); rw [e]; exact ow_88_187 hxp120 hxp155 hxp189 e207) (hb51.trans (pf_val_inl hb83)) rfl
                    · skip
                      replace hb83 := hb83.trans (if_neg (fun q => q c180))
                      refine pm_iload hC 10 dX12_own_213 rfl ?_
                      refine pm_callS (as := [(0, x36)]) (st := []) hC (fB_X12_far x36 ⟨by exact ow_88_188 b37, by exact ow_88_189 c62⟩) lm_X12_338 ls_X12_far (by decide) (by decide) rfl rfl (Nat.le_of_ble_eq_true rfl) ⟨Nat.le_refl _, Or.inl rfl⟩ dX12_own_215 ⟨rfl, hV152⟩ (fun r211 V212 hp213 => ?_)
                      obtain ⟨y214, rfl, b215, rfl, hE216⟩ := hp213
                      replace hb83 := hb83.trans (pf_call_eq hE216)
                      change pm_J X 218 [(11, (0, y150)), (0, (3, 90)), (1, (0, a1)), (2, (0, a2)), (3, (0, (4 * a1))), (4, (0, y16)), (5, (0, y19)), (6, (0, y22)), (7, (0, x64)), (8, (0, x66)), (9, (0, x36)), (10, (0, x68))] [(0, y214)] 118 V144
                      refine pm_iload hC 11 dX12_own_218 rfl ?_
                      refine pm_callS (as := [(0, x68)]) (st := [(0, y214)]) hC (fB_X12_far x68 ⟨by exact ow_88_188 b69, by exact ow_88_189 c94⟩) lm_X12_338 ls_X12_far (by decide) (by decide) rfl rfl (Nat.le_of_ble_eq_true rfl) ⟨Nat.le_refl _, Or.inl rfl⟩ dX12_own_220 ⟨rfl, hV152⟩ (fun r217 V218 hp219 => ?_)
                      obtain ⟨y220, rfl, b221, rfl, hE222⟩ := hp219
                      replace hb83 := hb83.trans (pf_call_eq hE222)
                      change pm_J X 223 [(11, (0, y150)), (0, (3, 90)), (1, (0, a1)), (2, (0, a2)), (3, (0, (4 * a1))), (4, (0, y16)), (5, (0, y19)), (6, (0, y22)), (7, (0, x64)), (8, (0, x66)), (9, (0, x36)), (10, (0, x68))] [(0, y220), (0, y214)] 118 V144
                      refine pm_iadd hC dX12_own_223 ?_
                      refine pm_iload hC 8 dX12_own_224 rfl ?_
                      refine pm_callS (as := [(0, x64)]) (st := [(0, (y214 + y220))]) hC (fB_X12_far x64 ⟨by exact ow_88_190 b65 c142, by exact ow_88_180 b65⟩) lm_X12_338 ls_X12_far (by decide) (by decide) rfl rfl (Nat.le_of_ble_eq_true rfl) ⟨Nat.le_refl _, Or.inl rfl⟩ dX12_own_226 ⟨rfl, hV152⟩ (fun r223 V224 hp225 => ?_)
                      obtain ⟨y226, rfl, b227, rfl, hE228⟩ := hp225
                      replace hb83 := hb83.trans (pf_call_eq hE228)
                      change pm_J X 229 [(11, (0, y150)), (0, (3, 90)), (1, (0, a1)), (2, (0, a2)), (3, (0, (4 * a1))), (4, (0, y16)), (5, (0, y19)), (6, (0, y22)), (7, (0, x64)), (8, (0, x66)), (9, (0, x36)), (10, (0, x68))] [(0, y226), (0, (y214 + y220))] 118 V144
                      refine pm_iload hC 9 dX12_own_229 rfl ?_
                      refine pm_callS (as := [(0, x66)]) (st := [(0, y226), (0, (y214 + y220))]) hC (fB_X12_far x66 ⟨by exact ow_88_191 b67, by exact ow_88_192 b67⟩) lm_X12_338 ls_X12_far (by decide) (by decide) rfl rfl (Nat.le_of_ble_eq_true rfl) ⟨Nat.le_refl _, Or.inl rfl⟩ dX12_own_231 ⟨rfl, hV152⟩ (fun r229 V230 hp231 => ?_)
                      obtain ⟨y232, rfl, b233, rfl, hE234⟩ := hp231
                      replace hb83 := hb83.trans (pf_call_eq hE234)
                      change pm_J X 234 [(11, (0, y150)), (0, (3, 90)), (1, (0, a1)), (2, (0, a2)), (3, (0, (4 * a1))), (4, (0, y16)), (5, (0, y19)), (6, (0, y22)), (7, (0, x64)), (8, (0, x66)), (9, (0, x36)), (10, (0, x68))] [(0, y232), (0, y226), (0, (y214 + y220))] 118 V144
                      refine pm_iadd hC dX12_own_234 ?_
                      refine pm_wr hC (fun y235 hw237 b236 => ?_)
                      replace hb83 := hb83.trans (pf_let_eq hw237)
                      have b236 := And.intro b236.1 b236.2
                      refine pm_icmp_lt (tgt := 241) hC ⟨by exact ow_88_193 b215 b221, by (exact ow_88_194 b37 c62 b69 c94 b215 b221)⟩ ⟨by exact ow_88_105 b236, by exact ow_88_106 b236⟩ dX12_own_235 (by decide) (fun c238 => ?_) (fun c238 => ?_)
                      · skip
                        replace hb83 := hb83.trans (if_pos c238)
                        refine pm_aload_n hC 1 (by decide) dX12_own_241 rfl ?_
                        refine pm_callV (ci := 12) (as := []) (st := []) hC 90 fB_X12_keeps lm_X12_427 li_X12_keeps (by decide) (by decide) rfl rfl rfl (by decide) rfl rfl (Nat.le_of_ble_eq_true rfl) ⟨Nat.le_refl _, Or.inl rfl⟩ dX12_own_242 ⟨rfl, hV152⟩ (fun r239 V240 hp241 => ?_)
                        obtain ⟨rfl, hV242, hF243, hxp244, hxp245, hxp246, hxp247, hE248⟩ := hp241
                        replace hb83 := hb83.trans (pf_call_eq hE248)
                        change pm_J X 245 [(11, (0, y150)), (0, (3, 90)), (1, (0, a1)), (2, (0, a2)), (3, (0, (4 * a1))), (4, (0, y16)), (5, (0, y19)), (6, (0, y22)), (7, (0, x64)), (8, (0, x66)), (9, (0, x36)), (10, (0, x68))] [] 118 V240
                        have hF249 := pm_fs.tr hF159 hF243 (by decide) (by decide)
                        have e250 : V240 90 24 = 100 := by rw [hF243.2 24 (by decide)]; exact e160
                        have hp251 : pm_h1 V240 := (pm_h1.fr hp161 (hF243.2 16 (by decide)) (hF243.1 97 (by decide) (by decide)))
                        have hp252 : pm_h2 V240 := (pm_h2.fr hp162 (hF243.2 16 (by decide)) (hF243.2 21 (by decide)) (hF243.1 99 (by decide) (by decide)))
                        have hp253 : pm_h3 V240 := (pm_h3.fr hp163 (hF243.2 16 (by decide)) (hF243.2 25 (by decide)) (hF243.1 101 (by decide) (by decide)))
                        have hp254 : pm_ow (V0 100) ((4 * a1) : Int).toNat (((4 * a1) + 1) : Int).toNat V240 := (pm_ow.fr hp164 (hF243.1 100 (by decide) (by decide)))
                        obtain ⟨y255, e256⟩ : ∃ y, V240 114 0 = y := ⟨_, rfl⟩
                        have b257 := hV242.get 114 0 (lo := 0) (hi := 600) (by decide) (by decide) rfl
                        rw [e256] at b257
                        replace hb83 := hb83.trans (pf_let_eq e256)
                        obtain ⟨y258, e259⟩ : ∃ y, V240 114 1 = y := ⟨_, rfl⟩
                        have b260 := hV242.get 114 1 (lo := 0) (hi := 600) (by decide) (by decide) rfl
                        rw [e259] at b260
                        replace hb83 := hb83.trans (pf_let_eq e259)
                        obtain ⟨y261, e262⟩ : ∃ y, V240 114 2 = y := ⟨_, rfl⟩
                        have b263 := hV242.get 114 2 (lo := 0) (hi := 600) (by decide) (by decide) rfl
                        rw [e262] at b263
                        replace hb83 := hb83.trans (pf_let_eq e262)
                        obtain ⟨y264, e265⟩ : ∃ y, V240 114 3 = y := ⟨_, rfl⟩
                        have b266 := hV242.get 114 3 (lo := 0) (hi := 600) (by decide) (by decide) rfl
                        rw [e265] at b266
                        replace hb83 := hb83.trans (pf_let_eq e265)
                        refine pm_iload hC 10 dX12_own_245 rfl ?_
                        refine pm_istore (lv' := [(7, (0, x36)), (11, (0, y150)), (0, (3, 90)), (1, (0, a1)), (2, (0, a2)), (3, (0, (4 * a1))), (4, (0, y16)), (5, (0, y19)), (6, (0, y22)), (8, (0, x66)), (9, (0, x36)), (10, (0, x68))]) hC dX12_own_247 (by decide) rfl ?_
                        refine pm_iload hC 11 dX12_own_249 rfl ?_
                        refine pm_istore (lv' := [(8, (0, x68)), (7, (0, x36)), (11, (0, y150)), (0, (3, 90)), (1, (0, a1)), (2, (0, a2)), (3, (0, (4 * a1))), (4, (0, y16)), (5, (0, y19)), (6, (0, y22)), (9, (0, x36)), (10, (0, x68))]) hC dX12_own_251 (by decide) rfl ?_
                        obtain ⟨x267, ei268⟩ : ∃ y : Int, x68 + 1 = y := ⟨_, rfl⟩
                        replace hb83 := hb83.trans (pf_let_eq ei268)
                        refine pm_iinc (y := x267) (lv' := [(10, (0, x267)), (8, (0, x68)), (7, (0, x36)), (11, (0, y150)), (0, (3, 90)), (1, (0, a1)), (2, (0, a2)), (3, (0, (4 * a1))), (4, (0, y16)), (5, (0, y19)), (6, (0, y22)), (9, (0, x36))]) hC 11 dX12_own_253 (by decide) rfl ei268 rfl ?_
                        refine pm_goto (tgt := 153) hC dX12_own_256 (by decide) ?_
                        refine pm_lvsub [4, 5, 6, 7, 8, 9, 10, 2, 1, 11, 0] (lv' := [(0, (3, 90)), (1, (0, a1)), (2, (0, a2)), (3, (0, (4 * a1))), (4, (0, y16)), (5, (0, y19)), (6, (0, y22)), (7, (0, x36)), (8, (0, x68)), (9, (0, x36)), (10, (0, x267))]) rfl ?_
                        exact ih87 _ (by (exact ow_88_170 hm85 c94 ei268)) x36 x68 x267 V240 ⟨by exact ow_88_162 b37, by exact ow_88_184 c62⟩ ⟨by exact ow_88_185 b69, by exact ow_88_184 c94⟩ ⟨by exact ow_88_174 b69 ei268, by exact ow_88_175 c94 ei268⟩ (by exact ow_88_186 b37) hV242 hF249 e250 hp251 hp252 hp253 hp254 (by (have e : V240 114 2 = y261 := e262); rw [e]; exact ow_88_187 hxp119 hxp154 hxp246 e262) (by (have e : V240 114 3 = y264 := e265); rw [e]; exact ow_88_187 hxp120 hxp155 hxp247 e265) (hb51.trans (pf_val_inl hb83)) rfl
                      · skip
                        replace hb83 := hb83.trans (if_neg (Int.not_lt.mpr c238))
                        refine pm_goto (tgt := 253) hC dX12_own_238 (by decide) ?_
                        obtain ⟨x269, ei270⟩ : ∃ y : Int, x68 + 1 = y := ⟨_, rfl⟩
                        replace hb83 := hb83.trans (pf_let_eq ei270)
                        refine pm_iinc (y := x269) (lv' := [(10, (0, x269)), (11, (0, y150)), (0, (3, 90)), (1, (0, a1)), (2, (0, a2)), (3, (0, (4 * a1))), (4, (0, y16)), (5, (0, y19)), (6, (0, y22)), (7, (0, x64)), (8, (0, x66)), (9, (0, x36))]) hC 11 dX12_own_253 (by decide) rfl ei270 rfl ?_
                        refine pm_goto (tgt := 153) hC dX12_own_256 (by decide) ?_
                        refine pm_lvsub [2, 3, 4, 5, 6, 7, 8, 9, 10, 11, 0] (lv' := [(0, (3, 90)), (1, (0, a1)), (2, (0, a2)), (3, (0, (4 * a1))), (4, (0, y16)), (5, (0, y19)), (6, (0, y22)), (7, (0, x64)), (8, (0, x66)), (9, (0, x36)), (10, (0, x269))]) rfl ?_
                        exact ih87 _ (by (exact ow_88_170 hm85 c94 ei270)) x64 x66 x269 V144 ⟨by exact ow_88_168 b65, by exact ow_88_171 b65⟩ ⟨by exact ow_88_172 b67, by exact ow_88_173 b67⟩ ⟨by exact ow_88_174 b69 ei270, by exact ow_88_175 c94 ei270⟩ (by exact ow_88_176 b65 b70) hV152 hF159 e160 hp161 hp162 hp163 hp164 (by (have e : V144 114 2 = y171 := e172); rw [e]; exact ow_88_182 q148 hxp156 e172) (by (have e : V144 114 3 = y174 := e175); rw [e]; exact ow_88_182 q149 hxp157 e175) (hb51.trans (pf_val_inl hb83)) rfl
                · skip
                  replace hb83 := hb83.trans (if_neg (fun q => q c142))
                  refine pm_iconst (v := 1) hC dX12_own_193 ?_
                  refine pm_goto (tgt := 201) hC dX12_own_194 (by decide) ?_
                  refine pm_istore (lv' := [(11, (0, 1)), (0, (3, 90)), (1, (0, a1)), (2, (0, a2)), (3, (0, (4 * a1))), (4, (0, y16)), (5, (0, y19)), (6, (0, y22)), (7, (0, x64)), (8, (0, x66)), (9, (0, x36)), (10, (0, x68))]) hC dX12_own_201 (by decide) rfl ?_
                  refine pm_iload hC 0 dX12_own_203 rfl ?_
                  refine pm_if_lt (tgt := 253) hC ⟨by decide, by decide⟩ dX12_own_205 (by decide) (fun c271 => ?_) (fun c271 => ?_)
                  · skip
                    exfalso; exact ow_88_195 c271
                  · skip
                    refine pm_iload hC 0 dX12_own_208 rfl ?_
                    refine pm_if_ne (tgt := 241) hC ⟨by decide, by decide⟩ dX12_own_210 (by decide) (fun c272 => ?_) (fun c272 => ?_)
                    · skip
                      refine pm_aload_n hC 1 (by decide) dX12_own_241 rfl ?_
                      refine pm_callV (ci := 12) (as := []) (st := []) hC 90 fB_X12_keeps lm_X12_427 li_X12_keeps (by decide) (by decide) rfl rfl rfl (by decide) rfl rfl (Nat.le_of_ble_eq_true rfl) ⟨Nat.le_refl _, Or.inl rfl⟩ dX12_own_242 ⟨rfl, hV117⟩ (fun r273 V274 hp275 => ?_)
                      obtain ⟨rfl, hV276, hF277, hxp278, hxp279, hxp280, hxp281, hE282⟩ := hp275
                      replace hb83 := hb83.trans (pf_call_eq hE282)
                      change pm_J X 245 [(11, (0, 1)), (0, (3, 90)), (1, (0, a1)), (2, (0, a2)), (3, (0, (4 * a1))), (4, (0, y16)), (5, (0, y19)), (6, (0, y22)), (7, (0, x64)), (8, (0, x66)), (9, (0, x36)), (10, (0, x68))] [] 118 V274
                      have hF283 := pm_fs.tr hF124 hF277 (by decide) (by decide)
                      have e284 : V274 90 24 = 100 := by rw [hF277.2 24 (by decide)]; exact e125
                      have hp285 : pm_h1 V274 := (pm_h1.fr hp126 (hF277.2 16 (by decide)) (hF277.1 97 (by decide) (by decide)))
                      have hp286 : pm_h2 V274 := (pm_h2.fr hp127 (hF277.2 16 (by decide)) (hF277.2 21 (by decide)) (hF277.1 99 (by decide) (by decide)))
                      have hp287 : pm_h3 V274 := (pm_h3.fr hp128 (hF277.2 16 (by decide)) (hF277.2 25 (by decide)) (hF277.1 101 (by decide) (by decide)))
                      have hp288 : pm_ow (V0 100) ((4 * a1) : Int).toNat (((4 * a1) + 1) : Int).toNat V274 := (pm_ow.fr hp129 (hF277.1 100 (by decide) (by decide)))
                      obtain ⟨y289, e290⟩ : ∃ y, V274 114 0 = y := ⟨_, rfl⟩
                      have b291 := hV276.get 114 0 (lo := 0) (hi := 600) (by decide) (by decide) rfl
                      rw [e290] at b291
                      replace hb83 := hb83.trans (pf_let_eq e290)
                      obtain ⟨y292, e293⟩ : ∃ y, V274 114 1 = y := ⟨_, rfl⟩
                      have b294 := hV276.get 114 1 (lo := 0) (hi := 600) (by decide) (by decide) rfl
                      rw [e293] at b294
                      replace hb83 := hb83.trans (pf_let_eq e293)
                      obtain ⟨y295, e296⟩ : ∃ y, V274 114 2 = y := ⟨_, rfl⟩
                      have b297 := hV276.get 114 2 (lo := 0) (hi := 600) (by decide) (by decide) rfl
                      rw [e296] at b297
                      replace hb83 := hb83.trans (pf_let_eq e296)
                      obtain ⟨y298, e299⟩ : ∃ y, V274 114 3 = y := ⟨_, rfl⟩
                      have b300 := hV276.get 114 3 (lo := 0) (hi := 600) (by decide) (by decide) rfl
                      rw [e299] at b300
                      replace hb83 := hb83.trans (pf_let_eq e299)
                      refine pm_iload hC 10 dX12_own_245 rfl ?_
                      refine pm_istore (lv' := [(7, (0, x36)), (11, (0, 1)), (0, (3, 90)), (1, (0, a1)), (2, (0, a2)), (3, (0, (4 * a1))), (4, (0, y16)), (5, (0, y19)), (6, (0, y22)), (8, (0, x66)), (9, (0, x36)), (10, (0, x68))]) hC dX12_own_247 (by decide) rfl ?_
                      refine pm_iload hC 11 dX12_own_249 rfl ?_
                      refine pm_istore (lv' := [(8, (0, x68)), (7, (0, x36)), (11, (0, 1)), (0, (3, 90)), (1, (0, a1)), (2, (0, a2)), (3, (0, (4 * a1))), (4, (0, y16)), (5, (0, y19)), (6, (0, y22)), (9, (0, x36)), (10, (0, x68))]) hC dX12_own_251 (by decide) rfl ?_
                      obtain ⟨x301, ei302⟩ : ∃ y : Int, x68 + 1 = y := ⟨_, rfl⟩
                      replace hb83 := hb83.trans (pf_let_eq ei302)
                      refine pm_iinc (y := x301) (lv' := [(10, (0, x301)), (8, (0, x68)), (7, (0, x36)), (11, (0, 1)), (0, (3, 90)), (1, (0, a1)), (2, (0, a2)), (3, (0, (4 * a1))), (4, (0, y16)), (5, (0, y19)), (6, (0, y22)), (9, (0, x36))]) hC 11 dX12_own_253 (by decide) rfl ei302 rfl ?_
                      refine pm_goto (tgt := 153) hC dX12_own_256 (by decide) ?_
                      refine pm_lvsub [4, 5, 6, 7, 8, 9, 10, 2, 1, 11, 0] (lv' := [(0, (3, 90)), (1, (0, a1)), (2, (0, a2)), (3, (0, (4 * a1))), (4, (0, y16)), (5, (0, y19)), (6, (0, y22)), (7, (0, x36)), (8, (0, x68)), (9, (0, x36)), (10, (0, x301))]) rfl ?_
                      exact ih87 _ (by exact ow_88_170 hm85 c94 ei302) x36 x68 x301 V274 ⟨by exact ow_88_162 b37, by exact ow_88_184 c62⟩ ⟨by exact ow_88_185 b69, by exact ow_88_184 c94⟩ ⟨by exact ow_88_174 b69 ei302, by exact ow_88_175 c94 ei302⟩ (by exact ow_88_186 b37) hV276 hF283 e284 hp285 hp286 hp287 hp288 (by (have e : V274 114 2 = y295 := e296); rw [e]; exact ow_88_196 hxp119 hxp280 e296) (by (have e : V274 114 3 = y298 := e299); rw [e]; exact ow_88_196 hxp120 hxp281 e299) (hb51.trans (pf_val_inl hb83)) rfl
                    · skip
                      exfalso; exact ow_88_104 c272
            refine pm_lvsub [1, 2, 3, 4, 5, 6, 7, 8, 9, 10, 0] (lv' := [(0, (3, 90)), (1, (0, a1)), (2, (0, a2)), (3, (0, (4 * a1))), (4, (0, y16)), (5, (0, y19)), (6, (0, y22)), (7, (0, x32)), (8, (0, x34)), (9, (0, x36)), (10, (0, (-12)))]) rfl ?_
            exact L84 _ x32 x34 (-12) V39 ⟨by exact ow_88_168 b33, by exact ow_88_171 b33⟩ ⟨by exact ow_88_172 b35, by exact ow_88_173 b35⟩ ⟨by decide, by decide⟩ (by exact ow_88_176 b33 b38) hV40 hF41 e42 hp43 hp44 hp45 hp46 (by (have e : V39 114 2 = y56 := e57); rw [e]; exact ow_88_177 b33 b38 hm47 e57) (by (have e : V39 114 3 = y59 := e60); rw [e]; exact ow_88_177 b33 b38 hm48 e60) hb51 rfl
        refine pm_lvsub [7, 8, 9, 6, 5, 4, 3, 2, 1, 0] (lv' := [(0, (3, 90)), (1, (0, a1)), (2, (0, a2)), (3, (0, (4 * a1))), (4, (0, y16)), (5, (0, y19)), (6, (0, y22)), (7, (0, (-2147483648))), (8, (0, 0)), (9, (0, (-12)))]) rfl ?_
        exact L52 _ (-2147483648) 0 (-12) V0 ⟨by decide, by decide⟩ ⟨by decide, by decide⟩ ⟨by decide, by decide⟩ (by exact ow_88_197) hV0 (pm_fs.rf (cs := [100, 110, 111, 112, 113, 114]) (fs := [42, 43, 44, 45, 46, 47, 48, 49, 51]) (V := V0)) e15 hn_pm_h1 hn_pm_h2 hn_pm_h3 ho2 (by (have e : V0 114 2 = y26 := e27); rw [e]; exact ow_88_198) (by (have e : V0 114 3 = y29 := e30); rw [e]; exact ow_88_198) hT rfl
      · skip
        replace hT := hT.trans (if_neg (fun q => q c25))
        refine pm_iconst (v := 0) hC dX12_own_66 ?_
        refine pm_istore (lv' := [(9, (0, 0)), (8, (0, 0)), (7, (0, (-2147483648))), (6, (0, y22)), (5, (0, y19)), (4, (0, y16)), (3, (0, (4 * a1))), (0, (3, 90)), (1, (0, a1)), (2, (0, a2))]) hC dX12_own_67 (by decide) rfl ?_
        obtain ⟨y303, e304⟩ : ∃ y, V0 114 2 = y := ⟨_, rfl⟩
        have b305 := hV0.get 114 2 (lo := 0) (hi := 600) (by decide) (by decide) rfl
        rw [e304] at b305
        replace hT := hT.trans (pf_let_eq e304)
        obtain ⟨y306, e307⟩ : ∃ y, V0 114 3 = y := ⟨_, rfl⟩
        have b308 := hV0.get 114 3 (lo := 0) (hi := 600) (by decide) (by decide) rfl
        rw [e307] at b308
        replace hT := hT.trans (pf_let_eq e307)
        obtain ⟨B324, hB325, hT⟩ := pf_loop hT
        have L327 : ∀ (N329 : Nat) (x309 : Int) (x311 : Int) (V314 : pm_M), ((-2147483648) ≤ x309 ∧ x309 ≤ 16) → (0 ≤ x311 ∧ x311 ≤ 17) → (x309 = -2147483648 ∨ 0 ≤ x309) → pm_oq pm_qB V314 → pm_fs [100, 110, 111, 112, 113, 114] [42, 43, 44, 45, 46, 47, 48, 49, 51] V0 V314 → V314 90 24 = 100 → pm_h1 V314 → pm_h2 V314 → pm_h3 V314 → pm_ow (V0 100) (((4 * a1) + 2) : Int).toNat (((4 * a1) + 2) : Int).toNat V314 → (x309 = -2147483648 ∨ V314 114 2 ≤ 181) → (x309 = -2147483648 ∨ V314 114 3 ≤ 181) → F_X12_own a1 a2 V0 = pf_val ((0 : Int), V0) B324 (x309, x311, V314) → (Int.toNat (17 - x311)) = N329 → pm_J X 69 [(0, (3, 90)), (1, (0, a1)), (2, (0, a2)), (3, (0, (4 * a1))), (4, (0, y16)), (5, (0, y19)), (6, (0, y22)), (7, (0, x309)), (8, (0, 0)), (9, (0, x311))] [] 118 V314 := by
          intro N329
          induction N329 using Nat.strongRecOn with
          | _ N329 ih330 =>
          intro x309 x311 V314 b310 b312 b313 hV315 hF316 e317 hp318 hp319 hp320 hp321 hm322 hm323 hT hm328
          have hb326 := congrFun hB325 (x309, x311, V314)
          obtain ⟨y331, e332⟩ : ∃ y, V314 114 2 = y := ⟨_, rfl⟩
          have b333 := hV315.get 114 2 (lo := 0) (hi := 600) (by decide) (by decide) rfl
          rw [e332] at b333
          replace hb326 := hb326.trans (pf_let_eq e332)
          obtain ⟨y334, e335⟩ : ∃ y, V314 114 3 = y := ⟨_, rfl⟩
          have b336 := hV315.get 114 3 (lo := 0) (hi := 600) (by decide) (by decide) rfl
          rw [e335] at b336
          replace hb326 := hb326.trans (pf_let_eq e335)
          refine pm_iload hC 9 dX12_own_69 rfl ?_
          refine pm_bipush (v := 16) hC dX12_own_71 (by decide) ?_
          refine pm_icmp_gt (tgt := 125) hC ⟨by exact ow_88_199 b312, by exact ow_88_200 b312⟩ ⟨by decide, by decide⟩ dX12_own_73 (by decide) (fun c337 => ?_) (fun c337 => ?_)
          · skip
            replace hb326 := hb326.trans (if_pos c337)
            refine pm_aload_n hC 0 (by decide) dX12_own_125 rfl ?_
            refine pm_getf (v := 100) hC 90 fl_X12_40 rfl rfl (by decide) rfl e317 dX12_own_126 ?_
            refine pm_iload_n hC 3 dX12_own_129 rfl ?_
            refine pm_iconst (v := 2) hC dX12_own_130 ?_
            refine pm_iadd hC dX12_own_131 ?_
            refine pm_iload hC 6 dX12_own_132 rfl ?_
            refine pm_iastore (len := 40) hC 100 rfl rfl (by decide) ⟨by exact ow_88_160 b5 c7, by exact ow_88_161 b5 c7⟩ (by decide) dX12_own_134 ?_
            refine pm_iload hC 7 dX12_own_135 rfl ?_
            replace hT := hT.trans (pf_val_inr hb326)
            exact pm_iret hC hR pm_nar0 ⟨x309, rfl, ⟨by exact ow_88_201 b310, by exact ow_88_202 b310⟩, (hV315.put 100 (((4 * a1) + 2) : Int).toNat (x := y22) (lo := 0) (hi := 16) ((pm_qe_r (tb := pm_qB) (k := 100) (i := (((4 * a1) + 2) : Int).toNat) (m := 4) (r := 2) (l := [(-30, 30, 0), (-30, 30, 0), (0, 16, 0), (0, 3, 0)]) rfl rfl (by omega)).trans rfl) ⟨by exact ow_88_203 b24, by exact ow_88_204 b24⟩), (hF316.up 100 (((4 * a1) + 2) : Int).toNat y22 (by decide) rfl), (fun q => by (by_cases hq : q = (((4 * a1) + 2) : Int).toNat); (rw [hq]; exact pm_up_s.trans e23.symm); (exact (pm_up_i hq).trans (hp321 q hq hq))), hT⟩ dX12_own_137
          · skip
            replace hb326 := hb326.trans (if_neg (Int.not_lt.mpr c337))
            refine pm_aload_n hC 0 (by decide) dX12_own_76 rfl ?_
            refine pm_getf (v := 100) hC 90 fl_X12_40 rfl rfl (by decide) rfl e317 dX12_own_77 ?_
            refine pm_iload_n hC 3 dX12_own_80 rfl ?_
            refine pm_iconst (v := 2) hC dX12_own_81 ?_
            refine pm_iadd hC dX12_own_82 ?_
            refine pm_iload hC 9 dX12_own_83 rfl ?_
            refine pm_iastore (len := 40) hC 100 rfl rfl (by decide) ⟨by exact ow_88_160 b5 c7, by exact ow_88_161 b5 c7⟩ (by decide) dX12_own_85 ?_
            refine pm_aload_n hC 0 (by decide) dX12_own_86 rfl ?_
            refine pm_iconst (v := 4) hC dX12_own_87 ?_
            refine pm_iload_n hC 1 dX12_own_88 rfl ?_
            refine pm_iconst (v := 0) hC dX12_own_89 ?_
            have hV340 := (hV315.put 100 (((4 * a1) + 2) : Int).toNat (x := x311) (lo := 0) (hi := 16) ((pm_qe_r (tb := pm_qB) (k := 100) (i := (((4 * a1) + 2) : Int).toNat) (m := 4) (r := 2) (l := [(-30, 30, 0), (-30, 30, 0), (0, 16, 0), (0, 3, 0)]) rfl rfl (by omega)).trans rfl) ⟨by exact ow_88_205 b312, by exact ow_88_206 c337⟩)
            have hF341 := (hF316.up 100 (((4 * a1) + 2) : Int).toNat x311 (by decide) rfl)
            obtain ⟨V338, hv339⟩ : ∃ V, V = (pm_up V314 100 (((4 * a1) + 2) : Int).toNat x311) := ⟨_, rfl⟩
            rw [← hv339] at hV340 hF341
            rw [← hv339]
            replace hb326 := hb326.trans (pf_let_eq hv339.symm)
            have e342 : V338 90 24 = 100 := by rw [hv339]; exact e317
            have e343 : V338 114 2 = y331 := by rw [hv339]; exact e332
            have e344 : V338 114 3 = y334 := by rw [hv339]; exact e335
            have hp345 : pm_h1 V338 := by rw [hv339]; exact (pm_h1.fr hp318 rfl rfl)
            have hp346 : pm_h2 V338 := by rw [hv339]; exact (pm_h2.fr hp319 rfl rfl rfl)
            have hp347 : pm_h3 V338 := by rw [hv339]; exact (pm_h3.fr hp320 rfl rfl rfl)
            have hp348 : pm_ow (V0 100) (((4 * a1) + 2) : Int).toNat (((4 * a1) + 2) : Int).toNat V338 := by rw [hv339]; exact (pm_ow.up hp321 (by first | exact Or.inl rfl | exact Or.inr rfl))
            obtain ⟨y349, e350⟩ : ∃ y, V338 114 0 = y := ⟨_, rfl⟩
            have b351 := hV340.get 114 0 (lo := 0) (hi := 600) (by decide) (by decide) rfl
            rw [e350] at b351
            replace hb326 := hb326.trans (pf_let_eq e350)
            obtain ⟨y352, e353⟩ : ∃ y, V338 114 1 = y := ⟨_, rfl⟩
            have b354 := hV340.get 114 1 (lo := 0) (hi := 600) (by decide) (by decide) rfl
            rw [e353] at b354
            replace hb326 := hb326.trans (pf_let_eq e353)
            refine pm_callV (ci := 12) (as := [(0, 4), (0, a1), (0, 0)]) (st := []) hC 90 (fB_X12_fits_d0 4 a1 ⟨by decide, by decide⟩ ⟨by exact ow_88_129 b5 c7, by exact ow_88_130 b5 c7⟩) lm_X12_424 li_X12_fits (by decide) (by decide) rfl rfl rfl (by decide) rfl rfl (Nat.le_of_ble_eq_true rfl) ⟨Nat.le_refl _, Or.inl rfl⟩ dX12_own_90 ⟨rfl, hV340, hp345, hp346, hp347⟩ (fun r355 V356 hp357 => ?_)
            obtain ⟨rfl, hV358, hF359, hxp360, hxp361, hxp362, hxp363, hE364⟩ := hp357
            replace hb326 := hb326.trans (pf_call_eq hE364)
            change pm_J X 93 [(0, (3, 90)), (1, (0, a1)), (2, (0, a2)), (3, (0, (4 * a1))), (4, (0, y16)), (5, (0, y19)), (6, (0, y22)), (7, (0, x309)), (8, (0, 0)), (9, (0, x311))] [] 118 V356
            have hF365 := pm_fs.tr hF341 hF359 (by decide) (by decide)
            have e366 : V356 90 24 = 100 := by rw [hF359.2 24 (by decide)]; exact e342
            have hp367 : pm_h1 V356 := (pm_h1.fr hp345 (hF359.2 16 (by decide)) (hF359.1 97 (by decide) (by decide)))
            have hp368 : pm_h2 V356 := (pm_h2.fr hp346 (hF359.2 16 (by decide)) (hF359.2 21 (by decide)) (hF359.1 99 (by decide) (by decide)))
            have hp369 : pm_h3 V356 := (pm_h3.fr hp347 (hF359.2 16 (by decide)) (hF359.2 25 (by decide)) (hF359.1 101 (by decide) (by decide)))
            have hp370 : pm_ow (V0 100) (((4 * a1) + 2) : Int).toNat (((4 * a1) + 2) : Int).toNat V356 := (pm_ow.fr hp348 (hF359.1 100 (by decide) (by decide)))
            obtain ⟨y371, e372⟩ : ∃ y, V356 114 0 = y := ⟨_, rfl⟩
            have b373 := hV358.get 114 0 (lo := 0) (hi := 600) (by decide) (by decide) rfl
            rw [e372] at b373
            replace hb326 := hb326.trans (pf_let_eq e372)
            obtain ⟨y374, e375⟩ : ∃ y, V356 114 1 = y := ⟨_, rfl⟩
            have b376 := hV358.get 114 1 (lo := 0) (hi := 600) (by decide) (by decide) rfl
            rw [e375] at b376
            replace hb326 := hb326.trans (pf_let_eq e375)
            obtain ⟨y377, e378⟩ : ∃ y, V356 114 2 = y := ⟨_, rfl⟩
            have b379 := hV358.get 114 2 (lo := 0) (hi := 600) (by decide) (by decide) rfl
            rw [e378] at b379
            replace hb326 := hb326.trans (pf_let_eq e378)
            obtain ⟨y380, e381⟩ : ∃ y, V356 114 3 = y := ⟨_, rfl⟩
            have b382 := hV358.get 114 3 (lo := 0) (hi := 600) (by decide) (by decide) rfl
            rw [e381] at b382
            replace hb326 := hb326.trans (pf_let_eq e381)
            refine pm_iload hC 7 dX12_own_93 rfl ?_
            refine pm_ldcw (v := (-2147483648)) hC 7000 dX12_own_95 (by decide +kernel) ?_
            refine pm_icmp_eq (tgt := 111) hC ⟨by exact ow_88_201 b310, by exact ow_88_207 b310⟩ ⟨by decide, by decide⟩ dX12_own_98 (by decide) (fun c383 => ?_) (fun c383 => ?_)
            · skip
              replace hb326 := hb326.trans (if_pos c383)
              refine pm_aload_n hC 0 (by decide) dX12_own_111 rfl ?_
              refine pm_callV (ci := 12) (as := []) (st := []) hC 90 fB_X12_keeps lm_X12_427 li_X12_keeps (by decide) (by decide) rfl rfl rfl (by decide) rfl rfl (Nat.le_of_ble_eq_true rfl) ⟨Nat.le_refl _, Or.inl rfl⟩ dX12_own_112 ⟨rfl, hV358⟩ (fun r384 V385 hp386 => ?_)
              obtain ⟨rfl, hV387, hF388, hxp389, hxp390, hxp391, hxp392, hE393⟩ := hp386
              replace hb326 := hb326.trans (pf_call_eq hE393)
              change pm_J X 115 [(0, (3, 90)), (1, (0, a1)), (2, (0, a2)), (3, (0, (4 * a1))), (4, (0, y16)), (5, (0, y19)), (6, (0, y22)), (7, (0, x309)), (8, (0, 0)), (9, (0, x311))] [] 118 V385
              have hF394 := pm_fs.tr hF365 hF388 (by decide) (by decide)
              have e395 : V385 90 24 = 100 := by rw [hF388.2 24 (by decide)]; exact e366
              have hp396 : pm_h1 V385 := (pm_h1.fr hp367 (hF388.2 16 (by decide)) (hF388.1 97 (by decide) (by decide)))
              have hp397 : pm_h2 V385 := (pm_h2.fr hp368 (hF388.2 16 (by decide)) (hF388.2 21 (by decide)) (hF388.1 99 (by decide) (by decide)))
              have hp398 : pm_h3 V385 := (pm_h3.fr hp369 (hF388.2 16 (by decide)) (hF388.2 25 (by decide)) (hF388.1 101 (by decide) (by decide)))
              have hp399 : pm_ow (V0 100) (((4 * a1) + 2) : Int).toNat (((4 * a1) + 2) : Int).toNat V385 := (pm_ow.fr hp370 (hF388.1 100 (by decide) (by decide)))
              obtain ⟨y400, e401⟩ : ∃ y, V385 114 0 = y := ⟨_, rfl⟩
              have b402 := hV387.get 114 0 (lo := 0) (hi := 600) (by decide) (by decide) rfl
              rw [e401] at b402
              replace hb326 := hb326.trans (pf_let_eq e401)
              obtain ⟨y403, e404⟩ : ∃ y, V385 114 1 = y := ⟨_, rfl⟩
              have b405 := hV387.get 114 1 (lo := 0) (hi := 600) (by decide) (by decide) rfl
              rw [e404] at b405
              replace hb326 := hb326.trans (pf_let_eq e404)
              obtain ⟨y406, e407⟩ : ∃ y, V385 114 2 = y := ⟨_, rfl⟩
              have b408 := hV387.get 114 2 (lo := 0) (hi := 600) (by decide) (by decide) rfl
              rw [e407] at b408
              replace hb326 := hb326.trans (pf_let_eq e407)
              obtain ⟨y409, e410⟩ : ∃ y, V385 114 3 = y := ⟨_, rfl⟩
              have b411 := hV387.get 114 3 (lo := 0) (hi := 600) (by decide) (by decide) rfl
              rw [e410] at b411
              replace hb326 := hb326.trans (pf_let_eq e410)
              refine pm_iload hC 9 dX12_own_115 rfl ?_
              refine pm_istore (lv' := [(7, (0, x311)), (0, (3, 90)), (1, (0, a1)), (2, (0, a2)), (3, (0, (4 * a1))), (4, (0, y16)), (5, (0, y19)), (6, (0, y22)), (8, (0, 0)), (9, (0, x311))]) hC dX12_own_117 (by decide) rfl ?_
              obtain ⟨x412, ei413⟩ : ∃ y : Int, x311 + 1 = y := ⟨_, rfl⟩
              replace hb326 := hb326.trans (pf_let_eq ei413)
              refine pm_iinc (y := x412) (lv' := [(9, (0, x412)), (7, (0, x311)), (0, (3, 90)), (1, (0, a1)), (2, (0, a2)), (3, (0, (4 * a1))), (4, (0, y16)), (5, (0, y19)), (6, (0, y22)), (8, (0, 0))]) hC 9 dX12_own_119 (by decide) rfl ei413 rfl ?_
              refine pm_goto (tgt := 69) hC dX12_own_122 (by decide) ?_
              refine pm_lvsub [2, 3, 4, 5, 6, 7, 8, 1, 9, 0] (lv' := [(0, (3, 90)), (1, (0, a1)), (2, (0, a2)), (3, (0, (4 * a1))), (4, (0, y16)), (5, (0, y19)), (6, (0, y22)), (7, (0, x311)), (8, (0, 0)), (9, (0, x412))]) rfl ?_
              exact ih330 _ (by exact ow_88_208 hm328 c337 ei413) x311 x412 V385 ⟨by exact ow_88_199 b312, by exact ow_88_206 c337⟩ ⟨by exact ow_88_209 b312 ei413, by exact ow_88_210 c337 ei413⟩ (by exact ow_88_211 b312) hV387 hF394 e395 hp396 hp397 hp398 hp399 (by (have e : V385 114 2 = y406 := e407); rw [e]; exact ow_88_196 hxp360 hxp391 e407) (by (have e : V385 114 3 = y409 := e410); rw [e]; exact ow_88_196 hxp361 hxp392 e410) (hT.trans (pf_val_inl hb326)) rfl
            · skip
              replace hb326 := hb326.trans (if_neg c383)
              refine pm_aload_n hC 0 (by decide) dX12_own_101 rfl ?_
              have q417 : 0 ≤ V356 114 0 ∧ V356 114 0 ≤ 181 := by (have e : V356 114 0 = y371 := e372); rw [e]; exact ⟨by exact ow_88_115 hxp360 e372, by exact ow_88_116 hxp360 e372⟩
              have q418 : 0 ≤ V356 114 1 ∧ V356 114 1 ≤ 181 := by (have e : V356 114 1 = y374 := e375); rw [e]; exact ⟨by exact ow_88_115 hxp361 e375, by exact ow_88_116 hxp361 e375⟩
              have q419 : 0 ≤ V356 114 2 ∧ V356 114 2 ≤ 181 := by (have e : V356 114 2 = y377 := e378); rw [e]; exact ⟨by exact ow_88_117 b379, by exact ow_88_212 b310 hm322 e332 e343 hxp362 e378 c383⟩
              have q420 : 0 ≤ V356 114 3 ∧ V356 114 3 ≤ 181 := by (have e : V356 114 3 = y380 := e381); rw [e]; exact ⟨by exact ow_88_117 b382, by exact ow_88_212 b310 hm323 e335 e344 hxp363 e381 c383⟩
              refine pm_callV (ci := 12) (as := []) (st := []) hC 90 fB_X12_against lm_X12_430 li_X12_against (by decide) (by decide) rfl rfl rfl (by decide) rfl rfl (Nat.le_of_ble_eq_true rfl) ⟨Nat.le_refl _, Or.inl rfl⟩ dX12_own_102 ⟨rfl, hV358, q417, q418, q419, q420⟩ (fun r414 V415 hp416 => ?_)
              obtain ⟨y421, rfl, b422, hV423, hF424, hxp425, hxp426, hxp427, hxp428, hE429⟩ := hp416
              replace hb326 := hb326.trans (pf_call_eq hE429)
              change pm_J X 105 [(0, (3, 90)), (1, (0, a1)), (2, (0, a2)), (3, (0, (4 * a1))), (4, (0, y16)), (5, (0, y19)), (6, (0, y22)), (7, (0, x309)), (8, (0, 0)), (9, (0, x311))] [(0, y421)] 118 V415
              have hF430 := pm_fs.tr hF365 hF424 (by decide) (by decide)
              have e431 : V415 90 24 = 100 := by rw [hF424.2 24 (by decide)]; exact e366
              have hp432 : pm_h1 V415 := (pm_h1.fr hp367 (hF424.2 16 (by decide)) (hF424.1 97 (by decide) (by decide)))
              have hp433 : pm_h2 V415 := (pm_h2.fr hp368 (hF424.2 16 (by decide)) (hF424.2 21 (by decide)) (hF424.1 99 (by decide) (by decide)))
              have hp434 : pm_h3 V415 := (pm_h3.fr hp369 (hF424.2 16 (by decide)) (hF424.2 25 (by decide)) (hF424.1 101 (by decide) (by decide)))
              have hp435 : pm_ow (V0 100) (((4 * a1) + 2) : Int).toNat (((4 * a1) + 2) : Int).toNat V415 := (pm_ow.fr hp370 (hF424.1 100 (by decide) (by decide)))
              obtain ⟨y436, e437⟩ : ∃ y, V415 114 0 = y := ⟨_, rfl⟩
              have b438 := hV423.get 114 0 (lo := 0) (hi := 600) (by decide) (by decide) rfl
              rw [e437] at b438
              replace hb326 := hb326.trans (pf_let_eq e437)
              obtain ⟨y439, e440⟩ : ∃ y, V415 114 1 = y := ⟨_, rfl⟩
              have b441 := hV423.get 114 1 (lo := 0) (hi := 600) (by decide) (by decide) rfl
              rw [e440] at b441
              replace hb326 := hb326.trans (pf_let_eq e440)
              obtain ⟨y442, e443⟩ : ∃ y, V415 114 2 = y := ⟨_, rfl⟩
              have b444 := hV423.get 114 2 (lo := 0) (hi := 600) (by decide) (by decide) rfl
              rw [e443] at b444
              replace hb326 := hb326.trans (pf_let_eq e443)
              obtain ⟨y445, e446⟩ : ∃ y, V415 114 3 = y := ⟨_, rfl⟩
              have b447 := hV423.get 114 3 (lo := 0) (hi := 600) (by decide) (by decide) rfl
              rw [e446] at b447
              replace hb326 := hb326.trans (pf_let_eq e446)
              refine pm_if_gt (tgt := 111) hC ⟨by exact ow_88_119 b422, by exact ow_88_120 b422⟩ dX12_own_105 (by decide) (fun c448 => ?_) (fun c448 => ?_)
              · skip
                replace hb326 := hb326.trans (if_pos c448)
                refine pm_aload_n hC 0 (by decide) dX12_own_111 rfl ?_
                refine pm_callV (ci := 12) (as := []) (st := []) hC 90 fB_X12_keeps lm_X12_427 li_X12_keeps (by decide) (by decide) rfl rfl rfl (by decide) rfl rfl (Nat.le_of_ble_eq_true rfl) ⟨Nat.le_refl _, Or.inl rfl⟩ dX12_own_112 ⟨rfl, hV423⟩ (fun r449 V450 hp451 => ?_)
                obtain ⟨rfl, hV452, hF453, hxp454, hxp455, hxp456, hxp457, hE458⟩ := hp451
                replace hb326 := hb326.trans (pf_call_eq hE458)
                change pm_J X 115 [(0, (3, 90)), (1, (0, a1)), (2, (0, a2)), (3, (0, (4 * a1))), (4, (0, y16)), (5, (0, y19)), (6, (0, y22)), (7, (0, x309)), (8, (0, 0)), (9, (0, x311))] [] 118 V450
                have hF459 := pm_fs.tr hF430 hF453 (by decide) (by decide)
                have e460 : V450 90 24 = 100 := by rw [hF453.2 24 (by decide)]; exact e431
                have hp461 : pm_h1 V450 := (pm_h1.fr hp432 (hF453.2 16 (by decide)) (hF453.1 97 (by decide) (by decide)))
                have hp462 : pm_h2 V450 := (pm_h2.fr hp433 (hF453.2 16 (by decide)) (hF453.2 21 (by decide)) (hF453.1 99 (by decide) (by decide)))
                have hp463 : pm_h3 V450 := (pm_h3.fr hp434 (hF453.2 16 (by decide)) (hF453.2 25 (by decide)) (hF453.1 101 (by decide) (by decide)))
                have hp464 : pm_ow (V0 100) (((4 * a1) + 2) : Int).toNat (((4 * a1) + 2) : Int).toNat V450 := (pm_ow.fr hp435 (hF453.1 100 (by decide) (by decide)))
                obtain ⟨y465, e466⟩ : ∃ y, V450 114 0 = y := ⟨_, rfl⟩
                have b467 := hV452.get 114 0 (lo := 0) (hi := 600) (by decide) (by decide) rfl
                rw [e466] at b467
                replace hb326 := hb326.trans (pf_let_eq e466)
                obtain ⟨y468, e469⟩ : ∃ y, V450 114 1 = y := ⟨_, rfl⟩
                have b470 := hV452.get 114 1 (lo := 0) (hi := 600) (by decide) (by decide) rfl
                rw [e469] at b470
                replace hb326 := hb326.trans (pf_let_eq e469)
                obtain ⟨y471, e472⟩ : ∃ y, V450 114 2 = y := ⟨_, rfl⟩
                have b473 := hV452.get 114 2 (lo := 0) (hi := 600) (by decide) (by decide) rfl
                rw [e472] at b473
                replace hb326 := hb326.trans (pf_let_eq e472)
                obtain ⟨y474, e475⟩ : ∃ y, V450 114 3 = y := ⟨_, rfl⟩
                have b476 := hV452.get 114 3 (lo := 0) (hi := 600) (by decide) (by decide) rfl
                rw [e475] at b476
                replace hb326 := hb326.trans (pf_let_eq e475)
                refine pm_iload hC 9 dX12_own_115 rfl ?_
                refine pm_istore (lv' := [(7, (0, x311)), (0, (3, 90)), (1, (0, a1)), (2, (0, a2)), (3, (0, (4 * a1))), (4, (0, y16)), (5, (0, y19)), (6, (0, y22)), (8, (0, 0)), (9, (0, x311))]) hC dX12_own_117 (by decide) rfl ?_
                obtain ⟨x477, ei478⟩ : ∃ y : Int, x311 + 1 = y := ⟨_, rfl⟩
                replace hb326 := hb326.trans (pf_let_eq ei478)
                refine pm_iinc (y := x477) (lv' := [(9, (0, x477)), (7, (0, x311)), (0, (3, 90)), (1, (0, a1)), (2, (0, a2)), (3, (0, (4 * a1))), (4, (0, y16)), (5, (0, y19)), (6, (0, y22)), (8, (0, 0))]) hC 9 dX12_own_119 (by decide) rfl ei478 rfl ?_
                refine pm_goto (tgt := 69) hC dX12_own_122 (by decide) ?_
                refine pm_lvsub [2, 3, 4, 5, 6, 7, 8, 1, 9, 0] (lv' := [(0, (3, 90)), (1, (0, a1)), (2, (0, a2)), (3, (0, (4 * a1))), (4, (0, y16)), (5, (0, y19)), (6, (0, y22)), (7, (0, x311)), (8, (0, 0)), (9, (0, x477))]) rfl ?_
                exact ih330 _ (by exact ow_88_208 hm328 c337 ei478) x311 x477 V450 ⟨by exact ow_88_199 b312, by exact ow_88_206 c337⟩ ⟨by exact ow_88_209 b312 ei478, by exact ow_88_210 c337 ei478⟩ (by exact ow_88_211 b312) hV452 hF459 e460 hp461 hp462 hp463 hp464 (by (have e : V450 114 2 = y471 := e472); rw [e]; exact ow_88_187 hxp360 hxp425 hxp456 e472) (by (have e : V450 114 3 = y474 := e475); rw [e]; exact ow_88_187 hxp361 hxp426 hxp457 e475) (hT.trans (pf_val_inl hb326)) rfl
              · skip
                replace hb326 := hb326.trans (if_neg (Int.not_lt.mpr c448))
                refine pm_goto (tgt := 119) hC dX12_own_108 (by decide) ?_
                obtain ⟨x479, ei480⟩ : ∃ y : Int, x311 + 1 = y := ⟨_, rfl⟩
                replace hb326 := hb326.trans (pf_let_eq ei480)
                refine pm_iinc (y := x479) (lv' := [(9, (0, x479)), (0, (3, 90)), (1, (0, a1)), (2, (0, a2)), (3, (0, (4 * a1))), (4, (0, y16)), (5, (0, y19)), (6, (0, y22)), (7, (0, x309)), (8, (0, 0))]) hC 9 dX12_own_119 (by decide) rfl ei480 rfl ?_
                refine pm_goto (tgt := 69) hC dX12_own_122 (by decide) ?_
                refine pm_lvsub [1, 2, 3, 4, 5, 6, 7, 8, 9, 0] (lv' := [(0, (3, 90)), (1, (0, a1)), (2, (0, a2)), (3, (0, (4 * a1))), (4, (0, y16)), (5, (0, y19)), (6, (0, y22)), (7, (0, x309)), (8, (0, 0)), (9, (0, x479))]) rfl ?_
                exact ih330 _ (by exact ow_88_208 hm328 c337 ei480) x309 x479 V415 ⟨by exact ow_88_201 b310, by exact ow_88_202 b310⟩ ⟨by exact ow_88_209 b312 ei480, by exact ow_88_210 c337 ei480⟩ (by exact ow_88_213 b310 b313) hV423 hF430 e431 hp432 hp433 hp434 hp435 (by (have e : V415 114 2 = y442 := e443); rw [e]; exact ow_88_182 q419 hxp427 e443) (by (have e : V415 114 3 = y445 := e446); rw [e]; exact ow_88_182 q420 hxp428 e446) (hT.trans (pf_val_inl hb326)) rfl
        refine pm_lvsub [7, 8, 9, 6, 5, 4, 3, 2, 1, 0] (lv' := [(0, (3, 90)), (1, (0, a1)), (2, (0, a2)), (3, (0, (4 * a1))), (4, (0, y16)), (5, (0, y19)), (6, (0, y22)), (7, (0, (-2147483648))), (8, (0, 0)), (9, (0, 0))]) rfl ?_
        exact L327 _ (-2147483648) 0 V0 ⟨by decide, by decide⟩ ⟨by decide, by decide⟩ (by exact ow_88_214) hV0 (pm_fs.rf (cs := [100, 110, 111, 112, 113, 114]) (fs := [42, 43, 44, 45, 46, 47, 48, 49, 51]) (V := V0)) e15 hn_pm_h1 hn_pm_h2 hn_pm_h3 ho1 (by (have e : V0 114 2 = y303 := e304); rw [e]; exact ow_88_198) (by (have e : V0 114 3 = y306 := e307); rw [e]; exact ow_88_198) hT rfl
    · skip
      replace hT := hT.trans (if_neg (fun q => q c14))
      refine pm_ldcw (v := (-2147483648)) hC 7000 dX12_own_17 (by decide +kernel) ?_
      exact pm_iret hC hR pm_nar0 ⟨(-2147483648), rfl, ⟨by exact ow_88_149, by exact ow_88_150⟩, hV0, (pm_fs.rf (cs := [100, 110, 111, 112, 113, 114]) (fs := [42, 43, 44, 45, 46, 47, 48, 49, 51]) (V := V0)), (fun _ => rfl), hT⟩ dX12_own_20
