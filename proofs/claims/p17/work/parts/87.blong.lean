theorem ow_87_0 {a0 : Int} (h0 : ((0 ≤ (a0 : Int)) ∧ (a0 ≤ (600 : Int)))) : (0 ≤ (a0 : Int)) := by omega
theorem ow_87_1 {a0 : Int} (h0 : ((0 ≤ (a0 : Int)) ∧ (a0 ≤ (600 : Int)))) : (a0 ≤ (600 : Int)) := by omega
theorem ow_87_2 {a0 : Int} (h0 : ((0 ≤ (a0 : Int)) ∧ (a0 ≤ (1000 : Int)))) : ((-2147483648) ≤ (a0 : Int)) := by omega
theorem ow_87_3 {a0 : Int} (h0 : ((0 ≤ (a0 : Int)) ∧ (a0 ≤ (1000 : Int)))) : (a0 ≤ (2147483647 : Int)) := by omega
theorem ow_87_4 {a0 : Int} (h0 : ((0 ≤ (a0 : Int)) ∧ (a0 ≤ (600 : Int)))) : ((-2147483648) ≤ (a0 : Int)) := by omega
theorem ow_87_5 {a0 : Int} (h0 : ((0 ≤ (a0 : Int)) ∧ (a0 ≤ (600 : Int)))) : (a0 ≤ (2147483647 : Int)) := by omega
theorem ow_87_6 {a0 a1 a2 : Int} (h0 : (a0 = (a1 : Int))) (h1 : (a2 = (a1 : Int))) : (a2 = (a0 : Int)) := by omega
theorem ow_87_7 {a0 : Int} (h0 : ((0 ≤ (a0 : Int)) ∧ (a0 ≤ (1000 : Int)))) : (((0 + a0) : Int).toNat < (2400 : Nat)) := by omega
theorem ow_87_8 {a0 : Int} (h0 : ((0 ≤ (a0 : Int)) ∧ (a0 ≤ (1000 : Int)))) : (0 ≤ ((0 + a0) : Int)) := by omega
theorem ow_87_9 {a0 : Int} (h0 : ((0 ≤ (a0 : Int)) ∧ (a0 ≤ (1000 : Int)))) : ((0 + a0) < (((2400 : Nat) : Int) : Int)) := by omega
theorem ow_87_10 {a0 : Int} (h0 : ((0 ≤ (a0 : Int)) ∧ (a0 ≤ (1000 : Int)))) : (0 ≤ ((600 + a0) : Int)) := by omega
theorem ow_87_11 {a0 a1 : Int} (h0 : ((0 ≤ (a0 : Int)) ∧ (a0 ≤ (600 : Int)))) (h1 : (a1 < (a0 : Int))) : ((600 + a1) < (((2400 : Nat) : Int) : Int)) := by omega
theorem ow_87_12 {a0 a1 a3 : Int} {k2 : Nat} (h0 : ((0 ≤ (a0 : Int)) ∧ (a0 ≤ (600 : Int)))) (h1 : (((1000 - a1) : Int).toNat = (k2 : Nat))) (h2 : (a1 < (a0 : Int))) (h3 : ((a1 + 1) = (a3 : Int))) : (((1000 - a3) : Int).toNat < (k2 : Nat)) := by omega
theorem ow_87_13 {a0 a1 : Int} (h0 : ((0 ≤ (a0 : Int)) ∧ (a0 ≤ (1000 : Int)))) (h1 : ((a0 + 1) = (a1 : Int))) : (0 ≤ (a1 : Int)) := by omega
theorem ow_87_14 {a0 a1 a2 : Int} (h0 : ((0 ≤ (a0 : Int)) ∧ (a0 ≤ (600 : Int)))) (h1 : (a1 < (a0 : Int))) (h2 : ((a1 + 1) = (a2 : Int))) : (a2 ≤ (1000 : Int)) := by omega
theorem ow_87_15 {a0 : Int} (h0 : ((0 ≤ (a0 : Int)) ∧ (a0 ≤ (9999 : Int)))) : (0 ≤ (a0 : Int)) := by omega
theorem ow_87_16 {a0 : Int} (h0 : ((0 ≤ (a0 : Int)) ∧ (a0 ≤ (9999 : Int)))) : (a0 ≤ (9999 : Int)) := by omega
theorem ow_87_17 {a0 a1 : Int} (h0 : ((0 ≤ (a0 : Int)) ∧ (a0 ≤ (600 : Int)))) (h1 : (a1 < (a0 : Int))) : (((300 + a1) : Int).toNat < (2400 : Nat)) := by omega
theorem ow_87_18 {a0 : Int} (h0 : ((0 ≤ (a0 : Int)) ∧ (a0 ≤ (1000 : Int)))) : (0 ≤ ((300 + a0) : Int)) := by omega
theorem ow_87_19 {a0 : Int} (h0 : ((0 ≤ (a0 : Int)) ∧ (a0 ≤ (1000 : Int)))) : ((300 + a0) < (((2400 : Nat) : Int) : Int)) := by omega
theorem ow_87_20 {a0 : Int} (h0 : ((0 ≤ (a0 : Int)) ∧ (a0 ≤ (1000 : Int)))) : (0 ≤ ((900 + a0) : Int)) := by omega
theorem ow_87_21 {a0 a1 : Int} (h0 : ((0 ≤ (a0 : Int)) ∧ (a0 ≤ (600 : Int)))) (h1 : (a1 < (a0 : Int))) : ((900 + a1) < (((2400 : Nat) : Int) : Int)) := by omega
theorem ow_87_22 {a0 a1 a2 : Int} (h0 : (a0 = (a1 : Int))) (h1 : (a2 = (a0 : Int))) : (a2 = (a1 : Int)) := by omega
theorem ow_87_23 {a0 : Int} (h0 : ((0 ≤ (a0 : Int)) ∧ (a0 ≤ (362 : Int)))) : ((-2147483648) ≤ (a0 : Int)) := by omega
theorem ow_87_24 {a0 : Int} (h0 : ((0 ≤ (a0 : Int)) ∧ (a0 ≤ (362 : Int)))) : (a0 ≤ (2147483647 : Int)) := by omega
theorem ow_87_25 {a0 a1 : Int} (h0 : ((0 ≤ (a0 : Int)) ∧ (a0 ≤ (181 : Int)))) (h1 : ((0 ≤ (a1 : Int)) ∧ (a1 ≤ (181 : Int)))) : ((-2147483648) ≤ ((a0 + a1) : Int)) := by omega
theorem ow_87_26 {a0 a1 : Int} (h0 : ((0 ≤ (a0 : Int)) ∧ (a0 ≤ (181 : Int)))) (h1 : ((0 ≤ (a1 : Int)) ∧ (a1 ≤ (181 : Int)))) : ((a0 + a1) ≤ (2147483647 : Int)) := by omega
theorem ow_87_27 {a0 : Int} (h0 : ((0 ≤ (a0 : Int)) ∧ (a0 ≤ (181 : Int)))) : ((-2147483648) ≤ (a0 : Int)) := by omega
theorem ow_87_28 {a0 : Int} (h0 : ((0 ≤ (a0 : Int)) ∧ (a0 ≤ (181 : Int)))) : (a0 ≤ (2147483647 : Int)) := by omega
theorem ow_87_29 {a0 : Int} (h0 : ((0 ≤ (a0 : Int)) ∧ (a0 ≤ (362 : Int)))) : (0 ≤ (a0 : Int)) := by omega
theorem ow_87_30 {a0 : Int} (h0 : (a0 ≤ (1 : Int))) : (a0 ≤ (600 : Int)) := by omega
theorem ow_87_31 {a0 : Int} (h0 : ((0 ≤ (a0 : Int)) ∧ (a0 ≤ (362 : Int)))) : ((((1200 + a0) - 1) : Int).toNat < (2400 : Nat)) := by omega
theorem ow_87_32 {a0 : Int} (h0 : (1 < (a0 : Int))) : (0 ≤ (((1200 + a0) - 1) : Int)) := by omega
theorem ow_87_33 {a0 : Int} (h0 : ((0 ≤ (a0 : Int)) ∧ (a0 ≤ (362 : Int)))) : (((1200 + a0) - 1) < (((2400 : Nat) : Int) : Int)) := by omega
theorem ow_87_34 {a0 : Int} (h0 : ((0 ≤ (a0 : Int)) ∧ (a0 ≤ (9999 : Int)))) : ((-2147483648) ≤ (a0 : Int)) := by omega
theorem ow_87_35 {a0 : Int} (h0 : ((0 ≤ (a0 : Int)) ∧ (a0 ≤ (9999 : Int)))) : (a0 ≤ (2147483647 : Int)) := by omega
theorem ow_87_36 {a0 : Int} (h0 : (1 < (a0 : Int))) : (0 ≤ (a0 : Int)) := by omega
theorem ow_87_37 {a0 : Int} (h0 : ((0 ≤ (a0 : Int)) ∧ (a0 ≤ (362 : Int)))) : (a0 ≤ (600 : Int)) := by omega
theorem ow_87_38 {a0 a2 : Int} {k1 : Nat} (h0 : (((a0 - 0) : Int).toNat = (k1 : Nat))) (h1 : (1 < (a0 : Int))) (h2 : ((a0 + (-1)) = (a2 : Int))) : (((a2 - 0) : Int).toNat < (k1 : Nat)) := by omega
theorem ow_87_39 {a0 a1 : Int} (h0 : (1 < (a0 : Int))) (h1 : ((a0 + (-1)) = (a1 : Int))) : (0 ≤ (a1 : Int)) := by omega
theorem ow_87_40 {a0 a1 : Int} (h0 : ((0 ≤ (a0 : Int)) ∧ (a0 ≤ (362 : Int)))) (h1 : ((a0 + (-1)) = (a1 : Int))) : (a1 ≤ (362 : Int)) := by omega
theorem ow_87_41 {a0 a1 : Int} (h0 : ((0 ≤ (a0 : Int)) ∧ (a0 ≤ (181 : Int)))) (h1 : ((0 ≤ (a1 : Int)) ∧ (a1 ≤ (181 : Int)))) : (0 ≤ ((a0 + a1) : Int)) := by omega
theorem ow_87_42 {a0 a1 a2 : Int} (h0 : ((0 ≤ (a0 : Int)) ∧ (a0 ≤ (362 : Int)))) (h1 : ((a1 + a2) ≤ (a0 : Int))) : ((a1 + a2) ≤ (362 : Int)) := by omega
theorem ow_87_43 {a0 : Int} (h0 : ((0 ≤ (a0 : Int)) ∧ (a0 ≤ (182 : Int)))) : ((-2147483648) ≤ (a0 : Int)) := by omega
theorem ow_87_44 {a0 : Int} (h0 : ((0 ≤ (a0 : Int)) ∧ (a0 ≤ (182 : Int)))) : (a0 ≤ (2147483647 : Int)) := by omega
theorem ow_87_45 {a0 a1 : Int} (h0 : ((0 ≤ (a0 : Int)) ∧ (a0 ≤ (181 : Int)))) (h1 : ((0 ≤ (a1 : Int)) ∧ (a1 ≤ (182 : Int)))) : ((((1200 + a0) + a1) : Int).toNat < (2400 : Nat)) := by omega
theorem ow_87_46 {a0 a1 : Int} (h0 : ((0 ≤ (a0 : Int)) ∧ (a0 ≤ (181 : Int)))) (h1 : ((0 ≤ (a1 : Int)) ∧ (a1 ≤ (182 : Int)))) : (0 ≤ (((1200 + a0) + a1) : Int)) := by omega
theorem ow_87_47 {a0 a1 : Int} (h0 : ((0 ≤ (a0 : Int)) ∧ (a0 ≤ (181 : Int)))) (h1 : ((0 ≤ (a1 : Int)) ∧ (a1 ≤ (182 : Int)))) : (((1200 + a0) + a1) < (((2400 : Nat) : Int) : Int)) := by omega
theorem ow_87_48 {a0 a1 : Int} (h0 : (a0 < (a1 : Int))) (h1 : (a1 ≤ (a0 : Int))) : (a0 = (a1 : Int)) := by omega
theorem ow_87_49 {a0 a1 : Int} (h0 : (a0 < (a1 : Int))) : (a0 ≤ (a1 : Int)) := by omega
theorem ow_87_50 {a0 a1 a2 a3 : Int} (h0 : (a0 < (a1 : Int))) (h1 : (a1 ≤ (a0 : Int))) : (0 ≤ (((a2 + a3) + 0) : Int)) := by omega
theorem ow_87_51 {a0 a1 : Int} (h0 : ((0 ≤ (a0 : Int)) ∧ (a0 ≤ (9999 : Int)))) (h1 : ((0 ≤ (a1 : Int)) ∧ (a1 ≤ (9999 : Int)))) : ((-9223372036854775808) ≤ (((a1 + a0) + 0) : Int)) := by omega
theorem ow_87_52 {a0 a1 : Int} (h0 : ((0 ≤ (a0 : Int)) ∧ (a0 ≤ (9999 : Int)))) (h1 : (a1 = (0 : Int))) : (((a1 + a0) + 0) ≤ (9223372036854775807 : Int)) := by omega
theorem ow_87_53 {a0 a1 a2 : Int} {k3 : Nat} (h0 : (a0 < (a1 : Int))) (h1 : (a1 ≤ (a0 : Int))) : (((182 - a2) : Int).toNat < (k3 : Nat)) := by omega
theorem ow_87_54 {a0 a1 a2 a3 : Int} (h0 : (a0 < (a1 : Int))) (h1 : (a1 ≤ (a0 : Int))) : (0 ≤ ((((a2 + a3) + 0) / 10000) : Int)) := by omega
theorem ow_87_55 {a0 a1 : Int} (h0 : ((0 ≤ (a0 : Int)) ∧ (a0 ≤ (9999 : Int)))) (h1 : (a1 = (0 : Int))) : ((((a1 + a0) + 0) / 10000) ≤ (9999 : Int)) := by omega
theorem ow_87_56 {a0 a1 : Int} (h0 : ((0 ≤ (a0 : Int)) ∧ (a0 ≤ (182 : Int)))) (h1 : ((a0 + 1) = (a1 : Int))) : (0 ≤ (a1 : Int)) := by omega
theorem ow_87_57 {a0 a1 a2 : Int} (h0 : ((0 ≤ (a0 : Int)) ∧ (a0 ≤ (181 : Int)))) (h1 : (a1 < (a0 : Int))) (h2 : ((a1 + 1) = (a2 : Int))) : (a2 ≤ (182 : Int)) := by omega
theorem ow_87_58 {a0 a1 a2 : Int} (h0 : (a0 < (a1 : Int))) (h1 : ((a0 + 1) = (a2 : Int))) : (a2 ≤ ((a1 + 1) : Int)) := by omega
theorem ow_87_59 {a0 a1 a2 a3 a4 : Int} (h0 : (a0 < (a1 : Int))) (h1 : (a1 ≤ (a0 : Int))) : ((((a2 + a3) + 0) / 10000) ≤ ((9999 * ((a1 + 1) - a4)) : Int)) := by omega
theorem ow_87_60 {a0 a1 : Int} : (0 ≤ ((((a0 + a1) + 0) % 10000) : Int)) := by omega
theorem ow_87_61 {a0 a1 : Int} : ((((a0 + a1) + 0) % 10000) ≤ (9999 : Int)) := by omega
theorem ow_87_62 {a0 a1 a3 : Int} {k2 : Nat} (h0 : (a0 < (a1 : Int))) (h1 : (a1 ≤ (a0 : Int))) : ((1200 + k2) ≠ ((((1200 + a3) + a0) : Int).toNat : Nat)) := by omega
theorem ow_87_63 {a0 a1 a2 : Int} (h0 : (a0 < (a1 : Int))) (h1 : (a1 ≤ (a0 : Int))) : ((((1200 + a2) + a1) : Int).toNat ≠ ((((1200 + a2) + a0) : Int).toNat : Nat)) := by omega
theorem ow_87_64 {a0 : Int} (h0 : ((0 ≤ (a0 : Int)) ∧ (a0 ≤ (181 : Int)))) : (((0 + a0) : Int).toNat < (2400 : Nat)) := by omega
theorem ow_87_65 {a0 : Int} (h0 : ((0 ≤ (a0 : Int)) ∧ (a0 ≤ (181 : Int)))) : (0 ≤ ((0 + a0) : Int)) := by omega
theorem ow_87_66 {a0 : Int} (h0 : ((0 ≤ (a0 : Int)) ∧ (a0 ≤ (181 : Int)))) : ((0 + a0) < (((2400 : Nat) : Int) : Int)) := by omega
theorem ow_87_67 {a0 : Int} (h0 : ((0 ≤ (a0 : Int)) ∧ (a0 ≤ (182 : Int)))) : (((900 + a0) : Int).toNat < (2400 : Nat)) := by omega
theorem ow_87_68 {a0 : Int} (h0 : ((0 ≤ (a0 : Int)) ∧ (a0 ≤ (182 : Int)))) : (0 ≤ ((900 + a0) : Int)) := by omega
theorem ow_87_69 {a0 : Int} (h0 : ((0 ≤ (a0 : Int)) ∧ (a0 ≤ (182 : Int)))) : ((900 + a0) < (((2400 : Nat) : Int) : Int)) := by omega
theorem ow_87_70 {a0 a1 a2 : Int} (h0 : ((0 ≤ (a0 : Int)) ∧ (a0 ≤ (9999 : Int)))) (h1 : ((0 ≤ (a1 : Int)) ∧ (a1 ≤ (9999 : Int)))) (h2 : ((0 ≤ (a2 : Int)) ∧ (a2 ≤ (99980001 : Int)))) : (0 ≤ (((a1 + a0) + a2) : Int)) := by omega
theorem ow_87_71 {a0 a1 a2 : Int} (h0 : ((0 ≤ (a0 : Int)) ∧ (a0 ≤ (9999 : Int)))) (h1 : ((0 ≤ (a1 : Int)) ∧ (a1 ≤ (9999 : Int)))) (h2 : ((0 ≤ (a2 : Int)) ∧ (a2 ≤ (99980001 : Int)))) : ((-9223372036854775808) ≤ (((a1 + a0) + a2) : Int)) := by omega
theorem ow_87_72 {a0 a1 a2 : Int} (h0 : ((0 ≤ (a0 : Int)) ∧ (a0 ≤ (9999 : Int)))) (h1 : ((0 ≤ (a1 : Int)) ∧ (a1 ≤ (9999 : Int)))) (h2 : ((0 ≤ (a2 : Int)) ∧ (a2 ≤ (99980001 : Int)))) : (((a1 + a0) + a2) ≤ (9223372036854775807 : Int)) := by omega
theorem ow_87_73 {a0 a1 a3 : Int} {k2 : Nat} (h0 : ((0 ≤ (a0 : Int)) ∧ (a0 ≤ (181 : Int)))) (h1 : (((182 - a1) : Int).toNat = (k2 : Nat))) (h2 : (a1 < (a0 : Int))) (h3 : ((a1 + 1) = (a3 : Int))) : (((182 - a3) : Int).toNat < (k2 : Nat)) := by omega
theorem ow_87_74 {a0 a1 a2 : Int} (h0 : ((0 ≤ (a0 : Int)) ∧ (a0 ≤ (9999 : Int)))) (h1 : ((0 ≤ (a1 : Int)) ∧ (a1 ≤ (9999 : Int)))) (h2 : ((0 ≤ (a2 : Int)) ∧ (a2 ≤ (99980001 : Int)))) : (0 ≤ ((((a1 + a0) + a2) / 10000) : Int)) := by omega
theorem ow_87_75 {a0 a1 a2 : Int} (h0 : ((0 ≤ (a0 : Int)) ∧ (a0 ≤ (9999 : Int)))) (h1 : ((0 ≤ (a1 : Int)) ∧ (a1 ≤ (9999 : Int)))) (h2 : ((0 ≤ (a2 : Int)) ∧ (a2 ≤ (99980001 : Int)))) : ((((a1 + a0) + a2) / 10000) ≤ (9999 : Int)) := by omega
theorem ow_87_76 {a0 a1 a2 : Int} : (0 ≤ ((((a0 + a1) + a2) % 10000) : Int)) := by omega
theorem ow_87_77 {a0 a1 a2 : Int} : ((((a0 + a1) + a2) % 10000) ≤ (9999 : Int)) := by omega
theorem ow_87_78 {a0 a1 a2 : Int} {k3 : Nat} (h0 : (a0 < (a1 : Int))) (h1 : (((a2 + a1) + 1) ≤ (((k3 : Nat) : Int) : Int))) : ((1200 + k3) ≠ ((((1200 + a2) + a0) : Int).toNat : Nat)) := by omega
theorem ow_87_79 {a0 a1 a2 : Int} (h0 : ((0 ≤ (a0 : Int)) ∧ (a0 ≤ (181 : Int)))) (h1 : ((0 ≤ (a1 : Int)) ∧ (a1 ≤ (182 : Int)))) (h2 : (a1 < (a2 : Int))) : ((((1200 + a0) + a2) : Int).toNat ≠ ((((1200 + a0) + a1) : Int).toNat : Nat)) := by omega
theorem ow_87_80 {a0 : Int} (h0 : ((0 ≤ (a0 : Int)) ∧ (a0 ≤ (9999 : Int)))) : ((-9223372036854775808) ≤ (a0 : Int)) := by omega
theorem ow_87_81 {a0 : Int} (h0 : ((0 ≤ (a0 : Int)) ∧ (a0 ≤ (9999 : Int)))) : (a0 ≤ (9223372036854775807 : Int)) := by omega
theorem ow_87_82 {a0 a1 : Int} (h0 : (((a0 = (1 : Int)) ∧ (0 < (a1 : Int))) ∨ (((a0 = (0 : Int)) ∧ (a1 = (0 : Int))) ∨ ((a0 = ((-1) : Int)) ∧ (a1 < (0 : Int)))))) : ((-2147483648) ≤ (a0 : Int)) := by omega
theorem ow_87_83 {a0 a1 : Int} (h0 : (((a0 = (1 : Int)) ∧ (0 < (a1 : Int))) ∨ (((a0 = (0 : Int)) ∧ (a1 = (0 : Int))) ∨ ((a0 = ((-1) : Int)) ∧ (a1 < (0 : Int)))))) : (a0 ≤ (2147483647 : Int)) := by omega
theorem ow_87_84 {a0 a1 a3 : Int} {k2 : Nat} (h0 : ((0 ≤ (a0 : Int)) ∧ (a0 ≤ (181 : Int)))) (h1 : (((181 - a1) : Int).toNat = (k2 : Nat))) (h2 : (a1 < (a0 : Int))) (h3 : ((a1 + 1) = (a3 : Int))) : (((181 - a3) : Int).toNat < (k2 : Nat)) := by omega
theorem ow_87_85 {a0 a1 : Int} (h0 : ((0 ≤ (a0 : Int)) ∧ (a0 ≤ (181 : Int)))) (h1 : ((a0 + 1) = (a1 : Int))) : (0 ≤ (a1 : Int)) := by omega
theorem ow_87_86 {a0 a1 a2 : Int} (h0 : ((0 ≤ (a0 : Int)) ∧ (a0 ≤ (181 : Int)))) (h1 : (a1 < (a0 : Int))) (h2 : ((a1 + 1) = (a2 : Int))) : (a2 ≤ (181 : Int)) := by omega
theorem ow_87_87 {a0 a1 a2 : Int} {k3 : Nat} (h0 : ((a0 + 1) = (a1 : Int))) (h1 : ((a1 + a2) ≤ (((k3 : Nat) : Int) : Int))) : (((a0 + a2) + 1) ≤ (((k3 : Nat) : Int) : Int)) := by omega
theorem ow_87_88 {a0 a1 a2 a3 : Int} (h0 : (a0 ≤ ((9999 * ((a1 + 1) - a2)) : Int))) (h1 : (a1 ≤ (a2 : Int))) (h2 : (((a3 = (1 : Int)) ∧ (0 < (a0 : Int))) ∨ (((a3 = (0 : Int)) ∧ (a0 = (0 : Int))) ∨ ((a3 = ((-1) : Int)) ∧ (a0 < (0 : Int)))))) (h3 : (0 < (a3 : Int))) : (a2 = (a1 : Int)) := by omega
theorem ow_87_89 {a0 a1 : Int} (h0 : (a0 = (a1 : Int))) : (a0 ≤ (a1 : Int)) := by omega
theorem ow_87_90 {a0 a1 : Int} (h0 : ((0 ≤ (a0 : Int)) ∧ (a0 ≤ (9999 : Int)))) (h1 : ((0 ≤ (a1 : Int)) ∧ (a1 ≤ (9999 : Int)))) : (0 ≤ (((a1 + a0) + 0) : Int)) := by omega
theorem ow_87_91 {a0 a1 a2 a4 a5 : Int} {k3 : Nat} (h0 : ((0 ≤ (a0 : Int)) ∧ (a0 ≤ (181 : Int)))) (h1 : (a1 ≤ ((9999 * ((a0 + 1) - a2)) : Int))) (h2 : (((182 - a2) : Int).toNat = (k3 : Nat))) (h3 : (((a4 = (1 : Int)) ∧ (0 < (a1 : Int))) ∨ (((a4 = (0 : Int)) ∧ (a1 = (0 : Int))) ∨ ((a4 = ((-1) : Int)) ∧ (a1 < (0 : Int)))))) (h4 : (0 < (a4 : Int))) (h5 : ((a2 + 1) = (a5 : Int))) : (((182 - a5) : Int).toNat < (k3 : Nat)) := by omega
theorem ow_87_92 {a0 a1 : Int} (h0 : ((0 ≤ (a0 : Int)) ∧ (a0 ≤ (9999 : Int)))) (h1 : ((0 ≤ (a1 : Int)) ∧ (a1 ≤ (9999 : Int)))) : (0 ≤ ((((a1 + a0) + 0) / 10000) : Int)) := by omega
theorem ow_87_93 {a0 a1 a2 a3 a4 : Int} (h0 : ((0 ≤ (a0 : Int)) ∧ (a0 ≤ (181 : Int)))) (h1 : (a1 ≤ ((9999 * ((a0 + 1) - a2)) : Int))) (h2 : (((a3 = (1 : Int)) ∧ (0 < (a1 : Int))) ∨ (((a3 = (0 : Int)) ∧ (a1 = (0 : Int))) ∨ ((a3 = ((-1) : Int)) ∧ (a1 < (0 : Int)))))) (h3 : (0 < (a3 : Int))) (h4 : ((a2 + 1) = (a4 : Int))) : (a4 ≤ (182 : Int)) := by omega
theorem ow_87_94 {a0 a1 a2 a3 a4 : Int} (h0 : (a0 ≤ ((9999 * ((a1 + 1) - a2)) : Int))) (h1 : (((a3 = (1 : Int)) ∧ (0 < (a0 : Int))) ∨ (((a3 = (0 : Int)) ∧ (a0 = (0 : Int))) ∨ ((a3 = ((-1) : Int)) ∧ (a0 < (0 : Int)))))) (h2 : (0 < (a3 : Int))) (h3 : ((a2 + 1) = (a4 : Int))) : (a4 ≤ ((a1 + 1) : Int)) := by omega
theorem ow_87_95 {a0 a1 a2 a3 a4 : Int} {k5 : Nat} (h0 : (a0 ≤ ((9999 * ((a1 + 1) - a2)) : Int))) (h1 : (((a3 = (1 : Int)) ∧ (0 < (a0 : Int))) ∨ (((a3 = (0 : Int)) ∧ (a0 = (0 : Int))) ∨ ((a3 = ((-1) : Int)) ∧ (a0 < (0 : Int)))))) (h2 : (0 < (a3 : Int))) (h3 : (((a4 + a1) + 1) ≤ (((k5 : Nat) : Int) : Int))) : ((1200 + k5) ≠ ((((1200 + a4) + a2) : Int).toNat : Nat)) := by omega
theorem ow_87_96 {a0 a1 a2 a3 : Int} (h0 : (a0 ≤ (a1 : Int))) (h1 : ((a1 + 1) = (a2 : Int))) (h2 : (a2 ≤ (a0 : Int))) : ((((1200 + a3) + a0) : Int).toNat ≠ ((((1200 + a3) + a1) : Int).toNat : Nat)) := by omega
theorem ow_87_97 {a0 a1 a2 : Int} (h0 : ((a0 + 1) = (a1 : Int))) (h1 : (a1 ≤ (a2 : Int))) : (a0 ≤ (a2 : Int)) := by omega
theorem ow_87_98 {a0 a1 a2 : Int} (h0 : (a0 ≤ (a1 : Int))) (h1 : (a1 < (a0 : Int))) : (((0 + a2) : Int).toNat < (2400 : Nat)) := by omega
theorem ow_87_99 {a0 a1 : Int} (h0 : (a0 ≤ (a1 : Int))) (h1 : (a1 < (a0 : Int))) : (((900 + a1) : Int).toNat < (2400 : Nat)) := by omega
theorem ow_87_100 {a0 a1 a2 a3 a4 : Int} (h0 : (a0 ≤ (a1 : Int))) (h1 : (a1 < (a0 : Int))) : (0 ≤ (((a2 + a3) + a4) : Int)) := by omega
theorem ow_87_101 {a0 a1 a2 : Int} {k3 : Nat} (h0 : (a0 ≤ (a1 : Int))) (h1 : (a1 < (a0 : Int))) : (((182 - a2) : Int).toNat < (k3 : Nat)) := by omega
theorem ow_87_102 {a0 a1 a2 a3 a4 : Int} (h0 : (a0 ≤ (a1 : Int))) (h1 : (a1 < (a0 : Int))) : (0 ≤ ((((a2 + a3) + a4) / 10000) : Int)) := by omega
theorem ow_87_103 {a0 a1 a2 a3 a4 : Int} (h0 : (a0 ≤ (a1 : Int))) (h1 : (a1 < (a0 : Int))) : ((((a2 + a3) + a4) / 10000) ≤ (9999 : Int)) := by omega
theorem ow_87_104 {a0 a1 a2 a3 a4 a5 : Int} (h0 : (a0 ≤ (a1 : Int))) (h1 : (a1 < (a0 : Int))) : ((((a2 + a3) + a4) / 10000) ≤ ((9999 * ((a0 + 1) - a5)) : Int)) := by omega
theorem ow_87_105 {a0 a1 a3 : Int} {k2 : Nat} (h0 : (a0 ≤ (a1 : Int))) (h1 : (a1 < (a0 : Int))) : ((1200 + k2) ≠ ((((1200 + a3) + a1) : Int).toNat : Nat)) := by omega
theorem ow_87_106 {a0 a1 a2 : Int} (h0 : (a0 ≤ (a1 : Int))) (h1 : (a1 < (a0 : Int))) : ((((1200 + a2) + a0) : Int).toNat ≠ ((((1200 + a2) + a1) : Int).toNat : Nat)) := by omega
theorem ow_87_107 {a0 : Int} (h0 : ((0 ≤ (a0 : Int)) ∧ (a0 ≤ (181 : Int)))) : (0 ≤ ((a0 + 1) : Int)) := by omega
theorem ow_87_108 {a0 : Int} (h0 : ((0 ≤ (a0 : Int)) ∧ (a0 ≤ (181 : Int)))) : (0 ≤ ((9999 * ((a0 + 1) - 0)) : Int)) := by omega
theorem ow_87_109 {a0 a1 : Int} {k2 : Nat} (h0 : (((a0 + a1) + 1) ≤ (((k2 : Nat) : Int) : Int))) : ((a0 + a1) ≤ (((k2 : Nat) : Int) : Int)) := by omega
theorem ow_87_110 {a0 a1 : Int} : ((a0 + a1) ≤ (((((a0 + a1) : Int).toNat : Nat) : Int) : Int)) := by omega
theorem ow_87_111 {a0 a1 a2 : Int} (h0 : ((0 ≤ (a0 : Int)) ∧ (a0 ≤ (181 : Int)))) (h1 : ((0 ≤ (a1 : Int)) ∧ (a1 ≤ (181 : Int)))) (h2 : (a1 < (a2 : Int))) : (((((a1 + a0) : Int).toNat : Nat) : Int) < ((a2 + a0) : Int)) := by omega
theorem ow_87_112 {a0 a1 : Int} (h0 : ((0 ≤ (a0 : Int)) ∧ (a0 ≤ (181 : Int)))) (h1 : ((0 ≤ (a1 : Int)) ∧ (a1 ≤ (181 : Int)))) : ((((1200 + a1) + a0) : Int).toNat = ((1200 + ((a1 + a0) : Int).toNat) : Nat)) := by omega
theorem ow_87_113 {a0 a1 a2 : Int} {k3 : Nat} (h0 : ((a0 + a1) ≤ (a2 : Int))) (h1 : (((k3 : Nat) : Int) < ((a0 + a1) : Int))) : (((k3 : Nat) : Int) < (a2 : Int)) := by omega
theorem ow_87_114 {a0 : Int} (h0 : ((0 ≤ (a0 : Int)) ∧ (a0 ≤ (362 : Int)))) : (0 ≤ ((1200 + a0) : Int)) := by omega
theorem ow_87_115 {a0 : Int} (h0 : ((0 ≤ (a0 : Int)) ∧ (a0 ≤ (362 : Int)))) : ((1200 + a0) < (((2400 : Nat) : Int) : Int)) := by omega
theorem ow_87_116 {a0 a1 a2 a4 : Int} {k3 : Nat} (h0 : ((0 ≤ (a0 : Int)) ∧ (a0 ≤ (181 : Int)))) (h1 : ((0 ≤ (a1 : Int)) ∧ (a1 ≤ (181 : Int)))) (h2 : (((362 - a2) : Int).toNat = (k3 : Nat))) (h3 : (a2 < ((a0 + a1) : Int))) (h4 : ((a2 + 1) = (a4 : Int))) : (((362 - a4) : Int).toNat < (k3 : Nat)) := by omega
theorem ow_87_117 {a0 a1 : Int} (h0 : ((0 ≤ (a0 : Int)) ∧ (a0 ≤ (362 : Int)))) (h1 : ((a0 + 1) = (a1 : Int))) : (0 ≤ (a1 : Int)) := by omega
theorem ow_87_118 {a0 a1 a2 a3 : Int} (h0 : ((0 ≤ (a0 : Int)) ∧ (a0 ≤ (181 : Int)))) (h1 : ((0 ≤ (a1 : Int)) ∧ (a1 ≤ (181 : Int)))) (h2 : (a2 < ((a0 + a1) : Int))) (h3 : ((a2 + 1) = (a3 : Int))) : (a3 ≤ (362 : Int)) := by omega
theorem ow_87_119 {a0 a1 : Int} {k2 : Nat} (h0 : ((0 ≤ (a0 : Int)) ∧ (a0 ≤ (362 : Int)))) (h1 : ((a0 + 1) = (a1 : Int))) (h2 : (((k2 : Nat) : Int) < (a1 : Int))) (h3 : ¬(((1200 + k2) = (((1200 + a0) : Int).toNat : Nat)))) : (((k2 : Nat) : Int) < (a0 : Int)) := by omega
theorem ow_87_120 {k0 : Nat} (h0 : (((k0 : Nat) : Int) < (0 : Int))) : ¬((((k0 : Nat) : Int) < (0 : Int))) := by omega
theorem ow_87_121 {a0 a1 : Int} (h0 : ((0 ≤ (a0 : Int)) ∧ (a0 ≤ (181 : Int)))) (h1 : ((0 ≤ (a1 : Int)) ∧ (a1 ≤ (181 : Int)))) : ((-2147483648) ≤ ((a1 + a0) : Int)) := by omega
theorem ow_87_122 {a0 a1 : Int} (h0 : ((0 ≤ (a0 : Int)) ∧ (a0 ≤ (181 : Int)))) (h1 : ((0 ≤ (a1 : Int)) ∧ (a1 ≤ (181 : Int)))) : ((a1 + a0) ≤ (2147483647 : Int)) := by omega
theorem ow_87_123 {a0 : Int} (h0 : ((0 ≤ (a0 : Int)) ∧ (a0 ≤ (362 : Int)))) : ((((1500 + a0) - 1) : Int).toNat < (2400 : Nat)) := by omega
theorem ow_87_124 {a0 : Int} (h0 : (1 < (a0 : Int))) : (0 ≤ (((1500 + a0) - 1) : Int)) := by omega
theorem ow_87_125 {a0 : Int} (h0 : ((0 ≤ (a0 : Int)) ∧ (a0 ≤ (362 : Int)))) : (((1500 + a0) - 1) < (((2400 : Nat) : Int) : Int)) := by omega
theorem ow_87_126 {a0 a1 : Int} (h0 : ((0 ≤ (a0 : Int)) ∧ (a0 ≤ (181 : Int)))) (h1 : ((0 ≤ (a1 : Int)) ∧ (a1 ≤ (181 : Int)))) : (0 ≤ ((a1 + a0) : Int)) := by omega
theorem ow_87_127 {a0 a1 : Int} (h0 : ((0 ≤ (a0 : Int)) ∧ (a0 ≤ (181 : Int)))) (h1 : ((0 ≤ (a1 : Int)) ∧ (a1 ≤ (182 : Int)))) : ((((1500 + a0) + a1) : Int).toNat < (2400 : Nat)) := by omega
theorem ow_87_128 {a0 a1 : Int} (h0 : ((0 ≤ (a0 : Int)) ∧ (a0 ≤ (181 : Int)))) (h1 : ((0 ≤ (a1 : Int)) ∧ (a1 ≤ (182 : Int)))) : (0 ≤ (((1500 + a0) + a1) : Int)) := by omega
theorem ow_87_129 {a0 a1 : Int} (h0 : ((0 ≤ (a0 : Int)) ∧ (a0 ≤ (181 : Int)))) (h1 : ((0 ≤ (a1 : Int)) ∧ (a1 ≤ (182 : Int)))) : (((1500 + a0) + a1) < (((2400 : Nat) : Int) : Int)) := by omega
theorem ow_87_130 {a0 a1 a3 : Int} {k2 : Nat} (h0 : (a0 < (a1 : Int))) (h1 : (a1 ≤ (a0 : Int))) : ((1500 + k2) ≠ ((((1500 + a3) + a0) : Int).toNat : Nat)) := by omega
theorem ow_87_131 {a0 a1 a2 : Int} (h0 : (a0 < (a1 : Int))) (h1 : (a1 ≤ (a0 : Int))) : ((((1500 + a2) + a1) : Int).toNat ≠ ((((1500 + a2) + a0) : Int).toNat : Nat)) := by omega
theorem ow_87_132 {a0 : Int} (h0 : ((0 ≤ (a0 : Int)) ∧ (a0 ≤ (181 : Int)))) : (((600 + a0) : Int).toNat < (2400 : Nat)) := by omega
theorem ow_87_133 {a0 : Int} (h0 : ((0 ≤ (a0 : Int)) ∧ (a0 ≤ (181 : Int)))) : (0 ≤ ((600 + a0) : Int)) := by omega
theorem ow_87_134 {a0 : Int} (h0 : ((0 ≤ (a0 : Int)) ∧ (a0 ≤ (181 : Int)))) : ((600 + a0) < (((2400 : Nat) : Int) : Int)) := by omega
theorem ow_87_135 {a0 : Int} (h0 : ((0 ≤ (a0 : Int)) ∧ (a0 ≤ (182 : Int)))) : (((300 + a0) : Int).toNat < (2400 : Nat)) := by omega
theorem ow_87_136 {a0 : Int} (h0 : ((0 ≤ (a0 : Int)) ∧ (a0 ≤ (182 : Int)))) : (0 ≤ ((300 + a0) : Int)) := by omega
theorem ow_87_137 {a0 : Int} (h0 : ((0 ≤ (a0 : Int)) ∧ (a0 ≤ (182 : Int)))) : ((300 + a0) < (((2400 : Nat) : Int) : Int)) := by omega
theorem ow_87_138 {a0 a1 a2 : Int} {k3 : Nat} (h0 : (a0 < (a1 : Int))) (h1 : (((a2 + a1) + 1) ≤ (((k3 : Nat) : Int) : Int))) : ((1500 + k3) ≠ ((((1500 + a2) + a0) : Int).toNat : Nat)) := by omega
theorem ow_87_139 {a0 a1 a2 : Int} (h0 : ((0 ≤ (a0 : Int)) ∧ (a0 ≤ (181 : Int)))) (h1 : ((0 ≤ (a1 : Int)) ∧ (a1 ≤ (182 : Int)))) (h2 : (a1 < (a2 : Int))) : ((((1500 + a0) + a2) : Int).toNat ≠ ((((1500 + a0) + a1) : Int).toNat : Nat)) := by omega
theorem ow_87_140 {a0 a1 a2 a3 a4 : Int} {k5 : Nat} (h0 : (a0 ≤ ((9999 * ((a1 + 1) - a2)) : Int))) (h1 : (((a3 = (1 : Int)) ∧ (0 < (a0 : Int))) ∨ (((a3 = (0 : Int)) ∧ (a0 = (0 : Int))) ∨ ((a3 = ((-1) : Int)) ∧ (a0 < (0 : Int)))))) (h2 : (0 < (a3 : Int))) (h3 : (((a4 + a1) + 1) ≤ (((k5 : Nat) : Int) : Int))) : ((1500 + k5) ≠ ((((1500 + a4) + a2) : Int).toNat : Nat)) := by omega
theorem ow_87_141 {a0 a1 a2 a3 : Int} (h0 : (a0 ≤ (a1 : Int))) (h1 : ((a1 + 1) = (a2 : Int))) (h2 : (a2 ≤ (a0 : Int))) : ((((1500 + a3) + a0) : Int).toNat ≠ ((((1500 + a3) + a1) : Int).toNat : Nat)) := by omega
theorem ow_87_142 {a0 a1 a2 : Int} (h0 : (a0 ≤ (a1 : Int))) (h1 : (a1 < (a0 : Int))) : (((600 + a2) : Int).toNat < (2400 : Nat)) := by omega
theorem ow_87_143 {a0 a1 : Int} (h0 : (a0 ≤ (a1 : Int))) (h1 : (a1 < (a0 : Int))) : (((300 + a1) : Int).toNat < (2400 : Nat)) := by omega
theorem ow_87_144 {a0 a1 a3 : Int} {k2 : Nat} (h0 : (a0 ≤ (a1 : Int))) (h1 : (a1 < (a0 : Int))) : ((1500 + k2) ≠ ((((1500 + a3) + a1) : Int).toNat : Nat)) := by omega
theorem ow_87_145 {a0 a1 a2 : Int} (h0 : (a0 ≤ (a1 : Int))) (h1 : (a1 < (a0 : Int))) : ((((1500 + a2) + a0) : Int).toNat ≠ ((((1500 + a2) + a1) : Int).toNat : Nat)) := by omega
theorem ow_87_146 {a0 a1 : Int} (h0 : ((0 ≤ (a0 : Int)) ∧ (a0 ≤ (181 : Int)))) (h1 : ((0 ≤ (a1 : Int)) ∧ (a1 ≤ (181 : Int)))) : ((((1500 + a1) + a0) : Int).toNat = ((1500 + ((a1 + a0) : Int).toNat) : Nat)) := by omega
theorem ow_87_147 {a0 : Int} (h0 : ((0 ≤ (a0 : Int)) ∧ (a0 ≤ (362 : Int)))) : (0 ≤ ((1500 + a0) : Int)) := by omega
theorem ow_87_148 {a0 : Int} (h0 : ((0 ≤ (a0 : Int)) ∧ (a0 ≤ (362 : Int)))) : ((1500 + a0) < (((2400 : Nat) : Int) : Int)) := by omega
theorem ow_87_149 {a0 a1 a2 a4 : Int} {k3 : Nat} (h0 : ((0 ≤ (a0 : Int)) ∧ (a0 ≤ (181 : Int)))) (h1 : ((0 ≤ (a1 : Int)) ∧ (a1 ≤ (181 : Int)))) (h2 : (((362 - a2) : Int).toNat = (k3 : Nat))) (h3 : (a2 < ((a1 + a0) : Int))) (h4 : ((a2 + 1) = (a4 : Int))) : (((362 - a4) : Int).toNat < (k3 : Nat)) := by omega
theorem ow_87_150 {a0 a1 a2 a3 : Int} (h0 : ((0 ≤ (a0 : Int)) ∧ (a0 ≤ (181 : Int)))) (h1 : ((0 ≤ (a1 : Int)) ∧ (a1 ≤ (181 : Int)))) (h2 : (a2 < ((a1 + a0) : Int))) (h3 : ((a2 + 1) = (a3 : Int))) : (a3 ≤ (362 : Int)) := by omega
theorem ow_87_151 {a0 a1 : Int} {k2 : Nat} (h0 : ((0 ≤ (a0 : Int)) ∧ (a0 ≤ (362 : Int)))) (h1 : ((a0 + 1) = (a1 : Int))) (h2 : (((k2 : Nat) : Int) < (a1 : Int))) (h3 : ¬(((1500 + k2) = (((1500 + a0) : Int).toNat : Nat)))) : (((k2 : Nat) : Int) < (a0 : Int)) := by omega
theorem ow_87_152 {a0 : Int} (h0 : (((-1) ≤ (a0 : Int)) ∧ (a0 ≤ (599 : Int)))) : ((-2147483648) ≤ (a0 : Int)) := by omega
theorem ow_87_153 {a0 : Int} (h0 : (((-1) ≤ (a0 : Int)) ∧ (a0 ≤ (599 : Int)))) : (a0 ≤ (2147483647 : Int)) := by omega
theorem ow_87_154 : ((-1) ≤ (0 : Int)) := by omega
theorem ow_87_155 : (0 ≤ (1 : Int)) := by omega
theorem ow_87_156 {a0 : Int} (h0 : (((-1) ≤ (a0 : Int)) ∧ (a0 ≤ (599 : Int)))) : (((1200 + a0) : Int).toNat < (2400 : Nat)) := by omega
theorem ow_87_157 {a0 : Int} (h0 : (0 ≤ (a0 : Int))) : (0 ≤ ((1200 + a0) : Int)) := by omega
theorem ow_87_158 {a0 : Int} (h0 : (((-1) ≤ (a0 : Int)) ∧ (a0 ≤ (599 : Int)))) : ((1200 + a0) < (((2400 : Nat) : Int) : Int)) := by omega
theorem ow_87_159 {a0 : Int} (h0 : (((-1) ≤ (a0 : Int)) ∧ (a0 ≤ (599 : Int)))) : (((1500 + a0) : Int).toNat < (2400 : Nat)) := by omega
theorem ow_87_160 {a0 : Int} (h0 : (0 ≤ (a0 : Int))) : (0 ≤ ((1500 + a0) : Int)) := by omega
theorem ow_87_161 {a0 : Int} (h0 : (((-1) ≤ (a0 : Int)) ∧ (a0 ≤ (599 : Int)))) : ((1500 + a0) < (((2400 : Nat) : Int) : Int)) := by omega
theorem ow_87_162 {a0 a2 : Int} {k1 : Nat} (h0 : (((a0 - (-1)) : Int).toNat = (k1 : Nat))) (h1 : (0 ≤ (a0 : Int))) (h2 : ((a0 + (-1)) = (a2 : Int))) : (((a2 - (-1)) : Int).toNat < (k1 : Nat)) := by omega
theorem ow_87_163 {a0 a1 : Int} (h0 : (0 ≤ (a0 : Int))) (h1 : ((a0 + (-1)) = (a1 : Int))) : ((-1) ≤ (a1 : Int)) := by omega
theorem ow_87_164 {a0 a1 : Int} (h0 : (((-1) ≤ (a0 : Int)) ∧ (a0 ≤ (599 : Int)))) (h1 : ((a0 + (-1)) = (a1 : Int))) : (a1 ≤ (599 : Int)) := by omega
theorem ow_87_165 : ((-1) ≤ (1 : Int)) := by omega
theorem ow_87_166 : (1 ≤ (1 : Int)) := by omega
theorem ow_87_167 : ((-1) ≤ ((-1) : Int)) := by omega
theorem ow_87_168 {a0 : Int} (h0 : ((0 ≤ (a0 : Int)) ∧ (a0 ≤ (600 : Int)))) : ((-1) ≤ ((a0 - 1) : Int)) := by omega
theorem ow_87_169 {a0 : Int} (h0 : ((0 ≤ (a0 : Int)) ∧ (a0 ≤ (600 : Int)))) : ((a0 - 1) ≤ (599 : Int)) := by omega
theorem ow_87_170 {a0 : Int} (h0 : ((0 ≤ (a0 : Int)) ∧ (a0 ≤ (181 : Int)))) : (0 ≤ (a0 : Int)) := by omega
theorem ow_87_171 {a0 : Int} (h0 : ((0 ≤ (a0 : Int)) ∧ (a0 ≤ (181 : Int)))) : (a0 ≤ (181 : Int)) := by omega
theorem ow_87_172 {a0 a1 a2 a3 : Int} (h0 : ((0 ≤ (a0 : Int)) ∧ (a0 ≤ (181 : Int)))) (h1 : (a1 = (a0 : Int))) (h2 : (a2 = (a1 : Int))) (h3 : (a2 = (a3 : Int))) : (a3 ≤ (181 : Int)) := by omega
theorem ow_87_173 {a0 : Int} (h0 : (((-1) ≤ (a0 : Int)) ∧ (a0 ≤ (1 : Int)))) : ((-1) ≤ (a0 : Int)) := by omega
theorem ow_87_174 {a0 : Int} (h0 : (((-1) ≤ (a0 : Int)) ∧ (a0 ≤ (1 : Int)))) : (a0 ≤ (1 : Int)) := by omega
noncomputable def F_X12_copies_d0_2 (V0 : pm_M) : Int × pm_M := pf_let (V0 114 0) fun y1 => pf_let (V0 114 1) fun y4 => pf_let (V0 114 2) fun y7 => pf_let (V0 114 3) fun y10 => pf_let ((pm_up V0 114 (2 : Int).toNat y1)) fun V14 => pf_val ((0 : Int), V0) (fun (q : Int × pm_M) => match q with | (x23, V25) => ((if y1 ≤ x23 then ((.inr (0, V25))) else (pf_let (V25 113 ((0 + x23) : Int).toNat) fun y42 => pf_let (x23 + 1) fun x45 => (.inl (x45, (pm_up V25 113 ((600 + x23) : Int).toNat y42))))))) (0, V14)
theorem F_X12_copies_d0_2_eq (V0 : pm_M) : F_X12_copies_d0_2 V0 = pf_let (V0 114 0) fun y1 => pf_let (V0 114 1) fun y4 => pf_let (V0 114 2) fun y7 => pf_let (V0 114 3) fun y10 => pf_let ((pm_up V0 114 (2 : Int).toNat y1)) fun V14 => pf_val ((0 : Int), V0) (fun (q : Int × pm_M) => match q with | (x23, V25) => ((if y1 ≤ x23 then ((.inr (0, V25))) else (pf_let (V25 113 ((0 + x23) : Int).toNat) fun y42 => pf_let (x23 + 1) fun x45 => (.inl (x45, (pm_up V25 113 ((600 + x23) : Int).toNat y42))))))) (0, V14) := rfl
noncomputable def F_X12_copies_d1_3 (V0 : pm_M) : Int × pm_M := pf_let (V0 114 0) fun y1 => pf_let (V0 114 1) fun y4 => pf_let (V0 114 2) fun y7 => pf_let (V0 114 3) fun y10 => pf_let ((pm_up V0 114 (3 : Int).toNat y4)) fun V14 => pf_val ((0 : Int), V0) (fun (q : Int × pm_M) => match q with | (x23, V25) => ((if y4 ≤ x23 then ((.inr (0, V25))) else (pf_let (V25 113 ((300 + x23) : Int).toNat) fun y42 => pf_let (x23 + 1) fun x45 => (.inl (x45, (pm_up V25 113 ((900 + x23) : Int).toNat y42))))))) (0, V14)
theorem F_X12_copies_d1_3_eq (V0 : pm_M) : F_X12_copies_d1_3 V0 = pf_let (V0 114 0) fun y1 => pf_let (V0 114 1) fun y4 => pf_let (V0 114 2) fun y7 => pf_let (V0 114 3) fun y10 => pf_let ((pm_up V0 114 (3 : Int).toNat y4)) fun V14 => pf_val ((0 : Int), V0) (fun (q : Int × pm_M) => match q with | (x23, V25) => ((if y4 ≤ x23 then ((.inr (0, V25))) else (pf_let (V25 113 ((300 + x23) : Int).toNat) fun y42 => pf_let (x23 + 1) fun x45 => (.inl (x45, (pm_up V25 113 ((900 + x23) : Int).toNat y42))))))) (0, V14) := rfl
noncomputable def F_X12_keeps (V0 : pm_M) : Int × pm_M := pf_let (V0 114 0) fun y1 => pf_let (V0 114 1) fun y4 => pf_let (V0 114 2) fun y7 => pf_let (V0 114 3) fun y10 => pf_call (F_X12_copies_d0_2  V0) fun _ V14 => pf_let (V14 114 0) fun y24 => pf_let (V14 114 1) fun y27 => pf_let (V14 114 2) fun y30 => pf_let (V14 114 3) fun y33 => pf_call (F_X12_copies_d1_3  V14) fun _ V37 => pf_let (V37 114 0) fun y47 => pf_let (V37 114 1) fun y50 => pf_let (V37 114 2) fun y53 => pf_let (V37 114 3) fun y56 => (0, V37)
theorem F_X12_keeps_eq (V0 : pm_M) : F_X12_keeps V0 = pf_let (V0 114 0) fun y1 => pf_let (V0 114 1) fun y4 => pf_let (V0 114 2) fun y7 => pf_let (V0 114 3) fun y10 => pf_call (F_X12_copies_d0_2  V0) fun _ V14 => pf_let (V14 114 0) fun y24 => pf_let (V14 114 1) fun y27 => pf_let (V14 114 2) fun y30 => pf_let (V14 114 3) fun y33 => pf_call (F_X12_copies_d1_3  V14) fun _ V37 => pf_let (V37 114 0) fun y47 => pf_let (V37 114 1) fun y50 => pf_let (V37 114 2) fun y53 => pf_let (V37 114 3) fun y56 => (0, V37) := rfl
noncomputable def F_X12_joins_d0_3_4 (V0 : pm_M) : Int × pm_M := pf_let (V0 114 0) fun z0 => pf_let (V0 114 3) fun z1 => pf_let (V0 114 1) fun y1 => pf_let (V0 114 2) fun y4 => pf_val ((0 : Int), V0) (fun (q : Int × pm_M) => match q with | (x8, V10) => ((if (z0 + z1) ≤ x8 then (pf_val (.inr ((0 : Int), V0)) (fun (q : Int × pm_M) => match q with | (x27, V29) => ((if z0 ≤ x27 then (pf_val (.inr (.inr ((0 : Int), V0))) (fun (q : Int) => match q with | x46 => ((if x46 ≤ 1 then ((.inr (.inr (.inr (0, (pm_up V29 114 (4 : Int).toNat x46)))))) else (pf_let (V29 113 (((1200 + x46) - 1) : Int).toNat) fun y57 => (if ¬ (y57 = 0) then ((.inr (.inr (.inr (0, (pm_up V29 114 (4 : Int).toNat x46)))))) else (pf_let (x46 + (-1)) fun x61 => (.inl x61))))))) (z0 + z1)) else (pf_val (.inr (.inr ((0 : Int), V0))) (fun (q : Int × Int × pm_M) => match q with | (x63, x65, V69) => ((if x65 < z1 then (pf_let (V69 113 (((1200 + x27) + x65) : Int).toNat) fun y88 => (if z1 ≤ x65 then (pf_let (x65 + 1) fun x93 => (.inl ((((y88 + x63) + 0) / 10000), x93, (pm_up V69 113 (((1200 + x27) + x65) : Int).toNat (((y88 + x63) + 0) % 10000))))) else (pf_let (V69 113 ((0 + x27) : Int).toNat) fun y95 => pf_let (V69 113 ((900 + x65) : Int).toNat) fun y98 => pf_let ((y95 * y98)) fun y101 => pf_let (x65 + 1) fun x103 => (.inl ((((y88 + x63) + y101) / 10000), x103, (pm_up V69 113 (((1200 + x27) + x65) : Int).toNat (((y88 + x63) + y101) % 10000))))))) else (pf_let (pm_cmp x63 0) fun y105 => (if y105 ≤ 0 then (pf_let (x27 + 1) fun x108 => (.inr (.inl (x108, V69)))) else (pf_let (V69 113 (((1200 + x27) + x65) : Int).toNat) fun y111 => (if z1 ≤ x65 then (pf_let (x65 + 1) fun x116 => (.inl ((((y111 + x63) + 0) / 10000), x116, (pm_up V69 113 (((1200 + x27) + x65) : Int).toNat (((y111 + x63) + 0) % 10000))))) else (pf_let (V69 113 ((0 + x27) : Int).toNat) fun y118 => pf_let (V69 113 ((900 + x65) : Int).toNat) fun y121 => pf_let ((y118 * y121)) fun y124 => pf_let (x65 + 1) fun x126 => (.inl ((((y111 + x63) + y124) / 10000), x126, (pm_up V69 113 (((1200 + x27) + x65) : Int).toNat (((y111 + x63) + y124) % 10000)))))))))))) (0, 0, V29))))) (0, V10)) else (pf_let (x8 + 1) fun x129 => (.inl (x129, (pm_up V10 113 ((1200 + x8) : Int).toNat 0))))))) (0, V0)
theorem F_X12_joins_d0_3_4_eq (V0 : pm_M) : F_X12_joins_d0_3_4 V0 = pf_let (V0 114 0) fun z0 => pf_let (V0 114 3) fun z1 => pf_let (V0 114 1) fun y1 => pf_let (V0 114 2) fun y4 => pf_val ((0 : Int), V0) (fun (q : Int × pm_M) => match q with | (x8, V10) => ((if (z0 + z1) ≤ x8 then (pf_val (.inr ((0 : Int), V0)) (fun (q : Int × pm_M) => match q with | (x27, V29) => ((if z0 ≤ x27 then (pf_val (.inr (.inr ((0 : Int), V0))) (fun (q : Int) => match q with | x46 => ((if x46 ≤ 1 then ((.inr (.inr (.inr (0, (pm_up V29 114 (4 : Int).toNat x46)))))) else (pf_let (V29 113 (((1200 + x46) - 1) : Int).toNat) fun y57 => (if ¬ (y57 = 0) then ((.inr (.inr (.inr (0, (pm_up V29 114 (4 : Int).toNat x46)))))) else (pf_let (x46 + (-1)) fun x61 => (.inl x61))))))) (z0 + z1)) else (pf_val (.inr (.inr ((0 : Int), V0))) (fun (q : Int × Int × pm_M) => match q with | (x63, x65, V69) => ((if x65 < z1 then (pf_let (V69 113 (((1200 + x27) + x65) : Int).toNat) fun y88 => (if z1 ≤ x65 then (pf_let (x65 + 1) fun x93 => (.inl ((((y88 + x63) + 0) / 10000), x93, (pm_up V69 113 (((1200 + x27) + x65) : Int).toNat (((y88 + x63) + 0) % 10000))))) else (pf_let (V69 113 ((0 + x27) : Int).toNat) fun y95 => pf_let (V69 113 ((900 + x65) : Int).toNat) fun y98 => pf_let ((y95 * y98)) fun y101 => pf_let (x65 + 1) fun x103 => (.inl ((((y88 + x63) + y101) / 10000), x103, (pm_up V69 113 (((1200 + x27) + x65) : Int).toNat (((y88 + x63) + y101) % 10000))))))) else (pf_let (pm_cmp x63 0) fun y105 => (if y105 ≤ 0 then (pf_let (x27 + 1) fun x108 => (.inr (.inl (x108, V69)))) else (pf_let (V69 113 (((1200 + x27) + x65) : Int).toNat) fun y111 => (if z1 ≤ x65 then (pf_let (x65 + 1) fun x116 => (.inl ((((y111 + x63) + 0) / 10000), x116, (pm_up V69 113 (((1200 + x27) + x65) : Int).toNat (((y111 + x63) + 0) % 10000))))) else (pf_let (V69 113 ((0 + x27) : Int).toNat) fun y118 => pf_let (V69 113 ((900 + x65) : Int).toNat) fun y121 => pf_let ((y118 * y121)) fun y124 => pf_let (x65 + 1) fun x126 => (.inl ((((y111 + x63) + y124) / 10000), x126, (pm_up V69 113 (((1200 + x27) + x65) : Int).toNat (((y111 + x63) + y124) % 10000)))))))))))) (0, 0, V29))))) (0, V10)) else (pf_let (x8 + 1) fun x129 => (.inl (x129, (pm_up V10 113 ((1200 + x8) : Int).toNat 0))))))) (0, V0) := rfl
noncomputable def F_X12_joins_d2_1_5 (V0 : pm_M) : Int × pm_M := pf_let (V0 114 1) fun z0 => pf_let (V0 114 2) fun z1 => pf_let (V0 114 0) fun y1 => pf_let (V0 114 3) fun y4 => pf_val ((0 : Int), V0) (fun (q : Int × pm_M) => match q with | (x8, V10) => ((if (z1 + z0) ≤ x8 then (pf_val (.inr ((0 : Int), V0)) (fun (q : Int × pm_M) => match q with | (x27, V29) => ((if z1 ≤ x27 then (pf_val (.inr (.inr ((0 : Int), V0))) (fun (q : Int) => match q with | x46 => ((if x46 ≤ 1 then ((.inr (.inr (.inr (0, (pm_up V29 114 (5 : Int).toNat x46)))))) else (pf_let (V29 113 (((1500 + x46) - 1) : Int).toNat) fun y57 => (if ¬ (y57 = 0) then ((.inr (.inr (.inr (0, (pm_up V29 114 (5 : Int).toNat x46)))))) else (pf_let (x46 + (-1)) fun x61 => (.inl x61))))))) (z1 + z0)) else (pf_val (.inr (.inr ((0 : Int), V0))) (fun (q : Int × Int × pm_M) => match q with | (x63, x65, V69) => ((if x65 < z0 then (pf_let (V69 113 (((1500 + x27) + x65) : Int).toNat) fun y88 => (if z0 ≤ x65 then (pf_let (x65 + 1) fun x93 => (.inl ((((y88 + x63) + 0) / 10000), x93, (pm_up V69 113 (((1500 + x27) + x65) : Int).toNat (((y88 + x63) + 0) % 10000))))) else (pf_let (V69 113 ((600 + x27) : Int).toNat) fun y95 => pf_let (V69 113 ((300 + x65) : Int).toNat) fun y98 => pf_let ((y95 * y98)) fun y101 => pf_let (x65 + 1) fun x103 => (.inl ((((y88 + x63) + y101) / 10000), x103, (pm_up V69 113 (((1500 + x27) + x65) : Int).toNat (((y88 + x63) + y101) % 10000))))))) else (pf_let (pm_cmp x63 0) fun y105 => (if y105 ≤ 0 then (pf_let (x27 + 1) fun x108 => (.inr (.inl (x108, V69)))) else (pf_let (V69 113 (((1500 + x27) + x65) : Int).toNat) fun y111 => (if z0 ≤ x65 then (pf_let (x65 + 1) fun x116 => (.inl ((((y111 + x63) + 0) / 10000), x116, (pm_up V69 113 (((1500 + x27) + x65) : Int).toNat (((y111 + x63) + 0) % 10000))))) else (pf_let (V69 113 ((600 + x27) : Int).toNat) fun y118 => pf_let (V69 113 ((300 + x65) : Int).toNat) fun y121 => pf_let ((y118 * y121)) fun y124 => pf_let (x65 + 1) fun x126 => (.inl ((((y111 + x63) + y124) / 10000), x126, (pm_up V69 113 (((1500 + x27) + x65) : Int).toNat (((y111 + x63) + y124) % 10000)))))))))))) (0, 0, V29))))) (0, V10)) else (pf_let (x8 + 1) fun x129 => (.inl (x129, (pm_up V10 113 ((1500 + x8) : Int).toNat 0))))))) (0, V0)
theorem F_X12_joins_d2_1_5_eq (V0 : pm_M) : F_X12_joins_d2_1_5 V0 = pf_let (V0 114 1) fun z0 => pf_let (V0 114 2) fun z1 => pf_let (V0 114 0) fun y1 => pf_let (V0 114 3) fun y4 => pf_val ((0 : Int), V0) (fun (q : Int × pm_M) => match q with | (x8, V10) => ((if (z1 + z0) ≤ x8 then (pf_val (.inr ((0 : Int), V0)) (fun (q : Int × pm_M) => match q with | (x27, V29) => ((if z1 ≤ x27 then (pf_val (.inr (.inr ((0 : Int), V0))) (fun (q : Int) => match q with | x46 => ((if x46 ≤ 1 then ((.inr (.inr (.inr (0, (pm_up V29 114 (5 : Int).toNat x46)))))) else (pf_let (V29 113 (((1500 + x46) - 1) : Int).toNat) fun y57 => (if ¬ (y57 = 0) then ((.inr (.inr (.inr (0, (pm_up V29 114 (5 : Int).toNat x46)))))) else (pf_let (x46 + (-1)) fun x61 => (.inl x61))))))) (z1 + z0)) else (pf_val (.inr (.inr ((0 : Int), V0))) (fun (q : Int × Int × pm_M) => match q with | (x63, x65, V69) => ((if x65 < z0 then (pf_let (V69 113 (((1500 + x27) + x65) : Int).toNat) fun y88 => (if z0 ≤ x65 then (pf_let (x65 + 1) fun x93 => (.inl ((((y88 + x63) + 0) / 10000), x93, (pm_up V69 113 (((1500 + x27) + x65) : Int).toNat (((y88 + x63) + 0) % 10000))))) else (pf_let (V69 113 ((600 + x27) : Int).toNat) fun y95 => pf_let (V69 113 ((300 + x65) : Int).toNat) fun y98 => pf_let ((y95 * y98)) fun y101 => pf_let (x65 + 1) fun x103 => (.inl ((((y88 + x63) + y101) / 10000), x103, (pm_up V69 113 (((1500 + x27) + x65) : Int).toNat (((y88 + x63) + y101) % 10000))))))) else (pf_let (pm_cmp x63 0) fun y105 => (if y105 ≤ 0 then (pf_let (x27 + 1) fun x108 => (.inr (.inl (x108, V69)))) else (pf_let (V69 113 (((1500 + x27) + x65) : Int).toNat) fun y111 => (if z0 ≤ x65 then (pf_let (x65 + 1) fun x116 => (.inl ((((y111 + x63) + 0) / 10000), x116, (pm_up V69 113 (((1500 + x27) + x65) : Int).toNat (((y111 + x63) + 0) % 10000))))) else (pf_let (V69 113 ((600 + x27) : Int).toNat) fun y118 => pf_let (V69 113 ((300 + x65) : Int).toNat) fun y121 => pf_let ((y118 * y121)) fun y124 => pf_let (x65 + 1) fun x126 => (.inl ((((y111 + x63) + y124) / 10000), x126, (pm_up V69 113 (((1500 + x27) + x65) : Int).toNat (((y111 + x63) + y124) % 10000)))))))))))) (0, 0, V29))))) (0, V10)) else (pf_let (x8 + 1) fun x129 => (.inl (x129, (pm_up V10 113 ((1500 + x8) : Int).toNat 0))))))) (0, V0) := rfl
noncomputable def F_X12_compares_d4_5 (V0 : pm_M) : Int × pm_M := pf_let (V0 114 4) fun y2 => pf_let (V0 114 5) fun y5 => (if y2 = y5 then (pf_val ((0 : Int), V0) (fun (q : Int) => match q with | x9 => ((if x9 < 0 then ((.inr (0, V0))) else (pf_let (V0 113 ((1200 + x9) : Int).toNat) fun y20 => pf_let (V0 113 ((1500 + x9) : Int).toNat) fun y23 => (if y20 = y23 then (pf_let (x9 + (-1)) fun x27 => (.inl x27)) else ((if y23 ≤ y20 then ((.inr (1, V0))) else ((.inr ((-1), V0)))))))))) (y2 - 1)) else ((if y5 ≤ y2 then ((1, V0)) else (((-1), V0)))))
theorem F_X12_compares_d4_5_eq (V0 : pm_M) : F_X12_compares_d4_5 V0 = pf_let (V0 114 4) fun y2 => pf_let (V0 114 5) fun y5 => (if y2 = y5 then (pf_val ((0 : Int), V0) (fun (q : Int) => match q with | x9 => ((if x9 < 0 then ((.inr (0, V0))) else (pf_let (V0 113 ((1200 + x9) : Int).toNat) fun y20 => pf_let (V0 113 ((1500 + x9) : Int).toNat) fun y23 => (if y20 = y23 then (pf_let (x9 + (-1)) fun x27 => (.inl x27)) else ((if y23 ≤ y20 then ((.inr (1, V0))) else ((.inr ((-1), V0)))))))))) (y2 - 1)) else ((if y5 ≤ y2 then ((1, V0)) else (((-1), V0))))) := rfl
noncomputable def F_X12_against (V0 : pm_M) : Int × pm_M := pf_let (V0 114 0) fun z0 => pf_let (V0 114 1) fun z1 => pf_let (V0 114 2) fun z2 => pf_let (V0 114 3) fun z3 => pf_call (F_X12_joins_d0_3_4  V0) fun _ V2 => pf_let (V2 114 0) fun y14 => pf_let (V2 114 1) fun y17 => pf_let (V2 114 2) fun y20 => pf_let (V2 114 3) fun y23 => pf_call (F_X12_joins_d2_1_5  V2) fun _ V27 => pf_let (V27 114 0) fun y39 => pf_let (V27 114 1) fun y42 => pf_let (V27 114 2) fun y45 => pf_let (V27 114 3) fun y48 => pf_call (F_X12_compares_d4_5  V27) fun y54 _ => (y54, V27)
theorem F_X12_against_eq (V0 : pm_M) : F_X12_against V0 = pf_let (V0 114 0) fun z0 => pf_let (V0 114 1) fun z1 => pf_let (V0 114 2) fun z2 => pf_let (V0 114 3) fun z3 => pf_call (F_X12_joins_d0_3_4  V0) fun _ V2 => pf_let (V2 114 0) fun y14 => pf_let (V2 114 1) fun y17 => pf_let (V2 114 2) fun y20 => pf_let (V2 114 3) fun y23 => pf_call (F_X12_joins_d2_1_5  V2) fun _ V27 => pf_let (V27 114 0) fun y39 => pf_let (V27 114 1) fun y42 => pf_let (V27 114 2) fun y45 => pf_let (V27 114 3) fun y48 => pf_call (F_X12_compares_d4_5  V27) fun y54 _ => (y54, V27) := rfl
set_option maxHeartbeats 4000000 in
set_option maxRecDepth 100000 in
theorem fB_X12_copies_d0_2  : pm_K 1 yX12_copies cX12_copies 4 none (fun av V => av = [(3, 90), (0, 0), (0, 2)] ∧ pm_oq pm_qB V) (fun _ V r V' => r = none ∧ pm_oq pm_qB V' ∧ pm_fs [113, 114] [] V V' ∧ (V' 114 0 = V 114 0) ∧ (V' 114 1 = V 114 1) ∧ (V' 114 2 = V 114 0) ∧ (V' 114 3 = V 114 3) ∧ F_X12_copies_d0_2  V = (0, V')) := by
  refine pm_MT.of (by decide) ⟨Nat.le_refl _, by decide⟩ (fun av V h => by rw [h.1]; exact (by decide : pm_words [(3, 0), (0, 0), (0, 0)] ≤ 4)) ?_
  rintro X av V0 hC - hR ⟨rfl, hV0⟩
  change pm_J X 0 [(0, (3, 90)), (1, (0, 0)), (2, (0, 2))] [] 118 V0
  have hT := F_X12_copies_d0_2_eq  V0
  obtain ⟨y1, e2⟩ : ∃ y, V0 114 0 = y := ⟨_, rfl⟩
  have b3 := hV0.get 114 0 (lo := 0) (hi := 600) (by decide) (by decide) rfl
  rw [e2] at b3
  replace hT := hT.trans (pf_let_eq e2)
  obtain ⟨y4, e5⟩ : ∃ y, V0 114 1 = y := ⟨_, rfl⟩
  have b6 := hV0.get 114 1 (lo := 0) (hi := 600) (by decide) (by decide) rfl
  rw [e5] at b6
  replace hT := hT.trans (pf_let_eq e5)
  obtain ⟨y7, e8⟩ : ∃ y, V0 114 2 = y := ⟨_, rfl⟩
  have b9 := hV0.get 114 2 (lo := 0) (hi := 600) (by decide) (by decide) rfl
  rw [e8] at b9
  replace hT := hT.trans (pf_let_eq e8)
  obtain ⟨y10, e11⟩ : ∃ y, V0 114 3 = y := ⟨_, rfl⟩
  have b12 := hV0.get 114 3 (lo := 0) (hi := 600) (by decide) (by decide) rfl
  rw [e11] at b12
  replace hT := hT.trans (pf_let_eq e11)
  refine pm_aload_n hC 0 (by decide) dX12_copies_0 rfl ?_
  have e13 : V0 90 53 = 114 := hV0.one 90 53 (by decide) (by decide) rfl
  refine pm_getf (v := 114) hC 90 fl_X12_82 rfl rfl (by decide) rfl e13 dX12_copies_1 ?_
  refine pm_iload_n hC 2 dX12_copies_4 rfl ?_
  refine pm_aload_n hC 0 (by decide) dX12_copies_5 rfl ?_
  refine pm_getf (v := 114) hC 90 fl_X12_82 rfl rfl (by decide) rfl e13 dX12_copies_6 ?_
  refine pm_iload_n hC 1 dX12_copies_9 rfl ?_
  refine pm_iaload (len := 8) (v := y1) hC 114 rfl rfl (by decide) ⟨by decide, by decide⟩ (by decide) e2 dX12_copies_10 ?_
  refine pm_iastore (len := 8) hC 114 rfl rfl (by decide) ⟨by decide, by decide⟩ (by decide) dX12_copies_11 ?_
  refine pm_iconst (v := 0) hC dX12_copies_12 ?_
  refine pm_istore_n (lv' := [(3, (0, 0)), (0, (3, 90)), (1, (0, 0)), (2, (0, 2))]) hC dX12_copies_13 (by decide) rfl ?_
  have hV16 := (hV0.put 114 (2 : Int).toNat (x := y1) (lo := 0) (hi := 600) rfl ⟨by exact ow_87_0 b3, by exact ow_87_1 b3⟩)
  have hF17 := ((pm_fs.rf (cs := [113, 114]) (fs := []) (V := V0)).up 114 (2 : Int).toNat y1 (by decide) rfl)
  obtain ⟨V14, hv15⟩ : ∃ V, V = (pm_up V0 114 (2 : Int).toNat y1) := ⟨_, rfl⟩
  rw [← hv15] at hV16 hF17
  rw [← hv15]
  replace hT := hT.trans (pf_let_eq hv15.symm)
  have e18 : V14 114 0 = y1 := by rw [hv15]; exact e2
  have e19 : V14 114 1 = y4 := by rw [hv15]; exact e5
  have e20 : V14 114 3 = y10 := by rw [hv15]; exact e11
  have e21 : V14 90 53 = 114 := by rw [hv15]; exact e13
  have e22 : V14 114 2 = y1 := by rw [hv15]; rfl
  obtain ⟨B33, hB34, hT⟩ := pf_loop hT
  have L36 : ∀ (N38 : Nat) (x23 : Int) (V25 : pm_M), (0 ≤ x23 ∧ x23 ≤ 1000) → pm_oq pm_qB V25 → pm_fs [113, 114] [] V0 V25 → V25 114 0 = y1 → V25 114 1 = y4 → V25 114 3 = y10 → V25 90 53 = 114 → V25 114 2 = y1 → F_X12_copies_d0_2  V0 = pf_val ((0 : Int), V0) B33 (x23, V25) → (Int.toNat (1000 - x23)) = N38 → pm_J X 14 [(0, (3, 90)), (1, (0, 0)), (2, (0, 2)), (3, (0, x23))] [] 118 V25 := by
    intro N38
    induction N38 using Nat.strongRecOn with
    | _ N38 ih39 =>
    intro x23 V25 b24 hV26 hF27 e28 e29 e30 e31 e32 hT hm37
    have hb35 := congrFun hB34 (x23, V25)
    refine pm_iload_n hC 3 dX12_copies_14 rfl ?_
    refine pm_aload_n hC 0 (by decide) dX12_copies_15 rfl ?_
    refine pm_getf (v := 114) hC 90 fl_X12_82 rfl rfl (by decide) rfl e31 dX12_copies_16 ?_
    refine pm_iload_n hC 1 dX12_copies_19 rfl ?_
    refine pm_iaload (len := 8) (v := y1) hC 114 rfl rfl (by decide) ⟨by decide, by decide⟩ (by decide) e28 dX12_copies_20 ?_
    refine pm_icmp_ge (tgt := 54) hC ⟨by exact ow_87_2 b24, by exact ow_87_3 b24⟩ ⟨by exact ow_87_4 b3, by exact ow_87_5 b3⟩ dX12_copies_21 (by decide) (fun c40 => ?_) (fun c40 => ?_)
    · skip
      replace hb35 := hb35.trans (if_pos c40)
      replace hT := hT.trans (pf_val_inr hb35)
      exact pm_vret hC hR ⟨rfl, hV26, hF27, (by have q := (show V25 114 0 = y1 from e28); have q2 := e2; exact ow_87_6 e2 e28), (by have q := (show V25 114 1 = y4 from e29); have q2 := e5; exact ow_87_6 e5 e29), (by have q := (show V25 114 2 = y1 from e32); have q2 := e2; exact ow_87_6 e2 e32), (by have q := (show V25 114 3 = y10 from e30); have q2 := e11; exact ow_87_6 e11 e30), hT⟩ dX12_copies_54
    · skip
      replace hb35 := hb35.trans (if_neg (Int.not_le.mpr c40))
      refine pm_aload_n hC 0 (by decide) dX12_copies_24 rfl ?_
      have e41 : V25 90 52 = 113 := hV26.one 90 52 (by decide) (by decide) rfl
      refine pm_getf (v := 113) hC 90 fl_X12_79 rfl rfl (by decide) rfl e41 dX12_copies_25 ?_
      refine pm_iload_n hC 2 dX12_copies_28 rfl ?_
      refine pm_sipush (v := 300) hC dX12_copies_29 (by decide) ?_
      refine pm_imul hC dX12_copies_32 ?_
      change pm_J X 33 [(0, (3, 90)), (1, (0, 0)), (2, (0, 2)), (3, (0, x23))] [(0, 600), (3, 113)] 118 V25
      refine pm_iload_n hC 3 dX12_copies_33 rfl ?_
      refine pm_iadd hC dX12_copies_34 ?_
      refine pm_aload_n hC 0 (by decide) dX12_copies_35 rfl ?_
      refine pm_getf (v := 113) hC 90 fl_X12_79 rfl rfl (by decide) rfl e41 dX12_copies_36 ?_
      refine pm_iload_n hC 1 dX12_copies_39 rfl ?_
      refine pm_sipush (v := 300) hC dX12_copies_40 (by decide) ?_
      refine pm_imul hC dX12_copies_43 ?_
      change pm_J X 44 [(0, (3, 90)), (1, (0, 0)), (2, (0, 2)), (3, (0, x23))] [(0, 0), (3, 113), (0, (600 + x23)), (3, 113)] 118 V25
      refine pm_iload_n hC 3 dX12_copies_44 rfl ?_
      refine pm_iadd hC dX12_copies_45 ?_
      obtain ⟨y42, e43⟩ : ∃ y, V25 113 ((0 + x23) : Int).toNat = y := ⟨_, rfl⟩
      replace hb35 := hb35.trans (pf_let_eq e43)
      have b44 := hV26.get 113 ((0 + x23) : Int).toNat (lo := 0) (hi := 9999) (t := 0) (by decide) (show _ < 2400 by exact ow_87_7 b24) rfl
      rw [e43] at b44
      refine pm_iaload (len := 2400) (v := y42) hC 113 rfl rfl (by decide) ⟨by exact ow_87_8 b24, by exact ow_87_9 b24⟩ (by decide) e43 dX12_copies_46 ?_
      refine pm_iastore (len := 2400) hC 113 rfl rfl (by decide) ⟨by exact ow_87_10 b24, by exact ow_87_11 b3 c40⟩ (by decide) dX12_copies_47 ?_
      obtain ⟨x45, ei46⟩ : ∃ y : Int, x23 + 1 = y := ⟨_, rfl⟩
      replace hb35 := hb35.trans (pf_let_eq ei46)
      refine pm_iinc (y := x45) (lv' := [(3, (0, x45)), (0, (3, 90)), (1, (0, 0)), (2, (0, 2))]) hC 3 dX12_copies_48 (by decide) rfl ei46 rfl ?_
      refine pm_goto (tgt := 14) hC dX12_copies_51 (by decide) ?_
      refine pm_lvsub [1, 2, 3, 0] (lv' := [(0, (3, 90)), (1, (0, 0)), (2, (0, 2)), (3, (0, x45))]) rfl ?_
      exact ih39 _ (by exact ow_87_12 b3 hm37 c40 ei46) x45 (pm_up V25 113 ((600 + x23) : Int).toNat y42) ⟨by exact ow_87_13 b24 ei46, by exact ow_87_14 b3 c40 ei46⟩ (hV26.put 113 ((600 + x23) : Int).toNat (x := y42) (lo := 0) (hi := 9999) rfl ⟨by exact ow_87_15 b44, by exact ow_87_16 b44⟩) (hF27.up 113 ((600 + x23) : Int).toNat y42 (by decide) rfl) e28 e29 e30 e31 e32 (hT.trans (pf_val_inl hb35)) rfl
  refine pm_lvsub [1, 2, 3, 0] (lv' := [(0, (3, 90)), (1, (0, 0)), (2, (0, 2)), (3, (0, 0))]) rfl ?_
  exact L36 _ 0 V14 ⟨by decide, by decide⟩ hV16 hF17 e18 e19 e20 e21 e22 hT rfl
set_option maxHeartbeats 4000000 in
set_option maxRecDepth 100000 in
theorem fB_X12_copies_d1_3  : pm_K 1 yX12_copies cX12_copies 4 none (fun av V => av = [(3, 90), (0, 1), (0, 3)] ∧ pm_oq pm_qB V) (fun _ V r V' => r = none ∧ pm_oq pm_qB V' ∧ pm_fs [113, 114] [] V V' ∧ (V' 114 0 = V 114 0) ∧ (V' 114 1 = V 114 1) ∧ (V' 114 2 = V 114 2) ∧ (V' 114 3 = V 114 1) ∧ F_X12_copies_d1_3  V = (0, V')) := by
  refine pm_MT.of (by decide) ⟨Nat.le_refl _, by decide⟩ (fun av V h => by rw [h.1]; exact (by decide : pm_words [(3, 0), (0, 0), (0, 0)] ≤ 4)) ?_
  rintro X av V0 hC - hR ⟨rfl, hV0⟩
  change pm_J X 0 [(0, (3, 90)), (1, (0, 1)), (2, (0, 3))] [] 118 V0
  have hT := F_X12_copies_d1_3_eq  V0
  obtain ⟨y1, e2⟩ : ∃ y, V0 114 0 = y := ⟨_, rfl⟩
  have b3 := hV0.get 114 0 (lo := 0) (hi := 600) (by decide) (by decide) rfl
  rw [e2] at b3
  replace hT := hT.trans (pf_let_eq e2)
  obtain ⟨y4, e5⟩ : ∃ y, V0 114 1 = y := ⟨_, rfl⟩
  have b6 := hV0.get 114 1 (lo := 0) (hi := 600) (by decide) (by decide) rfl
  rw [e5] at b6
  replace hT := hT.trans (pf_let_eq e5)
  obtain ⟨y7, e8⟩ : ∃ y, V0 114 2 = y := ⟨_, rfl⟩
  have b9 := hV0.get 114 2 (lo := 0) (hi := 600) (by decide) (by decide) rfl
  rw [e8] at b9
  replace hT := hT.trans (pf_let_eq e8)
  obtain ⟨y10, e11⟩ : ∃ y, V0 114 3 = y := ⟨_, rfl⟩
  have b12 := hV0.get 114 3 (lo := 0) (hi := 600) (by decide) (by decide) rfl
  rw [e11] at b12
  replace hT := hT.trans (pf_let_eq e11)
  refine pm_aload_n hC 0 (by decide) dX12_copies_0 rfl ?_
  have e13 : V0 90 53 = 114 := hV0.one 90 53 (by decide) (by decide) rfl
  refine pm_getf (v := 114) hC 90 fl_X12_82 rfl rfl (by decide) rfl e13 dX12_copies_1 ?_
  refine pm_iload_n hC 2 dX12_copies_4 rfl ?_
  refine pm_aload_n hC 0 (by decide) dX12_copies_5 rfl ?_
  refine pm_getf (v := 114) hC 90 fl_X12_82 rfl rfl (by decide) rfl e13 dX12_copies_6 ?_
  refine pm_iload_n hC 1 dX12_copies_9 rfl ?_
  refine pm_iaload (len := 8) (v := y4) hC 114 rfl rfl (by decide) ⟨by decide, by decide⟩ (by decide) e5 dX12_copies_10 ?_
  refine pm_iastore (len := 8) hC 114 rfl rfl (by decide) ⟨by decide, by decide⟩ (by decide) dX12_copies_11 ?_
  refine pm_iconst (v := 0) hC dX12_copies_12 ?_
  refine pm_istore_n (lv' := [(3, (0, 0)), (0, (3, 90)), (1, (0, 1)), (2, (0, 3))]) hC dX12_copies_13 (by decide) rfl ?_
  have hV16 := (hV0.put 114 (3 : Int).toNat (x := y4) (lo := 0) (hi := 600) rfl ⟨by exact ow_87_0 b6, by exact ow_87_1 b6⟩)
  have hF17 := ((pm_fs.rf (cs := [113, 114]) (fs := []) (V := V0)).up 114 (3 : Int).toNat y4 (by decide) rfl)
  obtain ⟨V14, hv15⟩ : ∃ V, V = (pm_up V0 114 (3 : Int).toNat y4) := ⟨_, rfl⟩
  rw [← hv15] at hV16 hF17
  rw [← hv15]
  replace hT := hT.trans (pf_let_eq hv15.symm)
  have e18 : V14 114 0 = y1 := by rw [hv15]; exact e2
  have e19 : V14 114 1 = y4 := by rw [hv15]; exact e5
  have e20 : V14 114 2 = y7 := by rw [hv15]; exact e8
  have e21 : V14 90 53 = 114 := by rw [hv15]; exact e13
  have e22 : V14 114 3 = y4 := by rw [hv15]; rfl
  obtain ⟨B33, hB34, hT⟩ := pf_loop hT
  have L36 : ∀ (N38 : Nat) (x23 : Int) (V25 : pm_M), (0 ≤ x23 ∧ x23 ≤ 1000) → pm_oq pm_qB V25 → pm_fs [113, 114] [] V0 V25 → V25 114 0 = y1 → V25 114 1 = y4 → V25 114 2 = y7 → V25 90 53 = 114 → V25 114 3 = y4 → F_X12_copies_d1_3  V0 = pf_val ((0 : Int), V0) B33 (x23, V25) → (Int.toNat (1000 - x23)) = N38 → pm_J X 14 [(0, (3, 90)), (1, (0, 1)), (2, (0, 3)), (3, (0, x23))] [] 118 V25 := by
    intro N38
    induction N38 using Nat.strongRecOn with
    | _ N38 ih39 =>
    intro x23 V25 b24 hV26 hF27 e28 e29 e30 e31 e32 hT hm37
    have hb35 := congrFun hB34 (x23, V25)
    refine pm_iload_n hC 3 dX12_copies_14 rfl ?_
    refine pm_aload_n hC 0 (by decide) dX12_copies_15 rfl ?_
    refine pm_getf (v := 114) hC 90 fl_X12_82 rfl rfl (by decide) rfl e31 dX12_copies_16 ?_
    refine pm_iload_n hC 1 dX12_copies_19 rfl ?_
    refine pm_iaload (len := 8) (v := y4) hC 114 rfl rfl (by decide) ⟨by decide, by decide⟩ (by decide) e29 dX12_copies_20 ?_
    refine pm_icmp_ge (tgt := 54) hC ⟨by exact ow_87_2 b24, by exact ow_87_3 b24⟩ ⟨by exact ow_87_4 b6, by exact ow_87_5 b6⟩ dX12_copies_21 (by decide) (fun c40 => ?_) (fun c40 => ?_)
    · skip
      replace hb35 := hb35.trans (if_pos c40)
      replace hT := hT.trans (pf_val_inr hb35)
      exact pm_vret hC hR ⟨rfl, hV26, hF27, (by have q := (show V25 114 0 = y1 from e28); have q2 := e2; exact ow_87_6 e2 e28), (by have q := (show V25 114 1 = y4 from e29); have q2 := e5; exact ow_87_6 e5 e29), (by have q := (show V25 114 2 = y7 from e30); have q2 := e8; exact ow_87_6 e8 e30), (by have q := (show V25 114 3 = y4 from e32); have q2 := e5; exact ow_87_6 e5 e32), hT⟩ dX12_copies_54
    · skip
      replace hb35 := hb35.trans (if_neg (Int.not_le.mpr c40))
      refine pm_aload_n hC 0 (by decide) dX12_copies_24 rfl ?_
      have e41 : V25 90 52 = 113 := hV26.one 90 52 (by decide) (by decide) rfl
      refine pm_getf (v := 113) hC 90 fl_X12_79 rfl rfl (by decide) rfl e41 dX12_copies_25 ?_
      refine pm_iload_n hC 2 dX12_copies_28 rfl ?_
      refine pm_sipush (v := 300) hC dX12_copies_29 (by decide) ?_
      refine pm_imul hC dX12_copies_32 ?_
      change pm_J X 33 [(0, (3, 90)), (1, (0, 1)), (2, (0, 3)), (3, (0, x23))] [(0, 900), (3, 113)] 118 V25
      refine pm_iload_n hC 3 dX12_copies_33 rfl ?_
      refine pm_iadd hC dX12_copies_34 ?_
      refine pm_aload_n hC 0 (by decide) dX12_copies_35 rfl ?_
      refine pm_getf (v := 113) hC 90 fl_X12_79 rfl rfl (by decide) rfl e41 dX12_copies_36 ?_
      refine pm_iload_n hC 1 dX12_copies_39 rfl ?_
      refine pm_sipush (v := 300) hC dX12_copies_40 (by decide) ?_
      refine pm_imul hC dX12_copies_43 ?_
      change pm_J X 44 [(0, (3, 90)), (1, (0, 1)), (2, (0, 3)), (3, (0, x23))] [(0, 300), (3, 113), (0, (900 + x23)), (3, 113)] 118 V25
      refine pm_iload_n hC 3 dX12_copies_44 rfl ?_
      refine pm_iadd hC dX12_copies_45 ?_
      obtain ⟨y42, e43⟩ : ∃ y, V25 113 ((300 + x23) : Int).toNat = y := ⟨_, rfl⟩
      replace hb35 := hb35.trans (pf_let_eq e43)
      have b44 := hV26.get 113 ((300 + x23) : Int).toNat (lo := 0) (hi := 9999) (t := 0) (by decide) (show _ < 2400 by exact ow_87_17 b6 c40) rfl
      rw [e43] at b44
      refine pm_iaload (len := 2400) (v := y42) hC 113 rfl rfl (by decide) ⟨by exact ow_87_18 b24, by exact ow_87_19 b24⟩ (by decide) e43 dX12_copies_46 ?_
      refine pm_iastore (len := 2400) hC 113 rfl rfl (by decide) ⟨by exact ow_87_20 b24, by exact ow_87_21 b6 c40⟩ (by decide) dX12_copies_47 ?_
      obtain ⟨x45, ei46⟩ : ∃ y : Int, x23 + 1 = y := ⟨_, rfl⟩
      replace hb35 := hb35.trans (pf_let_eq ei46)
      refine pm_iinc (y := x45) (lv' := [(3, (0, x45)), (0, (3, 90)), (1, (0, 1)), (2, (0, 3))]) hC 3 dX12_copies_48 (by decide) rfl ei46 rfl ?_
      refine pm_goto (tgt := 14) hC dX12_copies_51 (by decide) ?_
      refine pm_lvsub [1, 2, 3, 0] (lv' := [(0, (3, 90)), (1, (0, 1)), (2, (0, 3)), (3, (0, x45))]) rfl ?_
      exact ih39 _ (by exact ow_87_12 b6 hm37 c40 ei46) x45 (pm_up V25 113 ((900 + x23) : Int).toNat y42) ⟨by exact ow_87_13 b24 ei46, by exact ow_87_14 b6 c40 ei46⟩ (hV26.put 113 ((900 + x23) : Int).toNat (x := y42) (lo := 0) (hi := 9999) rfl ⟨by exact ow_87_15 b44, by exact ow_87_16 b44⟩) (hF27.up 113 ((900 + x23) : Int).toNat y42 (by decide) rfl) e28 e29 e30 e31 e32 (hT.trans (pf_val_inl hb35)) rfl
  refine pm_lvsub [1, 2, 3, 0] (lv' := [(0, (3, 90)), (1, (0, 1)), (2, (0, 3)), (3, (0, 0))]) rfl ?_
  exact L36 _ 0 V14 ⟨by decide, by decide⟩ hV16 hF17 e18 e19 e20 e21 e22 hT rfl
set_option maxHeartbeats 4000000 in
set_option maxRecDepth 100000 in
theorem fB_X12_keeps  : pm_K 2 yX12_keeps cX12_keeps 1 none (fun av V => av = [(3, 90)] ∧ pm_oq pm_qB V) (fun _ V r V' => r = none ∧ pm_oq pm_qB V' ∧ pm_fs [113, 114] [] V V' ∧ (V' 114 0 = V 114 0) ∧ (V' 114 1 = V 114 1) ∧ (V' 114 2 = V 114 0) ∧ (V' 114 3 = V 114 1) ∧ F_X12_keeps  V = (0, V')) := by
  refine pm_MT.of (by decide) ⟨Nat.le_refl _, by decide⟩ (fun av V h => by rw [h.1]; exact (by decide : pm_words [(3, 0)] ≤ 1)) ?_
  rintro X av V0 hC - hR ⟨rfl, hV0⟩
  change pm_J X 0 [(0, (3, 90))] [] 118 V0
  have hT := F_X12_keeps_eq  V0
  obtain ⟨y1, e2⟩ : ∃ y, V0 114 0 = y := ⟨_, rfl⟩
  have b3 := hV0.get 114 0 (lo := 0) (hi := 600) (by decide) (by decide) rfl
  rw [e2] at b3
  replace hT := hT.trans (pf_let_eq e2)
  obtain ⟨y4, e5⟩ : ∃ y, V0 114 1 = y := ⟨_, rfl⟩
  have b6 := hV0.get 114 1 (lo := 0) (hi := 600) (by decide) (by decide) rfl
  rw [e5] at b6
  replace hT := hT.trans (pf_let_eq e5)
  obtain ⟨y7, e8⟩ : ∃ y, V0 114 2 = y := ⟨_, rfl⟩
  have b9 := hV0.get 114 2 (lo := 0) (hi := 600) (by decide) (by decide) rfl
  rw [e8] at b9
  replace hT := hT.trans (pf_let_eq e8)
  obtain ⟨y10, e11⟩ : ∃ y, V0 114 3 = y := ⟨_, rfl⟩
  have b12 := hV0.get 114 3 (lo := 0) (hi := 600) (by decide) (by decide) rfl
  rw [e11] at b12
  replace hT := hT.trans (pf_let_eq e11)
  refine pm_aload_n hC 0 (by decide) dX12_keeps_0 rfl ?_
  refine pm_iconst (v := 0) hC dX12_keeps_1 ?_
  refine pm_iconst (v := 2) hC dX12_keeps_2 ?_
  refine pm_callV (ci := 12) (as := [(0, 0), (0, 2)]) (st := []) hC 90 fB_X12_copies_d0_2 lm_X12_421 li_X12_copies (by decide) (by decide) rfl rfl rfl (by decide) rfl rfl (Nat.le_of_ble_eq_true rfl) ⟨Nat.le_refl _, Or.inl rfl⟩ dX12_keeps_3 ⟨rfl, hV0⟩ (fun r13 V14 hp15 => ?_)
  obtain ⟨rfl, hV16, hF17, hxp18, hxp19, hxp20, hxp21, hE22⟩ := hp15
  replace hT := hT.trans (pf_call_eq hE22)
  change pm_J X 6 [(0, (3, 90))] [] 118 V14
  have hF23 := pm_fs.tr (pm_fs.rf (cs := [113, 114]) (fs := []) (V := V0)) hF17 (by decide) (by decide)
  obtain ⟨y24, e25⟩ : ∃ y, V14 114 0 = y := ⟨_, rfl⟩
  have b26 := hV16.get 114 0 (lo := 0) (hi := 600) (by decide) (by decide) rfl
  rw [e25] at b26
  replace hT := hT.trans (pf_let_eq e25)
  obtain ⟨y27, e28⟩ : ∃ y, V14 114 1 = y := ⟨_, rfl⟩
  have b29 := hV16.get 114 1 (lo := 0) (hi := 600) (by decide) (by decide) rfl
  rw [e28] at b29
  replace hT := hT.trans (pf_let_eq e28)
  obtain ⟨y30, e31⟩ : ∃ y, V14 114 2 = y := ⟨_, rfl⟩
  have b32 := hV16.get 114 2 (lo := 0) (hi := 600) (by decide) (by decide) rfl
  rw [e31] at b32
  replace hT := hT.trans (pf_let_eq e31)
  obtain ⟨y33, e34⟩ : ∃ y, V14 114 3 = y := ⟨_, rfl⟩
  have b35 := hV16.get 114 3 (lo := 0) (hi := 600) (by decide) (by decide) rfl
  rw [e34] at b35
  replace hT := hT.trans (pf_let_eq e34)
  refine pm_aload_n hC 0 (by decide) dX12_keeps_6 rfl ?_
  refine pm_iconst (v := 1) hC dX12_keeps_7 ?_
  refine pm_iconst (v := 3) hC dX12_keeps_8 ?_
  refine pm_callV (ci := 12) (as := [(0, 1), (0, 3)]) (st := []) hC 90 fB_X12_copies_d1_3 lm_X12_421 li_X12_copies (by decide) (by decide) rfl rfl rfl (by decide) rfl rfl (Nat.le_of_ble_eq_true rfl) ⟨Nat.le_refl _, Or.inl rfl⟩ dX12_keeps_9 ⟨rfl, hV16⟩ (fun r36 V37 hp38 => ?_)
  obtain ⟨rfl, hV39, hF40, hxp41, hxp42, hxp43, hxp44, hE45⟩ := hp38
  replace hT := hT.trans (pf_call_eq hE45)
  change pm_J X 12 [(0, (3, 90))] [] 118 V37
  have hF46 := pm_fs.tr hF23 hF40 (by decide) (by decide)
  obtain ⟨y47, e48⟩ : ∃ y, V37 114 0 = y := ⟨_, rfl⟩
  have b49 := hV39.get 114 0 (lo := 0) (hi := 600) (by decide) (by decide) rfl
  rw [e48] at b49
  replace hT := hT.trans (pf_let_eq e48)
  obtain ⟨y50, e51⟩ : ∃ y, V37 114 1 = y := ⟨_, rfl⟩
  have b52 := hV39.get 114 1 (lo := 0) (hi := 600) (by decide) (by decide) rfl
  rw [e51] at b52
  replace hT := hT.trans (pf_let_eq e51)
  obtain ⟨y53, e54⟩ : ∃ y, V37 114 2 = y := ⟨_, rfl⟩
  have b55 := hV39.get 114 2 (lo := 0) (hi := 600) (by decide) (by decide) rfl
  rw [e54] at b55
  replace hT := hT.trans (pf_let_eq e54)
  obtain ⟨y56, e57⟩ : ∃ y, V37 114 3 = y := ⟨_, rfl⟩
  have b58 := hV39.get 114 3 (lo := 0) (hi := 600) (by decide) (by decide) rfl
  rw [e57] at b58
  replace hT := hT.trans (pf_let_eq e57)
  exact pm_vret hC hR ⟨rfl, hV39, hF46, (by have q := (show V37 114 0 = y47 from e48); have q2 := e2; exact ow_87_22 hxp18 hxp41), (by have q := (show V37 114 1 = y50 from e51); have q2 := e5; exact ow_87_22 hxp19 hxp42), (by have q := (show V37 114 2 = y53 from e54); have q2 := e2; exact ow_87_22 hxp20 hxp43), (by have q := (show V37 114 3 = y56 from e57); have q2 := e5; exact ow_87_22 hxp19 hxp44), hT⟩ dX12_keeps_12
set_option maxHeartbeats 4000000 in
set_option maxRecDepth 100000 in
theorem fB_X12_joins_d0_3_4  : pm_K 1 yX12_joins cX12_joins 11 none (fun av V => av = [(3, 90), (0, 0), (0, 3), (0, 4)] ∧ pm_oq pm_qB V ∧ (0 ≤ V 114 0 ∧ V 114 0 ≤ 181) ∧ (0 ≤ V 114 3 ∧ V 114 3 ≤ 181)) (fun _ V r V' => r = none ∧ pm_oq pm_qB V' ∧ pm_fs [113, 114] [] V V' ∧ (V' 114 0 = V 114 0) ∧ (V' 114 1 = V 114 1) ∧ (V' 114 2 = V 114 2) ∧ (V' 114 3 = V 114 3) ∧ F_X12_joins_d0_3_4  V = (0, V')) := by
  refine pm_MT.of (by decide) ⟨Nat.le_refl _, by decide⟩ (fun av V h => by rw [h.1]; exact (by decide : pm_words [(3, 0), (0, 0), (0, 0), (0, 0)] ≤ 11)) ?_
  rintro X av V0 hC - hR ⟨rfl, hV0, hq0, hq1⟩
  change pm_J X 0 [(0, (3, 90)), (1, (0, 0)), (2, (0, 3)), (3, (0, 4))] [] 118 V0
  have hT := F_X12_joins_d0_3_4_eq  V0
  obtain ⟨z0, ez0⟩ : ∃ z, V0 114 0 = z := ⟨_, rfl⟩
  rw [ez0] at hq0
  replace hT := hT.trans (pf_let_eq ez0)
  obtain ⟨z1, ez1⟩ : ∃ z, V0 114 3 = z := ⟨_, rfl⟩
  rw [ez1] at hq1
  replace hT := hT.trans (pf_let_eq ez1)
  obtain ⟨y1, e2⟩ : ∃ y, V0 114 1 = y := ⟨_, rfl⟩
  have b3 := hV0.get 114 1 (lo := 0) (hi := 600) (by decide) (by decide) rfl
  rw [e2] at b3
  replace hT := hT.trans (pf_let_eq e2)
  obtain ⟨y4, e5⟩ : ∃ y, V0 114 2 = y := ⟨_, rfl⟩
  have b6 := hV0.get 114 2 (lo := 0) (hi := 600) (by decide) (by decide) rfl
  rw [e5] at b6
  replace hT := hT.trans (pf_let_eq e5)
  refine pm_aload_n hC 0 (by decide) dX12_joins_0 rfl ?_
  have e7 : V0 90 53 = 114 := hV0.one 90 53 (by decide) (by decide) rfl
  refine pm_getf (v := 114) hC 90 fl_X12_82 rfl rfl (by decide) rfl e7 dX12_joins_1 ?_
  refine pm_iload_n hC 1 dX12_joins_4 rfl ?_
  refine pm_iaload (len := 8) (v := z0) hC 114 rfl rfl (by decide) ⟨by decide, by decide⟩ (by decide) ez0 dX12_joins_5 ?_
  refine pm_aload_n hC 0 (by decide) dX12_joins_6 rfl ?_
  refine pm_getf (v := 114) hC 90 fl_X12_82 rfl rfl (by decide) rfl e7 dX12_joins_7 ?_
  refine pm_iload_n hC 2 dX12_joins_10 rfl ?_
  refine pm_iaload (len := 8) (v := z1) hC 114 rfl rfl (by decide) ⟨by decide, by decide⟩ (by decide) ez1 dX12_joins_11 ?_
  refine pm_iadd hC dX12_joins_12 ?_
  refine pm_istore (lv' := [(4, (0, (z0 + z1))), (0, (3, 90)), (1, (0, 0)), (2, (0, 3)), (3, (0, 4))]) hC dX12_joins_13 (by decide) rfl ?_
  refine pm_iconst (v := 0) hC dX12_joins_15 ?_
  refine pm_istore (lv' := [(5, (0, 0)), (4, (0, (z0 + z1))), (0, (3, 90)), (1, (0, 0)), (2, (0, 3)), (3, (0, 4))]) hC dX12_joins_16 (by decide) rfl ?_
  obtain ⟨B19, hB20, hT⟩ := pf_loop hT
  have L22 : ∀ (N24 : Nat) (x8 : Int) (V10 : pm_M), (0 ≤ x8 ∧ x8 ≤ 362) → pm_oq pm_qB V10 → pm_fs [113, 114] [] V0 V10 → V10 114 0 = z0 → V10 114 3 = z1 → V10 114 1 = y1 → V10 114 2 = y4 → V10 90 53 = 114 → (∀ q : Nat, (q : Int) < x8 → V10 113 (1200 + q) = 0) → F_X12_joins_d0_3_4  V0 = pf_val ((0 : Int), V0) B19 (x8, V10) → (Int.toNat (362 - x8)) = N24 → pm_J X 18 [(0, (3, 90)), (1, (0, 0)), (2, (0, 3)), (3, (0, 4)), (4, (0, (z0 + z1))), (5, (0, x8))] [] 118 V10 := by
    intro N24
    induction N24 using Nat.strongRecOn with
    | _ N24 ih25 =>
    intro x8 V10 b9 hV11 hF12 e13 e14 e15 e16 e17 hx18 hT hm23
    have hb21 := congrFun hB20 (x8, V10)
    refine pm_iload hC 5 dX12_joins_18 rfl ?_
    refine pm_iload hC 4 dX12_joins_20 rfl ?_
    refine pm_icmp_ge (tgt := 45) hC ⟨by exact ow_87_23 b9, by exact ow_87_24 b9⟩ ⟨by exact ow_87_25 hq0 hq1, by exact ow_87_26 hq0 hq1⟩ dX12_joins_22 (by decide) (fun c26 => ?_) (fun c26 => ?_)
    · skip
      replace hb21 := hb21.trans (if_pos c26)
      refine pm_iconst (v := 0) hC dX12_joins_45 ?_
      refine pm_istore (lv' := [(5, (0, 0)), (0, (3, 90)), (1, (0, 0)), (2, (0, 3)), (3, (0, 4)), (4, (0, (z0 + z1)))]) hC dX12_joins_46 (by decide) rfl ?_
      obtain ⟨B38, hB39, hb21⟩ := pf_loop hb21
      have L41 : ∀ (N43 : Nat) (x27 : Int) (V29 : pm_M), (0 ≤ x27 ∧ x27 ≤ 181) → pm_oq pm_qB V29 → pm_fs [113, 114] [] V0 V29 → V29 114 0 = z0 → V29 114 3 = z1 → V29 114 1 = y1 → V29 114 2 = y4 → V29 90 53 = 114 → (∀ q : Nat, x27 + z1 ≤ (q : Int) → (q : Int) < (z0 + z1) → V29 113 (1200 + q) = 0) → B19 (x8, V10) = pf_val (.inr ((0 : Int), V0)) B38 (x27, V29) → (Int.toNat (181 - x27)) = N43 → pm_J X 48 [(0, (3, 90)), (1, (0, 0)), (2, (0, 3)), (3, (0, 4)), (4, (0, (z0 + z1))), (5, (0, x27))] [] 118 V29 := by
        intro N43
        induction N43 using Nat.strongRecOn with
        | _ N43 ih44 =>
        intro x27 V29 b28 hV30 hF31 e32 e33 e34 e35 e36 hx37 hb21 hm42
        have hb40 := congrFun hB39 (x27, V29)
        refine pm_iload hC 5 dX12_joins_48 rfl ?_
        refine pm_aload_n hC 0 (by decide) dX12_joins_50 rfl ?_
        refine pm_getf (v := 114) hC 90 fl_X12_82 rfl rfl (by decide) rfl e36 dX12_joins_51 ?_
        refine pm_iload_n hC 1 dX12_joins_54 rfl ?_
        refine pm_iaload (len := 8) (v := z0) hC 114 rfl rfl (by decide) ⟨by decide, by decide⟩ (by decide) e32 dX12_joins_55 ?_
        refine pm_icmp_ge (tgt := 193) hC ⟨by exact ow_87_27 b28, by exact ow_87_28 b28⟩ ⟨by exact ow_87_27 hq0, by exact ow_87_28 hq0⟩ dX12_joins_56 (by decide) (fun c45 => ?_) (fun c45 => ?_)
        · skip
          replace hb40 := hb40.trans (if_pos c45)
          obtain ⟨B48, hB49, hb40⟩ := pf_loop hb40
          have L51 : ∀ (N53 : Nat) (x46 : Int), (0 ≤ x46 ∧ x46 ≤ 362) → B38 (x27, V29) = pf_val (.inr (.inr ((0 : Int), V0))) B48 x46 → (Int.toNat (x46 - 0)) = N53 → pm_J X 193 [(0, (3, 90)), (1, (0, 0)), (2, (0, 3)), (3, (0, 4)), (4, (0, x46)), (5, (0, x27))] [] 118 V29 := by
            intro N53
            induction N53 using Nat.strongRecOn with
            | _ N53 ih54 =>
            intro x46 b47 hb40 hm52
            have hb50 := congrFun hB49 x46
            refine pm_iload hC 4 dX12_joins_193 rfl ?_
            refine pm_iconst (v := 1) hC dX12_joins_195 ?_
            refine pm_icmp_le (tgt := 223) hC ⟨by exact ow_87_23 b47, by exact ow_87_24 b47⟩ ⟨by decide, by decide⟩ dX12_joins_196 (by decide) (fun c55 => ?_) (fun c55 => ?_)
            · skip
              replace hb50 := hb50.trans (if_pos c55)
              refine pm_aload_n hC 0 (by decide) dX12_joins_223 rfl ?_
              refine pm_getf (v := 114) hC 90 fl_X12_82 rfl rfl (by decide) rfl e36 dX12_joins_224 ?_
              refine pm_iload_n hC 3 dX12_joins_227 rfl ?_
              refine pm_iload hC 4 dX12_joins_228 rfl ?_
              refine pm_iastore (len := 8) hC 114 rfl rfl (by decide) ⟨by decide, by decide⟩ (by decide) dX12_joins_230 ?_
              replace hb40 := hb40.trans (pf_val_inr hb50)
              replace hb21 := hb21.trans (pf_val_inr hb40)
              replace hT := hT.trans (pf_val_inr hb21)
              exact pm_vret hC hR ⟨rfl, (hV30.put 114 (4 : Int).toNat (x := x46) (lo := 0) (hi := 600) rfl ⟨by exact ow_87_29 b47, by exact ow_87_30 c55⟩), (hF31.up 114 (4 : Int).toNat x46 (by decide) rfl), (by have q := (show (pm_up V29 114 (4 : Int).toNat x46) 114 0 = z0 from e32); have q2 := ez0; exact ow_87_6 ez0 q), (by have q := (show (pm_up V29 114 (4 : Int).toNat x46) 114 1 = y1 from e34); have q2 := e2; exact ow_87_6 e2 q), (by have q := (show (pm_up V29 114 (4 : Int).toNat x46) 114 2 = y4 from e35); have q2 := e5; exact ow_87_6 e5 q), (by have q := (show (pm_up V29 114 (4 : Int).toNat x46) 114 3 = z1 from e33); have q2 := ez1; exact ow_87_6 ez1 q), hT⟩ dX12_joins_231
            · skip
              replace hb50 := hb50.trans (if_neg (Int.not_le.mpr c55))
              refine pm_aload_n hC 0 (by decide) dX12_joins_199 rfl ?_
              have e56 : V29 90 52 = 113 := hV30.one 90 52 (by decide) (by decide) rfl
              refine pm_getf (v := 113) hC 90 fl_X12_79 rfl rfl (by decide) rfl e56 dX12_joins_200 ?_
              refine pm_iload_n hC 3 dX12_joins_203 rfl ?_
              refine pm_sipush (v := 300) hC dX12_joins_204 (by decide) ?_
              refine pm_imul hC dX12_joins_207 ?_
              change pm_J X 208 [(0, (3, 90)), (1, (0, 0)), (2, (0, 3)), (3, (0, 4)), (4, (0, x46)), (5, (0, x27))] [(0, 1200), (3, 113)] 118 V29
              refine pm_iload hC 4 dX12_joins_208 rfl ?_
              refine pm_iadd hC dX12_joins_210 ?_
              refine pm_iconst (v := 1) hC dX12_joins_211 ?_
              refine pm_isub hC dX12_joins_212 ?_
              obtain ⟨y57, e58⟩ : ∃ y, V29 113 (((1200 + x46) - 1) : Int).toNat = y := ⟨_, rfl⟩
              replace hb50 := hb50.trans (pf_let_eq e58)
              have b59 := hV30.get 113 (((1200 + x46) - 1) : Int).toNat (lo := 0) (hi := 9999) (t := 0) (by decide) (show _ < 2400 by exact ow_87_31 b47) rfl
              rw [e58] at b59
              refine pm_iaload (len := 2400) (v := y57) hC 113 rfl rfl (by decide) ⟨by exact ow_87_32 c55, by exact ow_87_33 b47⟩ (by decide) e58 dX12_joins_213 ?_
              refine pm_if_ne (tgt := 223) hC ⟨by exact ow_87_34 b59, by exact ow_87_35 b59⟩ dX12_joins_214 (by decide) (fun c60 => ?_) (fun c60 => ?_)
              · skip
                replace hb50 := hb50.trans (if_pos c60)
                refine pm_aload_n hC 0 (by decide) dX12_joins_223 rfl ?_
                refine pm_getf (v := 114) hC 90 fl_X12_82 rfl rfl (by decide) rfl e36 dX12_joins_224 ?_
                refine pm_iload_n hC 3 dX12_joins_227 rfl ?_
                refine pm_iload hC 4 dX12_joins_228 rfl ?_
                refine pm_iastore (len := 8) hC 114 rfl rfl (by decide) ⟨by decide, by decide⟩ (by decide) dX12_joins_230 ?_
                replace hb40 := hb40.trans (pf_val_inr hb50)
                replace hb21 := hb21.trans (pf_val_inr hb40)
                replace hT := hT.trans (pf_val_inr hb21)
                exact pm_vret hC hR ⟨rfl, (hV30.put 114 (4 : Int).toNat (x := x46) (lo := 0) (hi := 600) rfl ⟨by exact ow_87_36 c55, by exact ow_87_37 b47⟩), (hF31.up 114 (4 : Int).toNat x46 (by decide) rfl), (by have q := (show (pm_up V29 114 (4 : Int).toNat x46) 114 0 = z0 from e32); have q2 := ez0; exact ow_87_6 ez0 q), (by have q := (show (pm_up V29 114 (4 : Int).toNat x46) 114 1 = y1 from e34); have q2 := e2; exact ow_87_6 e2 q), (by have q := (show (pm_up V29 114 (4 : Int).toNat x46) 114 2 = y4 from e35); have q2 := e5; exact ow_87_6 e5 q), (by have q := (show (pm_up V29 114 (4 : Int).toNat x46) 114 3 = z1 from e33); have q2 := ez1; exact ow_87_6 ez1 q), hT⟩ dX12_joins_231
              · skip
                replace hb50 := hb50.trans (if_neg (fun q => q c60))
                obtain ⟨x61, ei62⟩ : ∃ y : Int, x46 + (-1) = y := ⟨_, rfl⟩
                replace hb50 := hb50.trans (pf_let_eq ei62)
                refine pm_iinc (y := x61) (lv' := [(4, (0, x61)), (0, (3, 90)), (1, (0, 0)), (2, (0, 3)), (3, (0, 4)), (5, (0, x27))]) hC 4 dX12_joins_217 (by decide) rfl ei62 rfl ?_
                refine pm_goto (tgt := 193) hC dX12_joins_220 (by decide) ?_
                refine pm_lvsub [1, 2, 3, 4, 0, 5] (lv' := [(0, (3, 90)), (1, (0, 0)), (2, (0, 3)), (3, (0, 4)), (4, (0, x61)), (5, (0, x27))]) rfl ?_
                exact ih54 _ (by exact ow_87_38 hm52 c55 ei62) x61 ⟨by exact ow_87_39 c55 ei62, by exact ow_87_40 b47 ei62⟩ (hb40.trans (pf_val_inl hb50)) rfl
          refine pm_lvsub [0, 1, 2, 3, 4, 5] (lv' := [(0, (3, 90)), (1, (0, 0)), (2, (0, 3)), (3, (0, 4)), (4, (0, (z0 + z1))), (5, (0, x27))]) rfl ?_
          exact L51 _ (z0 + z1) ⟨by exact ow_87_41 hq0 hq1, by exact ow_87_42 b9 c26⟩ hb40 rfl
        · skip
          replace hb40 := hb40.trans (if_neg (Int.not_le.mpr c45))
          refine pm_lconst (x := 0) hC dX12_joins_59 rfl ?_
          refine pm_lstore (lv' := [(6, (1, 0)), (0, (3, 90)), (1, (0, 0)), (2, (0, 3)), (3, (0, 4)), (4, (0, (z0 + z1))), (5, (0, x27))]) hC dX12_joins_60 (by decide) rfl ?_
          refine pm_iconst (v := 0) hC dX12_joins_62 ?_
          refine pm_istore (lv' := [(8, (0, 0)), (6, (1, 0)), (0, (3, 90)), (1, (0, 0)), (2, (0, 3)), (3, (0, 4)), (4, (0, (z0 + z1))), (5, (0, x27))]) hC dX12_joins_63 (by decide) rfl ?_
          obtain ⟨B79, hB80, hb40⟩ := pf_loop hb40
          have L82 : ∀ (N84 : Nat) (x63 : Int) (x65 : Int) (V69 : pm_M), (0 ≤ x63 ∧ x63 ≤ 9999) → (0 ≤ x65 ∧ x65 ≤ 182) → (x65 ≤ z1 + 1) → (x63 ≤ 9999 * (z1 + 1 - x65)) → pm_oq pm_qB V69 → pm_fs [113, 114] [] V0 V69 → V69 114 0 = z0 → V69 114 3 = z1 → V69 114 1 = y1 → V69 114 2 = y4 → V69 90 53 = 114 → (∀ q : Nat, x27 + z1 + 1 ≤ (q : Int) → (q : Int) < (z0 + z1) → V69 113 (1200 + q) = 0) → (x65 ≤ z1 → V69 113 ((1200 + x27 + z1) : Int).toNat = 0) → B38 (x27, V29) = pf_val (.inr (.inr ((0 : Int), V0))) B79 (x63, x65, V69) → (Int.toNat (182 - x65)) = N84 → pm_J X 65 [(0, (3, 90)), (1, (0, 0)), (2, (0, 3)), (3, (0, 4)), (4, (0, (z0 + z1))), (5, (0, x27)), (6, (1, x63)), (8, (0, x65))] [] 118 V69 := by
            intro N84
            induction N84 using Nat.strongRecOn with
            | _ N84 ih85 =>
            intro x63 x65 V69 b64 b66 b67 b68 hV70 hF71 e72 e73 e74 e75 e76 hx77 hx78 hb40 hm83
            have hb81 := congrFun hB80 (x63, x65, V69)
            refine pm_iload hC 7 dX12_joins_65 rfl ?_
            refine pm_aload_n hC 0 (by decide) dX12_joins_67 rfl ?_
            refine pm_getf (v := 114) hC 90 fl_X12_82 rfl rfl (by decide) rfl e76 dX12_joins_68 ?_
            refine pm_iload_n hC 2 dX12_joins_71 rfl ?_
            refine pm_iaload (len := 8) (v := z1) hC 114 rfl rfl (by decide) ⟨by decide, by decide⟩ (by decide) e73 dX12_joins_72 ?_
            refine pm_icmp_lt (tgt := 83) hC ⟨by exact ow_87_43 b66, by exact ow_87_44 b66⟩ ⟨by exact ow_87_27 hq1, by exact ow_87_28 hq1⟩ dX12_joins_73 (by decide) (fun c86 => ?_) (fun c86 => ?_)
            · skip
              replace hb81 := hb81.trans (if_pos c86)
              refine pm_aload_n hC 0 (by decide) dX12_joins_83 rfl ?_
              have e87 : V69 90 52 = 113 := hV70.one 90 52 (by decide) (by decide) rfl
              refine pm_getf (v := 113) hC 90 fl_X12_79 rfl rfl (by decide) rfl e87 dX12_joins_84 ?_
              refine pm_iload_n hC 3 dX12_joins_87 rfl ?_
              refine pm_sipush (v := 300) hC dX12_joins_88 (by decide) ?_
              refine pm_imul hC dX12_joins_91 ?_
              change pm_J X 92 [(0, (3, 90)), (1, (0, 0)), (2, (0, 3)), (3, (0, 4)), (4, (0, (z0 + z1))), (5, (0, x27)), (6, (1, x63)), (8, (0, x65))] [(0, 1200), (3, 113)] 118 V69
              refine pm_iload hC 5 dX12_joins_92 rfl ?_
              refine pm_iadd hC dX12_joins_94 ?_
              refine pm_iload hC 7 dX12_joins_95 rfl ?_
              refine pm_iadd hC dX12_joins_97 ?_
              obtain ⟨y88, e89⟩ : ∃ y, V69 113 (((1200 + x27) + x65) : Int).toNat = y := ⟨_, rfl⟩
              replace hb81 := hb81.trans (pf_let_eq e89)
              have b90 := hV70.get 113 (((1200 + x27) + x65) : Int).toNat (lo := 0) (hi := 9999) (t := 0) (by decide) (show _ < 2400 by exact ow_87_45 b28 b66) rfl
              rw [e89] at b90
              refine pm_iaload (len := 2400) (v := y88) hC 113 rfl rfl (by decide) ⟨by exact ow_87_46 b28 b66, by exact ow_87_47 b28 b66⟩ (by decide) e89 dX12_joins_98 ?_
              refine pm_i2l hC ⟨by exact ow_87_34 b90, by exact ow_87_35 b90⟩ dX12_joins_99 ?_
              refine pm_lload hC 6 dX12_joins_100 rfl ?_
              refine pm_ladd hC dX12_joins_102 ?_
              refine pm_iload hC 7 dX12_joins_103 rfl ?_
              refine pm_aload_n hC 0 (by decide) dX12_joins_105 rfl ?_
              refine pm_getf (v := 114) hC 90 fl_X12_82 rfl rfl (by decide) rfl e76 dX12_joins_106 ?_
              refine pm_iload_n hC 2 dX12_joins_109 rfl ?_
              refine pm_iaload (len := 8) (v := z1) hC 114 rfl rfl (by decide) ⟨by decide, by decide⟩ (by decide) e73 dX12_joins_110 ?_
              refine pm_icmp_ge (tgt := 146) hC ⟨by exact ow_87_43 b66, by exact ow_87_44 b66⟩ ⟨by exact ow_87_27 hq1, by exact ow_87_28 hq1⟩ dX12_joins_111 (by decide) (fun c91 => ?_) (fun c91 => ?_)
              · skip
                replace hb81 := hb81.trans (if_pos c91)
                have hz92 : y88 = 0 := by
                  have hj : x65 = z1 := by exact ow_87_48 c86 c91
                  have h := hx78 (by exact ow_87_49 c86)
                  rw [← hj] at h
                  rw [← e89]
                  exact h
                refine pm_lconst (x := 0) hC dX12_joins_146 rfl ?_
                refine pm_ladd hC dX12_joins_147 ?_
                refine pm_lstore (lv' := [(9, (1, ((y88 + x63) + 0))), (0, (3, 90)), (1, (0, 0)), (2, (0, 3)), (3, (0, 4)), (4, (0, (z0 + z1))), (5, (0, x27)), (6, (1, x63)), (8, (0, x65))]) hC dX12_joins_148 (by decide) rfl ?_
                refine pm_aload_n hC 1 (by decide) dX12_joins_150 rfl ?_
                refine pm_getf (v := 113) hC 90 fl_X12_79 rfl rfl (by decide) rfl e87 dX12_joins_151 ?_
                refine pm_iload_n hC 4 dX12_joins_154 rfl ?_
                refine pm_sipush (v := 300) hC dX12_joins_155 (by decide) ?_
                refine pm_imul hC dX12_joins_158 ?_
                change pm_J X 159 [(9, (1, ((y88 + x63) + 0))), (0, (3, 90)), (1, (0, 0)), (2, (0, 3)), (3, (0, 4)), (4, (0, (z0 + z1))), (5, (0, x27)), (6, (1, x63)), (8, (0, x65))] [(0, 1200), (3, 113)] 118 V69
                refine pm_iload hC 6 dX12_joins_159 rfl ?_
                refine pm_iadd hC dX12_joins_161 ?_
                refine pm_iload hC 8 dX12_joins_162 rfl ?_
                refine pm_iadd hC dX12_joins_164 ?_
                refine pm_lload hC 0 dX12_joins_165 rfl ?_
                refine pm_ldc2 (v := 10000) hC 7157 dX12_joins_167 (by decide +kernel) ?_
                refine pm_lrem hC ⟨by exact ow_87_50 c86 c91, by exact ow_87_51 b64 b90, by exact ow_87_52 b64 hz92⟩ ⟨by decide, by decide, by decide⟩ dX12_joins_170 ?_
                refine pm_l2i hC dX12_joins_171 ?_
                refine pm_iastore (len := 2400) hC 113 rfl rfl (by decide) ⟨by exact ow_87_46 b28 b66, by exact ow_87_47 b28 b66⟩ (by decide) dX12_joins_172 ?_
                refine pm_lload hC 0 dX12_joins_173 rfl ?_
                refine pm_ldc2 (v := 10000) hC 7157 dX12_joins_175 (by decide +kernel) ?_
                refine pm_ldiv hC ⟨by exact ow_87_50 c86 c91, by exact ow_87_51 b64 b90, by exact ow_87_52 b64 hz92⟩ ⟨by decide, by decide, by decide⟩ dX12_joins_178 ?_
                refine pm_lstore (lv' := [(6, (1, (((y88 + x63) + 0) / 10000))), (9, (1, ((y88 + x63) + 0))), (0, (3, 90)), (1, (0, 0)), (2, (0, 3)), (3, (0, 4)), (4, (0, (z0 + z1))), (5, (0, x27)), (8, (0, x65))]) hC dX12_joins_179 (by decide) rfl ?_
                obtain ⟨x93, ei94⟩ : ∃ y : Int, x65 + 1 = y := ⟨_, rfl⟩
                replace hb81 := hb81.trans (pf_let_eq ei94)
                refine pm_iinc (y := x93) (lv' := [(8, (0, x93)), (6, (1, (((y88 + x63) + 0) / 10000))), (9, (1, ((y88 + x63) + 0))), (0, (3, 90)), (1, (0, 0)), (2, (0, 3)), (3, (0, 4)), (4, (0, (z0 + z1))), (5, (0, x27))]) hC 8 dX12_joins_181 (by decide) rfl ei94 rfl ?_
                refine pm_goto (tgt := 65) hC dX12_joins_184 (by decide) ?_
                refine pm_lvsub [3, 4, 5, 6, 7, 8, 1, 0] (lv' := [(0, (3, 90)), (1, (0, 0)), (2, (0, 3)), (3, (0, 4)), (4, (0, (z0 + z1))), (5, (0, x27)), (6, (1, (((y88 + x63) + 0) / 10000))), (8, (0, x93))]) rfl ?_
                exact ih85 _ (by exact ow_87_53 c86 c91) (((y88 + x63) + 0) / 10000) x93 (pm_up V69 113 (((1200 + x27) + x65) : Int).toNat (((y88 + x63) + 0) % 10000)) ⟨by exact ow_87_54 c86 c91, by exact ow_87_55 b64 hz92⟩ ⟨by exact ow_87_56 b66 ei94, by exact ow_87_57 hq1 c86 ei94⟩ (by exact ow_87_58 c86 ei94) (by exact ow_87_59 c86 c91) (hV70.put 113 (((1200 + x27) + x65) : Int).toNat (x := (((y88 + x63) + 0) % 10000)) (lo := 0) (hi := 9999) rfl ⟨by exact ow_87_60, by exact ow_87_61⟩) (hF71.up 113 (((1200 + x27) + x65) : Int).toNat (((y88 + x63) + 0) % 10000) (by decide) rfl) e72 e73 e74 e75 e76 (fun q h1 h2 => by show pm_up V69 113 (((1200 + x27) + x65) : Int).toNat (((y88 + x63) + 0) % 10000) 113 (1200 + q) = 0; rw [pm_up_i (by exact ow_87_62 c86 c91)]; exact hx77 q h1 h2) (fun h => by show pm_up V69 113 (((1200 + x27) + x65) : Int).toNat (((y88 + x63) + 0) % 10000) 113 ((1200 + x27 + z1) : Int).toNat = 0; rw [pm_up_i (by exact ow_87_63 c86 c91)]; exact hx78 (by exact ow_87_49 c86)) (hb40.trans (pf_val_inl hb81)) rfl
              · skip
                replace hb81 := hb81.trans (if_neg (Int.not_le.mpr c91))
                refine pm_aload_n hC 0 (by decide) dX12_joins_114 rfl ?_
                refine pm_getf (v := 113) hC 90 fl_X12_79 rfl rfl (by decide) rfl e87 dX12_joins_115 ?_
                refine pm_iload_n hC 1 dX12_joins_118 rfl ?_
                refine pm_sipush (v := 300) hC dX12_joins_119 (by decide) ?_
                refine pm_imul hC dX12_joins_122 ?_
                change pm_J X 123 [(0, (3, 90)), (1, (0, 0)), (2, (0, 3)), (3, (0, 4)), (4, (0, (z0 + z1))), (5, (0, x27)), (6, (1, x63)), (8, (0, x65))] [(0, 0), (3, 113), (1, (y88 + x63))] 118 V69
                refine pm_iload hC 5 dX12_joins_123 rfl ?_
                refine pm_iadd hC dX12_joins_125 ?_
                obtain ⟨y95, e96⟩ : ∃ y, V69 113 ((0 + x27) : Int).toNat = y := ⟨_, rfl⟩
                replace hb81 := hb81.trans (pf_let_eq e96)
                have b97 := hV70.get 113 ((0 + x27) : Int).toNat (lo := 0) (hi := 9999) (t := 0) (by decide) (show _ < 2400 by exact ow_87_64 b28) rfl
                rw [e96] at b97
                refine pm_iaload (len := 2400) (v := y95) hC 113 rfl rfl (by decide) ⟨by exact ow_87_65 b28, by exact ow_87_66 b28⟩ (by decide) e96 dX12_joins_126 ?_
                refine pm_i2l hC ⟨by exact ow_87_34 b97, by exact ow_87_35 b97⟩ dX12_joins_127 ?_
                refine pm_aload_n hC 0 (by decide) dX12_joins_128 rfl ?_
                refine pm_getf (v := 113) hC 90 fl_X12_79 rfl rfl (by decide) rfl e87 dX12_joins_129 ?_
                refine pm_iload_n hC 2 dX12_joins_132 rfl ?_
                refine pm_sipush (v := 300) hC dX12_joins_133 (by decide) ?_
                refine pm_imul hC dX12_joins_136 ?_
                change pm_J X 137 [(0, (3, 90)), (1, (0, 0)), (2, (0, 3)), (3, (0, 4)), (4, (0, (z0 + z1))), (5, (0, x27)), (6, (1, x63)), (8, (0, x65))] [(0, 900), (3, 113), (1, y95), (1, (y88 + x63))] 118 V69
                refine pm_iload hC 7 dX12_joins_137 rfl ?_
                refine pm_iadd hC dX12_joins_139 ?_
                obtain ⟨y98, e99⟩ : ∃ y, V69 113 ((900 + x65) : Int).toNat = y := ⟨_, rfl⟩
                replace hb81 := hb81.trans (pf_let_eq e99)
                have b100 := hV70.get 113 ((900 + x65) : Int).toNat (lo := 0) (hi := 9999) (t := 0) (by decide) (show _ < 2400 by exact ow_87_67 b66) rfl
                rw [e99] at b100
                refine pm_iaload (len := 2400) (v := y98) hC 113 rfl rfl (by decide) ⟨by exact ow_87_68 b66, by exact ow_87_69 b66⟩ (by decide) e99 dX12_joins_140 ?_
                refine pm_i2l hC ⟨by exact ow_87_34 b100, by exact ow_87_35 b100⟩ dX12_joins_141 ?_
                refine pm_lmul hC dX12_joins_142 ?_
                have b102 : 0 ≤ (y95 * y98) ∧ (y95 * y98) ≤ 99980001 := pm_mulb (by exact ow_87_15 b97) (by exact ow_87_15 b100) (show y95 ≤ 9999 by exact ow_87_16 b97) (show y98 ≤ 9999 by exact ow_87_16 b100) (by decide)
                obtain ⟨y101, hey101⟩ : ∃ z, (y95 * y98) = z := ⟨_, rfl⟩
                rw [hey101] at b102 ⊢
                replace hb81 := hb81.trans (pf_let_eq hey101)
                refine pm_goto (tgt := 147) hC dX12_joins_143 (by decide) ?_
                refine pm_ladd hC dX12_joins_147 ?_
                refine pm_lstore (lv' := [(9, (1, ((y88 + x63) + y101))), (0, (3, 90)), (1, (0, 0)), (2, (0, 3)), (3, (0, 4)), (4, (0, (z0 + z1))), (5, (0, x27)), (6, (1, x63)), (8, (0, x65))]) hC dX12_joins_148 (by decide) rfl ?_
                refine pm_aload_n hC 1 (by decide) dX12_joins_150 rfl ?_
                refine pm_getf (v := 113) hC 90 fl_X12_79 rfl rfl (by decide) rfl e87 dX12_joins_151 ?_
                refine pm_iload_n hC 4 dX12_joins_154 rfl ?_
                refine pm_sipush (v := 300) hC dX12_joins_155 (by decide) ?_
                refine pm_imul hC dX12_joins_158 ?_
                change pm_J X 159 [(9, (1, ((y88 + x63) + y101))), (0, (3, 90)), (1, (0, 0)), (2, (0, 3)), (3, (0, 4)), (4, (0, (z0 + z1))), (5, (0, x27)), (6, (1, x63)), (8, (0, x65))] [(0, 1200), (3, 113)] 118 V69
                refine pm_iload hC 6 dX12_joins_159 rfl ?_
                refine pm_iadd hC dX12_joins_161 ?_
                refine pm_iload hC 8 dX12_joins_162 rfl ?_
                refine pm_iadd hC dX12_joins_164 ?_
                refine pm_lload hC 0 dX12_joins_165 rfl ?_
                refine pm_ldc2 (v := 10000) hC 7157 dX12_joins_167 (by decide +kernel) ?_
                refine pm_lrem hC ⟨by exact ow_87_70 b64 b90 b102, by exact ow_87_71 b64 b90 b102, by exact ow_87_72 b64 b90 b102⟩ ⟨by decide, by decide, by decide⟩ dX12_joins_170 ?_
                refine pm_l2i hC dX12_joins_171 ?_
                refine pm_iastore (len := 2400) hC 113 rfl rfl (by decide) ⟨by exact ow_87_46 b28 b66, by exact ow_87_47 b28 b66⟩ (by decide) dX12_joins_172 ?_
                refine pm_lload hC 0 dX12_joins_173 rfl ?_
                refine pm_ldc2 (v := 10000) hC 7157 dX12_joins_175 (by decide +kernel) ?_
                refine pm_ldiv hC ⟨by exact ow_87_70 b64 b90 b102, by exact ow_87_71 b64 b90 b102, by exact ow_87_72 b64 b90 b102⟩ ⟨by decide, by decide, by decide⟩ dX12_joins_178 ?_
                refine pm_lstore (lv' := [(6, (1, (((y88 + x63) + y101) / 10000))), (9, (1, ((y88 + x63) + y101))), (0, (3, 90)), (1, (0, 0)), (2, (0, 3)), (3, (0, 4)), (4, (0, (z0 + z1))), (5, (0, x27)), (8, (0, x65))]) hC dX12_joins_179 (by decide) rfl ?_
                obtain ⟨x103, ei104⟩ : ∃ y : Int, x65 + 1 = y := ⟨_, rfl⟩
                replace hb81 := hb81.trans (pf_let_eq ei104)
                refine pm_iinc (y := x103) (lv' := [(8, (0, x103)), (6, (1, (((y88 + x63) + y101) / 10000))), (9, (1, ((y88 + x63) + y101))), (0, (3, 90)), (1, (0, 0)), (2, (0, 3)), (3, (0, 4)), (4, (0, (z0 + z1))), (5, (0, x27))]) hC 8 dX12_joins_181 (by decide) rfl ei104 rfl ?_
                refine pm_goto (tgt := 65) hC dX12_joins_184 (by decide) ?_
                refine pm_lvsub [3, 4, 5, 6, 7, 8, 1, 0] (lv' := [(0, (3, 90)), (1, (0, 0)), (2, (0, 3)), (3, (0, 4)), (4, (0, (z0 + z1))), (5, (0, x27)), (6, (1, (((y88 + x63) + y101) / 10000))), (8, (0, x103))]) rfl ?_
                exact ih85 _ (by exact ow_87_73 hq1 hm83 c86 ei104) (((y88 + x63) + y101) / 10000) x103 (pm_up V69 113 (((1200 + x27) + x65) : Int).toNat (((y88 + x63) + y101) % 10000)) ⟨by exact ow_87_74 b64 b90 b102, by exact ow_87_75 b64 b90 b102⟩ ⟨by exact ow_87_56 b66 ei104, by exact ow_87_57 hq1 c86 ei104⟩ (by exact ow_87_58 c86 ei104) (by omega) (hV70.put 113 (((1200 + x27) + x65) : Int).toNat (x := (((y88 + x63) + y101) % 10000)) (lo := 0) (hi := 9999) rfl ⟨by exact ow_87_76, by exact ow_87_77⟩) (hF71.up 113 (((1200 + x27) + x65) : Int).toNat (((y88 + x63) + y101) % 10000) (by decide) rfl) e72 e73 e74 e75 e76 (fun q h1 h2 => by show pm_up V69 113 (((1200 + x27) + x65) : Int).toNat (((y88 + x63) + y101) % 10000) 113 (1200 + q) = 0; rw [pm_up_i (by exact ow_87_78 c86 h1)]; exact hx77 q h1 h2) (fun h => by show pm_up V69 113 (((1200 + x27) + x65) : Int).toNat (((y88 + x63) + y101) % 10000) 113 ((1200 + x27 + z1) : Int).toNat = 0; rw [pm_up_i (by exact ow_87_79 b28 b66 c86)]; exact hx78 (by exact ow_87_49 c86)) (hb40.trans (pf_val_inl hb81)) rfl
            · skip
              replace hb81 := hb81.trans (if_neg (Int.not_lt.mpr c86))
              refine pm_lload hC 6 dX12_joins_76 rfl ?_
              refine pm_lconst (x := 0) hC dX12_joins_78 rfl ?_
              refine pm_lcmp hC ⟨by exact ow_87_80 b64, by exact ow_87_81 b64⟩ ⟨by decide, by decide⟩ dX12_joins_79 (fun y105 b106 => ?_)
              replace hb81 := hb81.trans (pf_let_eq (pm_cmp_u b106))
              refine pm_if_le (tgt := 187) hC ⟨by exact ow_87_82 b106, by exact ow_87_83 b106⟩ dX12_joins_80 (by decide) (fun c107 => ?_) (fun c107 => ?_)
              · skip
                replace hb81 := hb81.trans (if_pos c107)
                obtain ⟨x108, ei109⟩ : ∃ y : Int, x27 + 1 = y := ⟨_, rfl⟩
                replace hb81 := hb81.trans (pf_let_eq ei109)
                refine pm_iinc (y := x108) (lv' := [(5, (0, x108)), (0, (3, 90)), (1, (0, 0)), (2, (0, 3)), (3, (0, 4)), (4, (0, (z0 + z1))), (6, (1, x63)), (8, (0, x65))]) hC 5 dX12_joins_187 (by decide) rfl ei109 rfl ?_
                refine pm_goto (tgt := 48) hC dX12_joins_190 (by decide) ?_
                replace hb40 := hb40.trans (pf_val_inr hb81)
                refine pm_lvsub [1, 2, 3, 4, 5, 0] (lv' := [(0, (3, 90)), (1, (0, 0)), (2, (0, 3)), (3, (0, 4)), (4, (0, (z0 + z1))), (5, (0, x108))]) rfl ?_
                exact ih44 _ (by exact ow_87_84 hq0 hm42 c45 ei109) x108 V69 ⟨by exact ow_87_85 b28 ei109, by exact ow_87_86 hq0 c45 ei109⟩ hV70 hF71 e72 e73 e74 e75 e76 (fun q h1 h2 => hx77 q (by exact ow_87_87 ei109 h1) h2) (hb21.trans (pf_val_inl hb40)) rfl
              · skip
                replace hb81 := hb81.trans (if_neg (Int.not_le.mpr c107))
                refine pm_aload_n hC 0 (by decide) dX12_joins_83 rfl ?_
                have e110 : V69 90 52 = 113 := hV70.one 90 52 (by decide) (by decide) rfl
                refine pm_getf (v := 113) hC 90 fl_X12_79 rfl rfl (by decide) rfl e110 dX12_joins_84 ?_
                refine pm_iload_n hC 3 dX12_joins_87 rfl ?_
                refine pm_sipush (v := 300) hC dX12_joins_88 (by decide) ?_
                refine pm_imul hC dX12_joins_91 ?_
                change pm_J X 92 [(0, (3, 90)), (1, (0, 0)), (2, (0, 3)), (3, (0, 4)), (4, (0, (z0 + z1))), (5, (0, x27)), (6, (1, x63)), (8, (0, x65))] [(0, 1200), (3, 113)] 118 V69
                refine pm_iload hC 5 dX12_joins_92 rfl ?_
                refine pm_iadd hC dX12_joins_94 ?_
                refine pm_iload hC 7 dX12_joins_95 rfl ?_
                refine pm_iadd hC dX12_joins_97 ?_
                obtain ⟨y111, e112⟩ : ∃ y, V69 113 (((1200 + x27) + x65) : Int).toNat = y := ⟨_, rfl⟩
                replace hb81 := hb81.trans (pf_let_eq e112)
                have b113 := hV70.get 113 (((1200 + x27) + x65) : Int).toNat (lo := 0) (hi := 9999) (t := 0) (by decide) (show _ < 2400 by exact ow_87_45 b28 b66) rfl
                rw [e112] at b113
                refine pm_iaload (len := 2400) (v := y111) hC 113 rfl rfl (by decide) ⟨by exact ow_87_46 b28 b66, by exact ow_87_47 b28 b66⟩ (by decide) e112 dX12_joins_98 ?_
                refine pm_i2l hC ⟨by exact ow_87_34 b113, by exact ow_87_35 b113⟩ dX12_joins_99 ?_
                refine pm_lload hC 6 dX12_joins_100 rfl ?_
                refine pm_ladd hC dX12_joins_102 ?_
                refine pm_iload hC 7 dX12_joins_103 rfl ?_
                refine pm_aload_n hC 0 (by decide) dX12_joins_105 rfl ?_
                refine pm_getf (v := 114) hC 90 fl_X12_82 rfl rfl (by decide) rfl e76 dX12_joins_106 ?_
                refine pm_iload_n hC 2 dX12_joins_109 rfl ?_
                refine pm_iaload (len := 8) (v := z1) hC 114 rfl rfl (by decide) ⟨by decide, by decide⟩ (by decide) e73 dX12_joins_110 ?_
                refine pm_icmp_ge (tgt := 146) hC ⟨by exact ow_87_43 b66, by exact ow_87_44 b66⟩ ⟨by exact ow_87_27 hq1, by exact ow_87_28 hq1⟩ dX12_joins_111 (by decide) (fun c114 => ?_) (fun c114 => ?_)
                · skip
                  replace hb81 := hb81.trans (if_pos c114)
                  have hz115 : y111 = 0 := by
                    have hj : x65 = z1 := by exact ow_87_88 b68 c86 b106 c107
                    have h := hx78 (by exact ow_87_89 hj)
                    rw [← hj] at h
                    rw [← e112]
                    exact h
                  refine pm_lconst (x := 0) hC dX12_joins_146 rfl ?_
                  refine pm_ladd hC dX12_joins_147 ?_
                  refine pm_lstore (lv' := [(9, (1, ((y111 + x63) + 0))), (0, (3, 90)), (1, (0, 0)), (2, (0, 3)), (3, (0, 4)), (4, (0, (z0 + z1))), (5, (0, x27)), (6, (1, x63)), (8, (0, x65))]) hC dX12_joins_148 (by decide) rfl ?_
                  refine pm_aload_n hC 1 (by decide) dX12_joins_150 rfl ?_
                  refine pm_getf (v := 113) hC 90 fl_X12_79 rfl rfl (by decide) rfl e110 dX12_joins_151 ?_
                  refine pm_iload_n hC 4 dX12_joins_154 rfl ?_
                  refine pm_sipush (v := 300) hC dX12_joins_155 (by decide) ?_
                  refine pm_imul hC dX12_joins_158 ?_
                  change pm_J X 159 [(9, (1, ((y111 + x63) + 0))), (0, (3, 90)), (1, (0, 0)), (2, (0, 3)), (3, (0, 4)), (4, (0, (z0 + z1))), (5, (0, x27)), (6, (1, x63)), (8, (0, x65))] [(0, 1200), (3, 113)] 118 V69
                  refine pm_iload hC 6 dX12_joins_159 rfl ?_
                  refine pm_iadd hC dX12_joins_161 ?_
                  refine pm_iload hC 8 dX12_joins_162 rfl ?_
                  refine pm_iadd hC dX12_joins_164 ?_
                  refine pm_lload hC 0 dX12_joins_165 rfl ?_
                  refine pm_ldc2 (v := 10000) hC 7157 dX12_joins_167 (by decide +kernel) ?_
                  refine pm_lrem hC ⟨by exact ow_87_90 b64 b113, by exact ow_87_51 b64 b113, by exact ow_87_52 b64 hz115⟩ ⟨by decide, by decide, by decide⟩ dX12_joins_170 ?_
                  refine pm_l2i hC dX12_joins_171 ?_
                  refine pm_iastore (len := 2400) hC 113 rfl rfl (by decide) ⟨by exact ow_87_46 b28 b66, by exact ow_87_47 b28 b66⟩ (by decide) dX12_joins_172 ?_
                  refine pm_lload hC 0 dX12_joins_173 rfl ?_
                  refine pm_ldc2 (v := 10000) hC 7157 dX12_joins_175 (by decide +kernel) ?_
                  refine pm_ldiv hC ⟨by exact ow_87_90 b64 b113, by exact ow_87_51 b64 b113, by exact ow_87_52 b64 hz115⟩ ⟨by decide, by decide, by decide⟩ dX12_joins_178 ?_
                  refine pm_lstore (lv' := [(6, (1, (((y111 + x63) + 0) / 10000))), (9, (1, ((y111 + x63) + 0))), (0, (3, 90)), (1, (0, 0)), (2, (0, 3)), (3, (0, 4)), (4, (0, (z0 + z1))), (5, (0, x27)), (8, (0, x65))]) hC dX12_joins_179 (by decide) rfl ?_
                  obtain ⟨x116, ei117⟩ : ∃ y : Int, x65 + 1 = y := ⟨_, rfl⟩
                  replace hb81 := hb81.trans (pf_let_eq ei117)
                  refine pm_iinc (y := x116) (lv' := [(8, (0, x116)), (6, (1, (((y111 + x63) + 0) / 10000))), (9, (1, ((y111 + x63) + 0))), (0, (3, 90)), (1, (0, 0)), (2, (0, 3)), (3, (0, 4)), (4, (0, (z0 + z1))), (5, (0, x27))]) hC 8 dX12_joins_181 (by decide) rfl ei117 rfl ?_
                  refine pm_goto (tgt := 65) hC dX12_joins_184 (by decide) ?_
                  refine pm_lvsub [3, 4, 5, 6, 7, 8, 1, 0] (lv' := [(0, (3, 90)), (1, (0, 0)), (2, (0, 3)), (3, (0, 4)), (4, (0, (z0 + z1))), (5, (0, x27)), (6, (1, (((y111 + x63) + 0) / 10000))), (8, (0, x116))]) rfl ?_
                  exact ih85 _ (by exact ow_87_91 hq1 b68 hm83 b106 c107 ei117) (((y111 + x63) + 0) / 10000) x116 (pm_up V69 113 (((1200 + x27) + x65) : Int).toNat (((y111 + x63) + 0) % 10000)) ⟨by exact ow_87_92 b64 b113, by exact ow_87_55 b64 hz115⟩ ⟨by exact ow_87_56 b66 ei117, by exact ow_87_93 hq1 b68 b106 c107 ei117⟩ (by exact ow_87_94 b68 b106 c107 ei117) (by omega) (hV70.put 113 (((1200 + x27) + x65) : Int).toNat (x := (((y111 + x63) + 0) % 10000)) (lo := 0) (hi := 9999) rfl ⟨by exact ow_87_60, by exact ow_87_61⟩) (hF71.up 113 (((1200 + x27) + x65) : Int).toNat (((y111 + x63) + 0) % 10000) (by decide) rfl) e72 e73 e74 e75 e76 (fun q h1 h2 => by show pm_up V69 113 (((1200 + x27) + x65) : Int).toNat (((y111 + x63) + 0) % 10000) 113 (1200 + q) = 0; rw [pm_up_i (by exact ow_87_95 b68 b106 c107 h1)]; exact hx77 q h1 h2) (fun h => by show pm_up V69 113 (((1200 + x27) + x65) : Int).toNat (((y111 + x63) + 0) % 10000) 113 ((1200 + x27 + z1) : Int).toNat = 0; rw [pm_up_i (by exact ow_87_96 c86 ei117 h)]; exact hx78 (by exact ow_87_97 ei117 h)) (hb40.trans (pf_val_inl hb81)) rfl
                · skip
                  replace hb81 := hb81.trans (if_neg (Int.not_le.mpr c114))
                  refine pm_aload_n hC 0 (by decide) dX12_joins_114 rfl ?_
                  refine pm_getf (v := 113) hC 90 fl_X12_79 rfl rfl (by decide) rfl e110 dX12_joins_115 ?_
                  refine pm_iload_n hC 1 dX12_joins_118 rfl ?_
                  refine pm_sipush (v := 300) hC dX12_joins_119 (by decide) ?_
                  refine pm_imul hC dX12_joins_122 ?_
                  change pm_J X 123 [(0, (3, 90)), (1, (0, 0)), (2, (0, 3)), (3, (0, 4)), (4, (0, (z0 + z1))), (5, (0, x27)), (6, (1, x63)), (8, (0, x65))] [(0, 0), (3, 113), (1, (y111 + x63))] 118 V69
                  refine pm_iload hC 5 dX12_joins_123 rfl ?_
                  refine pm_iadd hC dX12_joins_125 ?_
                  obtain ⟨y118, e119⟩ : ∃ y, V69 113 ((0 + x27) : Int).toNat = y := ⟨_, rfl⟩
                  replace hb81 := hb81.trans (pf_let_eq e119)
                  have b120 := hV70.get 113 ((0 + x27) : Int).toNat (lo := 0) (hi := 9999) (t := 0) (by decide) (show _ < 2400 by exact ow_87_98 c86 c114) rfl
                  rw [e119] at b120
                  refine pm_iaload (len := 2400) (v := y118) hC 113 rfl rfl (by decide) ⟨by exact ow_87_65 b28, by exact ow_87_66 b28⟩ (by decide) e119 dX12_joins_126 ?_
                  refine pm_i2l hC ⟨by exact ow_87_34 b120, by exact ow_87_35 b120⟩ dX12_joins_127 ?_
                  refine pm_aload_n hC 0 (by decide) dX12_joins_128 rfl ?_
                  refine pm_getf (v := 113) hC 90 fl_X12_79 rfl rfl (by decide) rfl e110 dX12_joins_129 ?_
                  refine pm_iload_n hC 2 dX12_joins_132 rfl ?_
                  refine pm_sipush (v := 300) hC dX12_joins_133 (by decide) ?_
                  refine pm_imul hC dX12_joins_136 ?_
                  change pm_J X 137 [(0, (3, 90)), (1, (0, 0)), (2, (0, 3)), (3, (0, 4)), (4, (0, (z0 + z1))), (5, (0, x27)), (6, (1, x63)), (8, (0, x65))] [(0, 900), (3, 113), (1, y118), (1, (y111 + x63))] 118 V69
                  refine pm_iload hC 7 dX12_joins_137 rfl ?_
                  refine pm_iadd hC dX12_joins_139 ?_
                  obtain ⟨y121, e122⟩ : ∃ y, V69 113 ((900 + x65) : Int).toNat = y := ⟨_, rfl⟩
                  replace hb81 := hb81.trans (pf_let_eq e122)
                  have b123 := hV70.get 113 ((900 + x65) : Int).toNat (lo := 0) (hi := 9999) (t := 0) (by decide) (show _ < 2400 by exact ow_87_99 c86 c114) rfl
                  rw [e122] at b123
                  refine pm_iaload (len := 2400) (v := y121) hC 113 rfl rfl (by decide) ⟨by exact ow_87_68 b66, by exact ow_87_69 b66⟩ (by decide) e122 dX12_joins_140 ?_
                  refine pm_i2l hC ⟨by exact ow_87_34 b123, by exact ow_87_35 b123⟩ dX12_joins_141 ?_
                  refine pm_lmul hC dX12_joins_142 ?_
                  have b125 : 0 ≤ (y118 * y121) ∧ (y118 * y121) ≤ 99980001 := pm_mulb (by exact ow_87_15 b120) (by exact ow_87_15 b123) (show y118 ≤ 9999 by exact ow_87_16 b120) (show y121 ≤ 9999 by exact ow_87_16 b123) (by decide)
                  obtain ⟨y124, hey124⟩ : ∃ z, (y118 * y121) = z := ⟨_, rfl⟩
                  rw [hey124] at b125 ⊢
                  replace hb81 := hb81.trans (pf_let_eq hey124)
                  refine pm_goto (tgt := 147) hC dX12_joins_143 (by decide) ?_
                  refine pm_ladd hC dX12_joins_147 ?_
                  refine pm_lstore (lv' := [(9, (1, ((y111 + x63) + y124))), (0, (3, 90)), (1, (0, 0)), (2, (0, 3)), (3, (0, 4)), (4, (0, (z0 + z1))), (5, (0, x27)), (6, (1, x63)), (8, (0, x65))]) hC dX12_joins_148 (by decide) rfl ?_
                  refine pm_aload_n hC 1 (by decide) dX12_joins_150 rfl ?_
                  refine pm_getf (v := 113) hC 90 fl_X12_79 rfl rfl (by decide) rfl e110 dX12_joins_151 ?_
                  refine pm_iload_n hC 4 dX12_joins_154 rfl ?_
                  refine pm_sipush (v := 300) hC dX12_joins_155 (by decide) ?_
                  refine pm_imul hC dX12_joins_158 ?_
                  change pm_J X 159 [(9, (1, ((y111 + x63) + y124))), (0, (3, 90)), (1, (0, 0)), (2, (0, 3)), (3, (0, 4)), (4, (0, (z0 + z1))), (5, (0, x27)), (6, (1, x63)), (8, (0, x65))] [(0, 1200), (3, 113)] 118 V69
                  refine pm_iload hC 6 dX12_joins_159 rfl ?_
                  refine pm_iadd hC dX12_joins_161 ?_
                  refine pm_iload hC 8 dX12_joins_162 rfl ?_
                  refine pm_iadd hC dX12_joins_164 ?_
                  refine pm_lload hC 0 dX12_joins_165 rfl ?_
                  refine pm_ldc2 (v := 10000) hC 7157 dX12_joins_167 (by decide +kernel) ?_
                  refine pm_lrem hC ⟨by exact ow_87_100 c86 c114, by exact ow_87_71 b64 b113 b125, by exact ow_87_72 b64 b113 b125⟩ ⟨by decide, by decide, by decide⟩ dX12_joins_170 ?_
                  refine pm_l2i hC dX12_joins_171 ?_
                  refine pm_iastore (len := 2400) hC 113 rfl rfl (by decide) ⟨by exact ow_87_46 b28 b66, by exact ow_87_47 b28 b66⟩ (by decide) dX12_joins_172 ?_
                  refine pm_lload hC 0 dX12_joins_173 rfl ?_
                  refine pm_ldc2 (v := 10000) hC 7157 dX12_joins_175 (by decide +kernel) ?_
                  refine pm_ldiv hC ⟨by exact ow_87_100 c86 c114, by exact ow_87_71 b64 b113 b125, by exact ow_87_72 b64 b113 b125⟩ ⟨by decide, by decide, by decide⟩ dX12_joins_178 ?_
                  refine pm_lstore (lv' := [(6, (1, (((y111 + x63) + y124) / 10000))), (9, (1, ((y111 + x63) + y124))), (0, (3, 90)), (1, (0, 0)), (2, (0, 3)), (3, (0, 4)), (4, (0, (z0 + z1))), (5, (0, x27)), (8, (0, x65))]) hC dX12_joins_179 (by decide) rfl ?_
                  obtain ⟨x126, ei127⟩ : ∃ y : Int, x65 + 1 = y := ⟨_, rfl⟩
                  replace hb81 := hb81.trans (pf_let_eq ei127)
                  refine pm_iinc (y := x126) (lv' := [(8, (0, x126)), (6, (1, (((y111 + x63) + y124) / 10000))), (9, (1, ((y111 + x63) + y124))), (0, (3, 90)), (1, (0, 0)), (2, (0, 3)), (3, (0, 4)), (4, (0, (z0 + z1))), (5, (0, x27))]) hC 8 dX12_joins_181 (by decide) rfl ei127 rfl ?_
                  refine pm_goto (tgt := 65) hC dX12_joins_184 (by decide) ?_
                  refine pm_lvsub [3, 4, 5, 6, 7, 8, 1, 0] (lv' := [(0, (3, 90)), (1, (0, 0)), (2, (0, 3)), (3, (0, 4)), (4, (0, (z0 + z1))), (5, (0, x27)), (6, (1, (((y111 + x63) + y124) / 10000))), (8, (0, x126))]) rfl ?_
                  exact ih85 _ (by exact ow_87_101 c86 c114) (((y111 + x63) + y124) / 10000) x126 (pm_up V69 113 (((1200 + x27) + x65) : Int).toNat (((y111 + x63) + y124) % 10000)) ⟨by exact ow_87_102 c86 c114, by exact ow_87_103 c86 c114⟩ ⟨by exact ow_87_56 b66 ei127, by exact ow_87_57 hq1 c114 ei127⟩ (by exact ow_87_58 c114 ei127) (by exact ow_87_104 c86 c114) (hV70.put 113 (((1200 + x27) + x65) : Int).toNat (x := (((y111 + x63) + y124) % 10000)) (lo := 0) (hi := 9999) rfl ⟨by exact ow_87_76, by exact ow_87_77⟩) (hF71.up 113 (((1200 + x27) + x65) : Int).toNat (((y111 + x63) + y124) % 10000) (by decide) rfl) e72 e73 e74 e75 e76 (fun q h1 h2 => by show pm_up V69 113 (((1200 + x27) + x65) : Int).toNat (((y111 + x63) + y124) % 10000) 113 (1200 + q) = 0; rw [pm_up_i (by exact ow_87_105 c86 c114)]; exact hx77 q h1 h2) (fun h => by show pm_up V69 113 (((1200 + x27) + x65) : Int).toNat (((y111 + x63) + y124) % 10000) 113 ((1200 + x27 + z1) : Int).toNat = 0; rw [pm_up_i (by exact ow_87_106 c86 c114)]; exact hx78 (by exact ow_87_49 c114)) (hb40.trans (pf_val_inl hb81)) rfl
          refine pm_lvsub [2, 3, 4, 5, 6, 7, 1, 0] (lv' := [(0, (3, 90)), (1, (0, 0)), (2, (0, 3)), (3, (0, 4)), (4, (0, (z0 + z1))), (5, (0, x27)), (6, (1, 0)), (8, (0, 0))]) rfl ?_
          exact L82 _ 0 0 V29 ⟨by decide, by decide⟩ ⟨by decide, by decide⟩ (by exact ow_87_107 hq1) (by exact ow_87_108 hq1) hV30 hF31 e32 e33 e34 e35 e36 (fun q h1 h2 => hx37 q (by exact ow_87_109 h1) h2) (fun _ => by have h := hx37 ((x27 + z1) : Int).toNat (by exact ow_87_110) (by exact ow_87_111 hq1 b28 c45); rw [show ((1200 + x27 + z1) : Int).toNat = 1200 + ((x27 + z1) : Int).toNat by exact ow_87_112 hq1 b28]; exact h) hb40 rfl
      refine pm_lvsub [1, 2, 3, 4, 5, 0] (lv' := [(0, (3, 90)), (1, (0, 0)), (2, (0, 3)), (3, (0, 4)), (4, (0, (z0 + z1))), (5, (0, 0))]) rfl ?_
      exact L41 _ 0 V10 ⟨by decide, by decide⟩ hV11 hF12 e13 e14 e15 e16 e17 (fun q h1 h2 => hx18 q (by exact ow_87_113 c26 h2)) hb21 rfl
    · skip
      replace hb21 := hb21.trans (if_neg (Int.not_le.mpr c26))
      refine pm_aload_n hC 0 (by decide) dX12_joins_25 rfl ?_
      have e128 : V10 90 52 = 113 := hV11.one 90 52 (by decide) (by decide) rfl
      refine pm_getf (v := 113) hC 90 fl_X12_79 rfl rfl (by decide) rfl e128 dX12_joins_26 ?_
      refine pm_iload_n hC 3 dX12_joins_29 rfl ?_
      refine pm_sipush (v := 300) hC dX12_joins_30 (by decide) ?_
      refine pm_imul hC dX12_joins_33 ?_
      change pm_J X 34 [(0, (3, 90)), (1, (0, 0)), (2, (0, 3)), (3, (0, 4)), (4, (0, (z0 + z1))), (5, (0, x8))] [(0, 1200), (3, 113)] 118 V10
      refine pm_iload hC 5 dX12_joins_34 rfl ?_
      refine pm_iadd hC dX12_joins_36 ?_
      refine pm_iconst (v := 0) hC dX12_joins_37 ?_
      refine pm_iastore (len := 2400) hC 113 rfl rfl (by decide) ⟨by exact ow_87_114 b9, by exact ow_87_115 b9⟩ (by decide) dX12_joins_38 ?_
      obtain ⟨x129, ei130⟩ : ∃ y : Int, x8 + 1 = y := ⟨_, rfl⟩
      replace hb21 := hb21.trans (pf_let_eq ei130)
      refine pm_iinc (y := x129) (lv' := [(5, (0, x129)), (0, (3, 90)), (1, (0, 0)), (2, (0, 3)), (3, (0, 4)), (4, (0, (z0 + z1)))]) hC 5 dX12_joins_39 (by decide) rfl ei130 rfl ?_
      refine pm_goto (tgt := 18) hC dX12_joins_42 (by decide) ?_
      refine pm_lvsub [1, 2, 3, 4, 5, 0] (lv' := [(0, (3, 90)), (1, (0, 0)), (2, (0, 3)), (3, (0, 4)), (4, (0, (z0 + z1))), (5, (0, x129))]) rfl ?_
      exact ih25 _ (by exact ow_87_116 hq0 hq1 hm23 c26 ei130) x129 (pm_up V10 113 ((1200 + x8) : Int).toNat 0) ⟨by exact ow_87_117 b9 ei130, by exact ow_87_118 hq0 hq1 c26 ei130⟩ (hV11.put 113 ((1200 + x8) : Int).toNat (x := 0) (lo := 0) (hi := 9999) rfl ⟨by decide, by decide⟩) (hF12.up 113 ((1200 + x8) : Int).toNat 0 (by decide) rfl) e13 e14 e15 e16 e17 (fun q h => by (by_cases hq : 1200 + q = ((1200 + x8) : Int).toNat); (show pm_up V10 113 ((1200 + x8) : Int).toNat 0 113 (1200 + q) = 0; rw [hq, pm_up_s]); (show pm_up V10 113 ((1200 + x8) : Int).toNat 0 113 (1200 + q) = 0; rw [pm_up_i hq]; exact hx18 q (by exact ow_87_119 b9 ei130 h hq))) (hT.trans (pf_val_inl hb21)) rfl
  refine pm_lvsub [2, 3, 4, 5, 1, 0] (lv' := [(0, (3, 90)), (1, (0, 0)), (2, (0, 3)), (3, (0, 4)), (4, (0, (z0 + z1))), (5, (0, 0))]) rfl ?_
  exact L22 _ 0 V0 ⟨by decide, by decide⟩ hV0 (pm_fs.rf (cs := [113, 114]) (fs := []) (V := V0)) ez0 ez1 e2 e5 e7 (fun q h => absurd h (by exact ow_87_120 h)) hT rfl
set_option maxHeartbeats 4000000 in
set_option maxRecDepth 100000 in
theorem fB_X12_joins_d2_1_5  : pm_K 1 yX12_joins cX12_joins 11 none (fun av V => av = [(3, 90), (0, 2), (0, 1), (0, 5)] ∧ pm_oq pm_qB V ∧ (0 ≤ V 114 1 ∧ V 114 1 ≤ 181) ∧ (0 ≤ V 114 2 ∧ V 114 2 ≤ 181)) (fun _ V r V' => r = none ∧ pm_oq pm_qB V' ∧ pm_fs [113, 114] [] V V' ∧ (V' 114 0 = V 114 0) ∧ (V' 114 1 = V 114 1) ∧ (V' 114 2 = V 114 2) ∧ (V' 114 3 = V 114 3) ∧ F_X12_joins_d2_1_5  V = (0, V')) := by
  refine pm_MT.of (by decide) ⟨Nat.le_refl _, by decide⟩ (fun av V h => by rw [h.1]; exact (by decide : pm_words [(3, 0), (0, 0), (0, 0), (0, 0)] ≤ 11)) ?_
  rintro X av V0 hC - hR ⟨rfl, hV0, hq0, hq1⟩
  change pm_J X 0 [(0, (3, 90)), (1, (0, 2)), (2, (0, 1)), (3, (0, 5))] [] 118 V0
  have hT := F_X12_joins_d2_1_5_eq  V0
  obtain ⟨z0, ez0⟩ : ∃ z, V0 114 1 = z := ⟨_, rfl⟩
  rw [ez0] at hq0
  replace hT := hT.trans (pf_let_eq ez0)
  obtain ⟨z1, ez1⟩ : ∃ z, V0 114 2 = z := ⟨_, rfl⟩
  rw [ez1] at hq1
  replace hT := hT.trans (pf_let_eq ez1)
  obtain ⟨y1, e2⟩ : ∃ y, V0 114 0 = y := ⟨_, rfl⟩
  have b3 := hV0.get 114 0 (lo := 0) (hi := 600) (by decide) (by decide) rfl
  rw [e2] at b3
  replace hT := hT.trans (pf_let_eq e2)
  obtain ⟨y4, e5⟩ : ∃ y, V0 114 3 = y := ⟨_, rfl⟩
  have b6 := hV0.get 114 3 (lo := 0) (hi := 600) (by decide) (by decide) rfl
  rw [e5] at b6
  replace hT := hT.trans (pf_let_eq e5)
  refine pm_aload_n hC 0 (by decide) dX12_joins_0 rfl ?_
  have e7 : V0 90 53 = 114 := hV0.one 90 53 (by decide) (by decide) rfl
  refine pm_getf (v := 114) hC 90 fl_X12_82 rfl rfl (by decide) rfl e7 dX12_joins_1 ?_
  refine pm_iload_n hC 1 dX12_joins_4 rfl ?_
  refine pm_iaload (len := 8) (v := z1) hC 114 rfl rfl (by decide) ⟨by decide, by decide⟩ (by decide) ez1 dX12_joins_5 ?_
  refine pm_aload_n hC 0 (by decide) dX12_joins_6 rfl ?_
  refine pm_getf (v := 114) hC 90 fl_X12_82 rfl rfl (by decide) rfl e7 dX12_joins_7 ?_
  refine pm_iload_n hC 2 dX12_joins_10 rfl ?_
  refine pm_iaload (len := 8) (v := z0) hC 114 rfl rfl (by decide) ⟨by decide, by decide⟩ (by decide) ez0 dX12_joins_11 ?_
  refine pm_iadd hC dX12_joins_12 ?_
  refine pm_istore (lv' := [(4, (0, (z1 + z0))), (0, (3, 90)), (1, (0, 2)), (2, (0, 1)), (3, (0, 5))]) hC dX12_joins_13 (by decide) rfl ?_
  refine pm_iconst (v := 0) hC dX12_joins_15 ?_
  refine pm_istore (lv' := [(5, (0, 0)), (4, (0, (z1 + z0))), (0, (3, 90)), (1, (0, 2)), (2, (0, 1)), (3, (0, 5))]) hC dX12_joins_16 (by decide) rfl ?_
  obtain ⟨B19, hB20, hT⟩ := pf_loop hT
  have L22 : ∀ (N24 : Nat) (x8 : Int) (V10 : pm_M), (0 ≤ x8 ∧ x8 ≤ 362) → pm_oq pm_qB V10 → pm_fs [113, 114] [] V0 V10 → V10 114 1 = z0 → V10 114 2 = z1 → V10 114 0 = y1 → V10 114 3 = y4 → V10 90 53 = 114 → (∀ q : Nat, (q : Int) < x8 → V10 113 (1500 + q) = 0) → F_X12_joins_d2_1_5  V0 = pf_val ((0 : Int), V0) B19 (x8, V10) → (Int.toNat (362 - x8)) = N24 → pm_J X 18 [(0, (3, 90)), (1, (0, 2)), (2, (0, 1)), (3, (0, 5)), (4, (0, (z1 + z0))), (5, (0, x8))] [] 118 V10 := by
    intro N24
    induction N24 using Nat.strongRecOn with
    | _ N24 ih25 =>
    intro x8 V10 b9 hV11 hF12 e13 e14 e15 e16 e17 hx18 hT hm23
    have hb21 := congrFun hB20 (x8, V10)
    refine pm_iload hC 5 dX12_joins_18 rfl ?_
    refine pm_iload hC 4 dX12_joins_20 rfl ?_
    refine pm_icmp_ge (tgt := 45) hC ⟨by exact ow_87_23 b9, by exact ow_87_24 b9⟩ ⟨by exact ow_87_121 hq0 hq1, by exact ow_87_122 hq0 hq1⟩ dX12_joins_22 (by decide) (fun c26 => ?_) (fun c26 => ?_)
    · skip
      replace hb21 := hb21.trans (if_pos c26)
      refine pm_iconst (v := 0) hC dX12_joins_45 ?_
      refine pm_istore (lv' := [(5, (0, 0)), (0, (3, 90)), (1, (0, 2)), (2, (0, 1)), (3, (0, 5)), (4, (0, (z1 + z0)))]) hC dX12_joins_46 (by decide) rfl ?_
      obtain ⟨B38, hB39, hb21⟩ := pf_loop hb21
      have L41 : ∀ (N43 : Nat) (x27 : Int) (V29 : pm_M), (0 ≤ x27 ∧ x27 ≤ 181) → pm_oq pm_qB V29 → pm_fs [113, 114] [] V0 V29 → V29 114 1 = z0 → V29 114 2 = z1 → V29 114 0 = y1 → V29 114 3 = y4 → V29 90 53 = 114 → (∀ q : Nat, x27 + z0 ≤ (q : Int) → (q : Int) < (z1 + z0) → V29 113 (1500 + q) = 0) → B19 (x8, V10) = pf_val (.inr ((0 : Int), V0)) B38 (x27, V29) → (Int.toNat (181 - x27)) = N43 → pm_J X 48 [(0, (3, 90)), (1, (0, 2)), (2, (0, 1)), (3, (0, 5)), (4, (0, (z1 + z0))), (5, (0, x27))] [] 118 V29 := by
        intro N43
        induction N43 using Nat.strongRecOn with
        | _ N43 ih44 =>
        intro x27 V29 b28 hV30 hF31 e32 e33 e34 e35 e36 hx37 hb21 hm42
        have hb40 := congrFun hB39 (x27, V29)
        refine pm_iload hC 5 dX12_joins_48 rfl ?_
        refine pm_aload_n hC 0 (by decide) dX12_joins_50 rfl ?_
        refine pm_getf (v := 114) hC 90 fl_X12_82 rfl rfl (by decide) rfl e36 dX12_joins_51 ?_
        refine pm_iload_n hC 1 dX12_joins_54 rfl ?_
        refine pm_iaload (len := 8) (v := z1) hC 114 rfl rfl (by decide) ⟨by decide, by decide⟩ (by decide) e33 dX12_joins_55 ?_
        refine pm_icmp_ge (tgt := 193) hC ⟨by exact ow_87_27 b28, by exact ow_87_28 b28⟩ ⟨by exact ow_87_27 hq1, by exact ow_87_28 hq1⟩ dX12_joins_56 (by decide) (fun c45 => ?_) (fun c45 => ?_)
        · skip
          replace hb40 := hb40.trans (if_pos c45)
          obtain ⟨B48, hB49, hb40⟩ := pf_loop hb40
          have L51 : ∀ (N53 : Nat) (x46 : Int), (0 ≤ x46 ∧ x46 ≤ 362) → B38 (x27, V29) = pf_val (.inr (.inr ((0 : Int), V0))) B48 x46 → (Int.toNat (x46 - 0)) = N53 → pm_J X 193 [(0, (3, 90)), (1, (0, 2)), (2, (0, 1)), (3, (0, 5)), (4, (0, x46)), (5, (0, x27))] [] 118 V29 := by
            intro N53
            induction N53 using Nat.strongRecOn with
            | _ N53 ih54 =>
            intro x46 b47 hb40 hm52
            have hb50 := congrFun hB49 x46
            refine pm_iload hC 4 dX12_joins_193 rfl ?_
            refine pm_iconst (v := 1) hC dX12_joins_195 ?_
            refine pm_icmp_le (tgt := 223) hC ⟨by exact ow_87_23 b47, by exact ow_87_24 b47⟩ ⟨by decide, by decide⟩ dX12_joins_196 (by decide) (fun c55 => ?_) (fun c55 => ?_)
            · skip
              replace hb50 := hb50.trans (if_pos c55)
              refine pm_aload_n hC 0 (by decide) dX12_joins_223 rfl ?_
              refine pm_getf (v := 114) hC 90 fl_X12_82 rfl rfl (by decide) rfl e36 dX12_joins_224 ?_
              refine pm_iload_n hC 3 dX12_joins_227 rfl ?_
              refine pm_iload hC 4 dX12_joins_228 rfl ?_
              refine pm_iastore (len := 8) hC 114 rfl rfl (by decide) ⟨by decide, by decide⟩ (by decide) dX12_joins_230 ?_
              replace hb40 := hb40.trans (pf_val_inr hb50)
              replace hb21 := hb21.trans (pf_val_inr hb40)
              replace hT := hT.trans (pf_val_inr hb21)
              exact pm_vret hC hR ⟨rfl, (hV30.put 114 (5 : Int).toNat (x := x46) (lo := 0) (hi := 600) rfl ⟨by exact ow_87_29 b47, by exact ow_87_30 c55⟩), (hF31.up 114 (5 : Int).toNat x46 (by decide) rfl), (by have q := (show (pm_up V29 114 (5 : Int).toNat x46) 114 0 = y1 from e34); have q2 := e2; exact ow_87_6 e2 q), (by have q := (show (pm_up V29 114 (5 : Int).toNat x46) 114 1 = z0 from e32); have q2 := ez0; exact ow_87_6 ez0 q), (by have q := (show (pm_up V29 114 (5 : Int).toNat x46) 114 2 = z1 from e33); have q2 := ez1; exact ow_87_6 ez1 q), (by have q := (show (pm_up V29 114 (5 : Int).toNat x46) 114 3 = y4 from e35); have q2 := e5; exact ow_87_6 e5 q), hT⟩ dX12_joins_231
            · skip
              replace hb50 := hb50.trans (if_neg (Int.not_le.mpr c55))
              refine pm_aload_n hC 0 (by decide) dX12_joins_199 rfl ?_
              have e56 : V29 90 52 = 113 := hV30.one 90 52 (by decide) (by decide) rfl
              refine pm_getf (v := 113) hC 90 fl_X12_79 rfl rfl (by decide) rfl e56 dX12_joins_200 ?_
              refine pm_iload_n hC 3 dX12_joins_203 rfl ?_
              refine pm_sipush (v := 300) hC dX12_joins_204 (by decide) ?_
              refine pm_imul hC dX12_joins_207 ?_
              change pm_J X 208 [(0, (3, 90)), (1, (0, 2)), (2, (0, 1)), (3, (0, 5)), (4, (0, x46)), (5, (0, x27))] [(0, 1500), (3, 113)] 118 V29
              refine pm_iload hC 4 dX12_joins_208 rfl ?_
              refine pm_iadd hC dX12_joins_210 ?_
              refine pm_iconst (v := 1) hC dX12_joins_211 ?_
              refine pm_isub hC dX12_joins_212 ?_
              obtain ⟨y57, e58⟩ : ∃ y, V29 113 (((1500 + x46) - 1) : Int).toNat = y := ⟨_, rfl⟩
              replace hb50 := hb50.trans (pf_let_eq e58)
              have b59 := hV30.get 113 (((1500 + x46) - 1) : Int).toNat (lo := 0) (hi := 9999) (t := 0) (by decide) (show _ < 2400 by exact ow_87_123 b47) rfl
              rw [e58] at b59
              refine pm_iaload (len := 2400) (v := y57) hC 113 rfl rfl (by decide) ⟨by exact ow_87_124 c55, by exact ow_87_125 b47⟩ (by decide) e58 dX12_joins_213 ?_
              refine pm_if_ne (tgt := 223) hC ⟨by exact ow_87_34 b59, by exact ow_87_35 b59⟩ dX12_joins_214 (by decide) (fun c60 => ?_) (fun c60 => ?_)
              · skip
                replace hb50 := hb50.trans (if_pos c60)
                refine pm_aload_n hC 0 (by decide) dX12_joins_223 rfl ?_
                refine pm_getf (v := 114) hC 90 fl_X12_82 rfl rfl (by decide) rfl e36 dX12_joins_224 ?_
                refine pm_iload_n hC 3 dX12_joins_227 rfl ?_
                refine pm_iload hC 4 dX12_joins_228 rfl ?_
                refine pm_iastore (len := 8) hC 114 rfl rfl (by decide) ⟨by decide, by decide⟩ (by decide) dX12_joins_230 ?_
                replace hb40 := hb40.trans (pf_val_inr hb50)
                replace hb21 := hb21.trans (pf_val_inr hb40)
                replace hT := hT.trans (pf_val_inr hb21)
                exact pm_vret hC hR ⟨rfl, (hV30.put 114 (5 : Int).toNat (x := x46) (lo := 0) (hi := 600) rfl ⟨by exact ow_87_36 c55, by exact ow_87_37 b47⟩), (hF31.up 114 (5 : Int).toNat x46 (by decide) rfl), (by have q := (show (pm_up V29 114 (5 : Int).toNat x46) 114 0 = y1 from e34); have q2 := e2; exact ow_87_6 e2 q), (by have q := (show (pm_up V29 114 (5 : Int).toNat x46) 114 1 = z0 from e32); have q2 := ez0; exact ow_87_6 ez0 q), (by have q := (show (pm_up V29 114 (5 : Int).toNat x46) 114 2 = z1 from e33); have q2 := ez1; exact ow_87_6 ez1 q), (by have q := (show (pm_up V29 114 (5 : Int).toNat x46) 114 3 = y4 from e35); have q2 := e5; exact ow_87_6 e5 q), hT⟩ dX12_joins_231
              · skip
                replace hb50 := hb50.trans (if_neg (fun q => q c60))
                obtain ⟨x61, ei62⟩ : ∃ y : Int, x46 + (-1) = y := ⟨_, rfl⟩
                replace hb50 := hb50.trans (pf_let_eq ei62)
                refine pm_iinc (y := x61) (lv' := [(4, (0, x61)), (0, (3, 90)), (1, (0, 2)), (2, (0, 1)), (3, (0, 5)), (5, (0, x27))]) hC 4 dX12_joins_217 (by decide) rfl ei62 rfl ?_
                refine pm_goto (tgt := 193) hC dX12_joins_220 (by decide) ?_
                refine pm_lvsub [1, 2, 3, 4, 0, 5] (lv' := [(0, (3, 90)), (1, (0, 2)), (2, (0, 1)), (3, (0, 5)), (4, (0, x61)), (5, (0, x27))]) rfl ?_
                exact ih54 _ (by exact ow_87_38 hm52 c55 ei62) x61 ⟨by exact ow_87_39 c55 ei62, by exact ow_87_40 b47 ei62⟩ (hb40.trans (pf_val_inl hb50)) rfl
          refine pm_lvsub [0, 1, 2, 3, 4, 5] (lv' := [(0, (3, 90)), (1, (0, 2)), (2, (0, 1)), (3, (0, 5)), (4, (0, (z1 + z0))), (5, (0, x27))]) rfl ?_
          exact L51 _ (z1 + z0) ⟨by exact ow_87_126 hq0 hq1, by exact ow_87_42 b9 c26⟩ hb40 rfl
        · skip
          replace hb40 := hb40.trans (if_neg (Int.not_le.mpr c45))
          refine pm_lconst (x := 0) hC dX12_joins_59 rfl ?_
          refine pm_lstore (lv' := [(6, (1, 0)), (0, (3, 90)), (1, (0, 2)), (2, (0, 1)), (3, (0, 5)), (4, (0, (z1 + z0))), (5, (0, x27))]) hC dX12_joins_60 (by decide) rfl ?_
          refine pm_iconst (v := 0) hC dX12_joins_62 ?_
          refine pm_istore (lv' := [(8, (0, 0)), (6, (1, 0)), (0, (3, 90)), (1, (0, 2)), (2, (0, 1)), (3, (0, 5)), (4, (0, (z1 + z0))), (5, (0, x27))]) hC dX12_joins_63 (by decide) rfl ?_
          obtain ⟨B79, hB80, hb40⟩ := pf_loop hb40
          have L82 : ∀ (N84 : Nat) (x63 : Int) (x65 : Int) (V69 : pm_M), (0 ≤ x63 ∧ x63 ≤ 9999) → (0 ≤ x65 ∧ x65 ≤ 182) → (x65 ≤ z0 + 1) → (x63 ≤ 9999 * (z0 + 1 - x65)) → pm_oq pm_qB V69 → pm_fs [113, 114] [] V0 V69 → V69 114 1 = z0 → V69 114 2 = z1 → V69 114 0 = y1 → V69 114 3 = y4 → V69 90 53 = 114 → (∀ q : Nat, x27 + z0 + 1 ≤ (q : Int) → (q : Int) < (z1 + z0) → V69 113 (1500 + q) = 0) → (x65 ≤ z0 → V69 113 ((1500 + x27 + z0) : Int).toNat = 0) → B38 (x27, V29) = pf_val (.inr (.inr ((0 : Int), V0))) B79 (x63, x65, V69) → (Int.toNat (182 - x65)) = N84 → pm_J X 65 [(0, (3, 90)), (1, (0, 2)), (2, (0, 1)), (3, (0, 5)), (4, (0, (z1 + z0))), (5, (0, x27)), (6, (1, x63)), (8, (0, x65))] [] 118 V69 := by
            intro N84
            induction N84 using Nat.strongRecOn with
            | _ N84 ih85 =>
            intro x63 x65 V69 b64 b66 b67 b68 hV70 hF71 e72 e73 e74 e75 e76 hx77 hx78 hb40 hm83
            have hb81 := congrFun hB80 (x63, x65, V69)
            refine pm_iload hC 7 dX12_joins_65 rfl ?_
            refine pm_aload_n hC 0 (by decide) dX12_joins_67 rfl ?_
            refine pm_getf (v := 114) hC 90 fl_X12_82 rfl rfl (by decide) rfl e76 dX12_joins_68 ?_
            refine pm_iload_n hC 2 dX12_joins_71 rfl ?_
            refine pm_iaload (len := 8) (v := z0) hC 114 rfl rfl (by decide) ⟨by decide, by decide⟩ (by decide) e72 dX12_joins_72 ?_
            refine pm_icmp_lt (tgt := 83) hC ⟨by exact ow_87_43 b66, by exact ow_87_44 b66⟩ ⟨by exact ow_87_27 hq0, by exact ow_87_28 hq0⟩ dX12_joins_73 (by decide) (fun c86 => ?_) (fun c86 => ?_)
            · skip
              replace hb81 := hb81.trans (if_pos c86)
              refine pm_aload_n hC 0 (by decide) dX12_joins_83 rfl ?_
              have e87 : V69 90 52 = 113 := hV70.one 90 52 (by decide) (by decide) rfl
              refine pm_getf (v := 113) hC 90 fl_X12_79 rfl rfl (by decide) rfl e87 dX12_joins_84 ?_
              refine pm_iload_n hC 3 dX12_joins_87 rfl ?_
              refine pm_sipush (v := 300) hC dX12_joins_88 (by decide) ?_
              refine pm_imul hC dX12_joins_91 ?_
              change pm_J X 92 [(0, (3, 90)), (1, (0, 2)), (2, (0, 1)), (3, (0, 5)), (4, (0, (z1 + z0))), (5, (0, x27)), (6, (1, x63)), (8, (0, x65))] [(0, 1500), (3, 113)] 118 V69
              refine pm_iload hC 5 dX12_joins_92 rfl ?_
              refine pm_iadd hC dX12_joins_94 ?_
              refine pm_iload hC 7 dX12_joins_95 rfl ?_
              refine pm_iadd hC dX12_joins_97 ?_
              obtain ⟨y88, e89⟩ : ∃ y, V69 113 (((1500 + x27) + x65) : Int).toNat = y := ⟨_, rfl⟩
              replace hb81 := hb81.trans (pf_let_eq e89)
              have b90 := hV70.get 113 (((1500 + x27) + x65) : Int).toNat (lo := 0) (hi := 9999) (t := 0) (by decide) (show _ < 2400 by exact ow_87_127 b28 b66) rfl
              rw [e89] at b90
              refine pm_iaload (len := 2400) (v := y88) hC 113 rfl rfl (by decide) ⟨by exact ow_87_128 b28 b66, by exact ow_87_129 b28 b66⟩ (by decide) e89 dX12_joins_98 ?_
              refine pm_i2l hC ⟨by exact ow_87_34 b90, by exact ow_87_35 b90⟩ dX12_joins_99 ?_
              refine pm_lload hC 6 dX12_joins_100 rfl ?_
              refine pm_ladd hC dX12_joins_102 ?_
              refine pm_iload hC 7 dX12_joins_103 rfl ?_
              refine pm_aload_n hC 0 (by decide) dX12_joins_105 rfl ?_
              refine pm_getf (v := 114) hC 90 fl_X12_82 rfl rfl (by decide) rfl e76 dX12_joins_106 ?_
              refine pm_iload_n hC 2 dX12_joins_109 rfl ?_
              refine pm_iaload (len := 8) (v := z0) hC 114 rfl rfl (by decide) ⟨by decide, by decide⟩ (by decide) e72 dX12_joins_110 ?_
              refine pm_icmp_ge (tgt := 146) hC ⟨by exact ow_87_43 b66, by exact ow_87_44 b66⟩ ⟨by exact ow_87_27 hq0, by exact ow_87_28 hq0⟩ dX12_joins_111 (by decide) (fun c91 => ?_) (fun c91 => ?_)
              · skip
                replace hb81 := hb81.trans (if_pos c91)
                have hz92 : y88 = 0 := by
                  have hj : x65 = z0 := by exact ow_87_48 c86 c91
                  have h := hx78 (by exact ow_87_49 c86)
                  rw [← hj] at h
                  rw [← e89]
                  exact h
                refine pm_lconst (x := 0) hC dX12_joins_146 rfl ?_
                refine pm_ladd hC dX12_joins_147 ?_
                refine pm_lstore (lv' := [(9, (1, ((y88 + x63) + 0))), (0, (3, 90)), (1, (0, 2)), (2, (0, 1)), (3, (0, 5)), (4, (0, (z1 + z0))), (5, (0, x27)), (6, (1, x63)), (8, (0, x65))]) hC dX12_joins_148 (by decide) rfl ?_
                refine pm_aload_n hC 1 (by decide) dX12_joins_150 rfl ?_
                refine pm_getf (v := 113) hC 90 fl_X12_79 rfl rfl (by decide) rfl e87 dX12_joins_151 ?_
                refine pm_iload_n hC 4 dX12_joins_154 rfl ?_
                refine pm_sipush (v := 300) hC dX12_joins_155 (by decide) ?_
                refine pm_imul hC dX12_joins_158 ?_
                change pm_J X 159 [(9, (1, ((y88 + x63) + 0))), (0, (3, 90)), (1, (0, 2)), (2, (0, 1)), (3, (0, 5)), (4, (0, (z1 + z0))), (5, (0, x27)), (6, (1, x63)), (8, (0, x65))] [(0, 1500), (3, 113)] 118 V69
                refine pm_iload hC 6 dX12_joins_159 rfl ?_
                refine pm_iadd hC dX12_joins_161 ?_
                refine pm_iload hC 8 dX12_joins_162 rfl ?_
                refine pm_iadd hC dX12_joins_164 ?_
                refine pm_lload hC 0 dX12_joins_165 rfl ?_
                refine pm_ldc2 (v := 10000) hC 7157 dX12_joins_167 (by decide +kernel) ?_
                refine pm_lrem hC ⟨by exact ow_87_50 c86 c91, by exact ow_87_51 b64 b90, by exact ow_87_52 b64 hz92⟩ ⟨by decide, by decide, by decide⟩ dX12_joins_170 ?_
                refine pm_l2i hC dX12_joins_171 ?_
                refine pm_iastore (len := 2400) hC 113 rfl rfl (by decide) ⟨by exact ow_87_128 b28 b66, by exact ow_87_129 b28 b66⟩ (by decide) dX12_joins_172 ?_
                refine pm_lload hC 0 dX12_joins_173 rfl ?_
                refine pm_ldc2 (v := 10000) hC 7157 dX12_joins_175 (by decide +kernel) ?_
                refine pm_ldiv hC ⟨by exact ow_87_50 c86 c91, by exact ow_87_51 b64 b90, by exact ow_87_52 b64 hz92⟩ ⟨by decide, by decide, by decide⟩ dX12_joins_178 ?_
                refine pm_lstore (lv' := [(6, (1, (((y88 + x63) + 0) / 10000))), (9, (1, ((y88 + x63) + 0))), (0, (3, 90)), (1, (0, 2)), (2, (0, 1)), (3, (0, 5)), (4, (0, (z1 + z0))), (5, (0, x27)), (8, (0, x65))]) hC dX12_joins_179 (by decide) rfl ?_
                obtain ⟨x93, ei94⟩ : ∃ y : Int, x65 + 1 = y := ⟨_, rfl⟩
                replace hb81 := hb81.trans (pf_let_eq ei94)
                refine pm_iinc (y := x93) (lv' := [(8, (0, x93)), (6, (1, (((y88 + x63) + 0) / 10000))), (9, (1, ((y88 + x63) + 0))), (0, (3, 90)), (1, (0, 2)), (2, (0, 1)), (3, (0, 5)), (4, (0, (z1 + z0))), (5, (0, x27))]) hC 8 dX12_joins_181 (by decide) rfl ei94 rfl ?_
                refine pm_goto (tgt := 65) hC dX12_joins_184 (by decide) ?_
                refine pm_lvsub [3, 4, 5, 6, 7, 8, 1, 0] (lv' := [(0, (3, 90)), (1, (0, 2)), (2, (0, 1)), (3, (0, 5)), (4, (0, (z1 + z0))), (5, (0, x27)), (6, (1, (((y88 + x63) + 0) / 10000))), (8, (0, x93))]) rfl ?_
                exact ih85 _ (by exact ow_87_53 c86 c91) (((y88 + x63) + 0) / 10000) x93 (pm_up V69 113 (((1500 + x27) + x65) : Int).toNat (((y88 + x63) + 0) % 10000)) ⟨by exact ow_87_54 c86 c91, by exact ow_87_55 b64 hz92⟩ ⟨by exact ow_87_56 b66 ei94, by exact ow_87_57 hq0 c86 ei94⟩ (by exact ow_87_58 c86 ei94) (by exact ow_87_59 c86 c91) (hV70.put 113 (((1500 + x27) + x65) : Int).toNat (x := (((y88 + x63) + 0) % 10000)) (lo := 0) (hi := 9999) rfl ⟨by exact ow_87_60, by exact ow_87_61⟩) (hF71.up 113 (((1500 + x27) + x65) : Int).toNat (((y88 + x63) + 0) % 10000) (by decide) rfl) e72 e73 e74 e75 e76 (fun q h1 h2 => by show pm_up V69 113 (((1500 + x27) + x65) : Int).toNat (((y88 + x63) + 0) % 10000) 113 (1500 + q) = 0; rw [pm_up_i (by exact ow_87_130 c86 c91)]; exact hx77 q h1 h2) (fun h => by show pm_up V69 113 (((1500 + x27) + x65) : Int).toNat (((y88 + x63) + 0) % 10000) 113 ((1500 + x27 + z0) : Int).toNat = 0; rw [pm_up_i (by exact ow_87_131 c86 c91)]; exact hx78 (by exact ow_87_49 c86)) (hb40.trans (pf_val_inl hb81)) rfl
              · skip
                replace hb81 := hb81.trans (if_neg (Int.not_le.mpr c91))
                refine pm_aload_n hC 0 (by decide) dX12_joins_114 rfl ?_
                refine pm_getf (v := 113) hC 90 fl_X12_79 rfl rfl (by decide) rfl e87 dX12_joins_115 ?_
                refine pm_iload_n hC 1 dX12_joins_118 rfl ?_
                refine pm_sipush (v := 300) hC dX12_joins_119 (by decide) ?_
                refine pm_imul hC dX12_joins_122 ?_
                change pm_J X 123 [(0, (3, 90)), (1, (0, 2)), (2, (0, 1)), (3, (0, 5)), (4, (0, (z1 + z0))), (5, (0, x27)), (6, (1, x63)), (8, (0, x65))] [(0, 600), (3, 113), (1, (y88 + x63))] 118 V69
                refine pm_iload hC 5 dX12_joins_123 rfl ?_
                refine pm_iadd hC dX12_joins_125 ?_
                obtain ⟨y95, e96⟩ : ∃ y, V69 113 ((600 + x27) : Int).toNat = y := ⟨_, rfl⟩
                replace hb81 := hb81.trans (pf_let_eq e96)
                have b97 := hV70.get 113 ((600 + x27) : Int).toNat (lo := 0) (hi := 9999) (t := 0) (by decide) (show _ < 2400 by exact ow_87_132 b28) rfl
                rw [e96] at b97
                refine pm_iaload (len := 2400) (v := y95) hC 113 rfl rfl (by decide) ⟨by exact ow_87_133 b28, by exact ow_87_134 b28⟩ (by decide) e96 dX12_joins_126 ?_
                refine pm_i2l hC ⟨by exact ow_87_34 b97, by exact ow_87_35 b97⟩ dX12_joins_127 ?_
                refine pm_aload_n hC 0 (by decide) dX12_joins_128 rfl ?_
                refine pm_getf (v := 113) hC 90 fl_X12_79 rfl rfl (by decide) rfl e87 dX12_joins_129 ?_
                refine pm_iload_n hC 2 dX12_joins_132 rfl ?_
                refine pm_sipush (v := 300) hC dX12_joins_133 (by decide) ?_
                refine pm_imul hC dX12_joins_136 ?_
                change pm_J X 137 [(0, (3, 90)), (1, (0, 2)), (2, (0, 1)), (3, (0, 5)), (4, (0, (z1 + z0))), (5, (0, x27)), (6, (1, x63)), (8, (0, x65))] [(0, 300), (3, 113), (1, y95), (1, (y88 + x63))] 118 V69
                refine pm_iload hC 7 dX12_joins_137 rfl ?_
                refine pm_iadd hC dX12_joins_139 ?_
                obtain ⟨y98, e99⟩ : ∃ y, V69 113 ((300 + x65) : Int).toNat = y := ⟨_, rfl⟩
                replace hb81 := hb81.trans (pf_let_eq e99)
                have b100 := hV70.get 113 ((300 + x65) : Int).toNat (lo := 0) (hi := 9999) (t := 0) (by decide) (show _ < 2400 by exact ow_87_135 b66) rfl
                rw [e99] at b100
                refine pm_iaload (len := 2400) (v := y98) hC 113 rfl rfl (by decide) ⟨by exact ow_87_136 b66, by exact ow_87_137 b66⟩ (by decide) e99 dX12_joins_140 ?_
                refine pm_i2l hC ⟨by exact ow_87_34 b100, by exact ow_87_35 b100⟩ dX12_joins_141 ?_
                refine pm_lmul hC dX12_joins_142 ?_
                have b102 : 0 ≤ (y95 * y98) ∧ (y95 * y98) ≤ 99980001 := pm_mulb (by exact ow_87_15 b97) (by exact ow_87_15 b100) (show y95 ≤ 9999 by exact ow_87_16 b97) (show y98 ≤ 9999 by exact ow_87_16 b100) (by decide)
                obtain ⟨y101, hey101⟩ : ∃ z, (y95 * y98) = z := ⟨_, rfl⟩
                rw [hey101] at b102 ⊢
                replace hb81 := hb81.trans (pf_let_eq hey101)
                refine pm_goto (tgt := 147) hC dX12_joins_143 (by decide) ?_
                refine pm_ladd hC dX12_joins_147 ?_
                refine pm_lstore (lv' := [(9, (1, ((y88 + x63) + y101))), (0, (3, 90)), (1, (0, 2)), (2, (0, 1)), (3, (0, 5)), (4, (0, (z1 + z0))), (5, (0, x27)), (6, (1, x63)), (8, (0, x65))]) hC dX12_joins_148 (by decide) rfl ?_
                refine pm_aload_n hC 1 (by decide) dX12_joins_150 rfl ?_
                refine pm_getf (v := 113) hC 90 fl_X12_79 rfl rfl (by decide) rfl e87 dX12_joins_151 ?_
                refine pm_iload_n hC 4 dX12_joins_154 rfl ?_
                refine pm_sipush (v := 300) hC dX12_joins_155 (by decide) ?_
                refine pm_imul hC dX12_joins_158 ?_
                change pm_J X 159 [(9, (1, ((y88 + x63) + y101))), (0, (3, 90)), (1, (0, 2)), (2, (0, 1)), (3, (0, 5)), (4, (0, (z1 + z0))), (5, (0, x27)), (6, (1, x63)), (8, (0, x65))] [(0, 1500), (3, 113)] 118 V69
                refine pm_iload hC 6 dX12_joins_159 rfl ?_
                refine pm_iadd hC dX12_joins_161 ?_
                refine pm_iload hC 8 dX12_joins_162 rfl ?_
                refine pm_iadd hC dX12_joins_164 ?_
                refine pm_lload hC 0 dX12_joins_165 rfl ?_
                refine pm_ldc2 (v := 10000) hC 7157 dX12_joins_167 (by decide +kernel) ?_
                refine pm_lrem hC ⟨by exact ow_87_70 b64 b90 b102, by exact ow_87_71 b64 b90 b102, by exact ow_87_72 b64 b90 b102⟩ ⟨by decide, by decide, by decide⟩ dX12_joins_170 ?_
                refine pm_l2i hC dX12_joins_171 ?_
                refine pm_iastore (len := 2400) hC 113 rfl rfl (by decide) ⟨by exact ow_87_128 b28 b66, by exact ow_87_129 b28 b66⟩ (by decide) dX12_joins_172 ?_
                refine pm_lload hC 0 dX12_joins_173 rfl ?_
                refine pm_ldc2 (v := 10000) hC 7157 dX12_joins_175 (by decide +kernel) ?_
                refine pm_ldiv hC ⟨by exact ow_87_70 b64 b90 b102, by exact ow_87_71 b64 b90 b102, by exact ow_87_72 b64 b90 b102⟩ ⟨by decide, by decide, by decide⟩ dX12_joins_178 ?_
                refine pm_lstore (lv' := [(6, (1, (((y88 + x63) + y101) / 10000))), (9, (1, ((y88 + x63) + y101))), (0, (3, 90)), (1, (0, 2)), (2, (0, 1)), (3, (0, 5)), (4, (0, (z1 + z0))), (5, (0, x27)), (8, (0, x65))]) hC dX12_joins_179 (by decide) rfl ?_
                obtain ⟨x103, ei104⟩ : ∃ y : Int, x65 + 1 = y := ⟨_, rfl⟩
                replace hb81 := hb81.trans (pf_let_eq ei104)
                refine pm_iinc (y := x103) (lv' := [(8, (0, x103)), (6, (1, (((y88 + x63) + y101) / 10000))), (9, (1, ((y88 + x63) + y101))), (0, (3, 90)), (1, (0, 2)), (2, (0, 1)), (3, (0, 5)), (4, (0, (z1 + z0))), (5, (0, x27))]) hC 8 dX12_joins_181 (by decide) rfl ei104 rfl ?_
                refine pm_goto (tgt := 65) hC dX12_joins_184 (by decide) ?_
                refine pm_lvsub [3, 4, 5, 6, 7, 8, 1, 0] (lv' := [(0, (3, 90)), (1, (0, 2)), (2, (0, 1)), (3, (0, 5)), (4, (0, (z1 + z0))), (5, (0, x27)), (6, (1, (((y88 + x63) + y101) / 10000))), (8, (0, x103))]) rfl ?_
                exact ih85 _ (by exact ow_87_73 hq0 hm83 c86 ei104) (((y88 + x63) + y101) / 10000) x103 (pm_up V69 113 (((1500 + x27) + x65) : Int).toNat (((y88 + x63) + y101) % 10000)) ⟨by exact ow_87_74 b64 b90 b102, by exact ow_87_75 b64 b90 b102⟩ ⟨by exact ow_87_56 b66 ei104, by exact ow_87_57 hq0 c86 ei104⟩ (by exact ow_87_58 c86 ei104) (by omega) (hV70.put 113 (((1500 + x27) + x65) : Int).toNat (x := (((y88 + x63) + y101) % 10000)) (lo := 0) (hi := 9999) rfl ⟨by exact ow_87_76, by exact ow_87_77⟩) (hF71.up 113 (((1500 + x27) + x65) : Int).toNat (((y88 + x63) + y101) % 10000) (by decide) rfl) e72 e73 e74 e75 e76 (fun q h1 h2 => by show pm_up V69 113 (((1500 + x27) + x65) : Int).toNat (((y88 + x63) + y101) % 10000) 113 (1500 + q) = 0; rw [pm_up_i (by exact ow_87_138 c86 h1)]; exact hx77 q h1 h2) (fun h => by show pm_up V69 113 (((1500 + x27) + x65) : Int).toNat (((y88 + x63) + y101) % 10000) 113 ((1500 + x27 + z0) : Int).toNat = 0; rw [pm_up_i (by exact ow_87_139 b28 b66 c86)]; exact hx78 (by exact ow_87_49 c86)) (hb40.trans (pf_val_inl hb81)) rfl
            · skip
              replace hb81 := hb81.trans (if_neg (Int.not_lt.mpr c86))
              refine pm_lload hC 6 dX12_joins_76 rfl ?_
              refine pm_lconst (x := 0) hC dX12_joins_78 rfl ?_
              refine pm_lcmp hC ⟨by exact ow_87_80 b64, by exact ow_87_81 b64⟩ ⟨by decide, by decide⟩ dX12_joins_79 (fun y105 b106 => ?_)
              replace hb81 := hb81.trans (pf_let_eq (pm_cmp_u b106))
              refine pm_if_le (tgt := 187) hC ⟨by exact ow_87_82 b106, by exact ow_87_83 b106⟩ dX12_joins_80 (by decide) (fun c107 => ?_) (fun c107 => ?_)
              · skip
                replace hb81 := hb81.trans (if_pos c107)
                obtain ⟨x108, ei109⟩ : ∃ y : Int, x27 + 1 = y := ⟨_, rfl⟩
                replace hb81 := hb81.trans (pf_let_eq ei109)
                refine pm_iinc (y := x108) (lv' := [(5, (0, x108)), (0, (3, 90)), (1, (0, 2)), (2, (0, 1)), (3, (0, 5)), (4, (0, (z1 + z0))), (6, (1, x63)), (8, (0, x65))]) hC 5 dX12_joins_187 (by decide) rfl ei109 rfl ?_
                refine pm_goto (tgt := 48) hC dX12_joins_190 (by decide) ?_
                replace hb40 := hb40.trans (pf_val_inr hb81)
                refine pm_lvsub [1, 2, 3, 4, 5, 0] (lv' := [(0, (3, 90)), (1, (0, 2)), (2, (0, 1)), (3, (0, 5)), (4, (0, (z1 + z0))), (5, (0, x108))]) rfl ?_
                exact ih44 _ (by exact ow_87_84 hq1 hm42 c45 ei109) x108 V69 ⟨by exact ow_87_85 b28 ei109, by exact ow_87_86 hq1 c45 ei109⟩ hV70 hF71 e72 e73 e74 e75 e76 (fun q h1 h2 => hx77 q (by exact ow_87_87 ei109 h1) h2) (hb21.trans (pf_val_inl hb40)) rfl
              · skip
                replace hb81 := hb81.trans (if_neg (Int.not_le.mpr c107))
                refine pm_aload_n hC 0 (by decide) dX12_joins_83 rfl ?_
                have e110 : V69 90 52 = 113 := hV70.one 90 52 (by decide) (by decide) rfl
                refine pm_getf (v := 113) hC 90 fl_X12_79 rfl rfl (by decide) rfl e110 dX12_joins_84 ?_
                refine pm_iload_n hC 3 dX12_joins_87 rfl ?_
                refine pm_sipush (v := 300) hC dX12_joins_88 (by decide) ?_
                refine pm_imul hC dX12_joins_91 ?_
                change pm_J X 92 [(0, (3, 90)), (1, (0, 2)), (2, (0, 1)), (3, (0, 5)), (4, (0, (z1 + z0))), (5, (0, x27)), (6, (1, x63)), (8, (0, x65))] [(0, 1500), (3, 113)] 118 V69
                refine pm_iload hC 5 dX12_joins_92 rfl ?_
                refine pm_iadd hC dX12_joins_94 ?_
                refine pm_iload hC 7 dX12_joins_95 rfl ?_
                refine pm_iadd hC dX12_joins_97 ?_
                obtain ⟨y111, e112⟩ : ∃ y, V69 113 (((1500 + x27) + x65) : Int).toNat = y := ⟨_, rfl⟩
                replace hb81 := hb81.trans (pf_let_eq e112)
                have b113 := hV70.get 113 (((1500 + x27) + x65) : Int).toNat (lo := 0) (hi := 9999) (t := 0) (by decide) (show _ < 2400 by exact ow_87_127 b28 b66) rfl
                rw [e112] at b113
                refine pm_iaload (len := 2400) (v := y111) hC 113 rfl rfl (by decide) ⟨by exact ow_87_128 b28 b66, by exact ow_87_129 b28 b66⟩ (by decide) e112 dX12_joins_98 ?_
                refine pm_i2l hC ⟨by exact ow_87_34 b113, by exact ow_87_35 b113⟩ dX12_joins_99 ?_
                refine pm_lload hC 6 dX12_joins_100 rfl ?_
                refine pm_ladd hC dX12_joins_102 ?_
                refine pm_iload hC 7 dX12_joins_103 rfl ?_
                refine pm_aload_n hC 0 (by decide) dX12_joins_105 rfl ?_
                refine pm_getf (v := 114) hC 90 fl_X12_82 rfl rfl (by decide) rfl e76 dX12_joins_106 ?_
                refine pm_iload_n hC 2 dX12_joins_109 rfl ?_
                refine pm_iaload (len := 8) (v := z0) hC 114 rfl rfl (by decide) ⟨by decide, by decide⟩ (by decide) e72 dX12_joins_110 ?_
                refine pm_icmp_ge (tgt := 146) hC ⟨by exact ow_87_43 b66, by exact ow_87_44 b66⟩ ⟨by exact ow_87_27 hq0, by exact ow_87_28 hq0⟩ dX12_joins_111 (by decide) (fun c114 => ?_) (fun c114 => ?_)
                · skip
                  replace hb81 := hb81.trans (if_pos c114)
                  have hz115 : y111 = 0 := by
                    have hj : x65 = z0 := by exact ow_87_88 b68 c86 b106 c107
                    have h := hx78 (by exact ow_87_89 hj)
                    rw [← hj] at h
                    rw [← e112]
                    exact h
                  refine pm_lconst (x := 0) hC dX12_joins_146 rfl ?_
                  refine pm_ladd hC dX12_joins_147 ?_
                  refine pm_lstore (lv' := [(9, (1, ((y111 + x63) + 0))), (0, (3, 90)), (1, (0, 2)), (2, (0, 1)), (3, (0, 5)), (4, (0, (z1 + z0))), (5, (0, x27)), (6, (1, x63)), (8, (0, x65))]) hC dX12_joins_148 (by decide) rfl ?_
                  refine pm_aload_n hC 1 (by decide) dX12_joins_150 rfl ?_
                  refine pm_getf (v := 113) hC 90 fl_X12_79 rfl rfl (by decide) rfl e110 dX12_joins_151 ?_
                  refine pm_iload_n hC 4 dX12_joins_154 rfl ?_
                  refine pm_sipush (v := 300) hC dX12_joins_155 (by decide) ?_
                  refine pm_imul hC dX12_joins_158 ?_
                  change pm_J X 159 [(9, (1, ((y111 + x63) + 0))), (0, (3, 90)), (1, (0, 2)), (2, (0, 1)), (3, (0, 5)), (4, (0, (z1 + z0))), (5, (0, x27)), (6, (1, x63)), (8, (0, x65))] [(0, 1500), (3, 113)] 118 V69
                  refine pm_iload hC 6 dX12_joins_159 rfl ?_
                  refine pm_iadd hC dX12_joins_161 ?_
                  refine pm_iload hC 8 dX12_joins_162 rfl ?_
                  refine pm_iadd hC dX12_joins_164 ?_
                  refine pm_lload hC 0 dX12_joins_165 rfl ?_
                  refine pm_ldc2 (v := 10000) hC 7157 dX12_joins_167 (by decide +kernel) ?_
                  refine pm_lrem hC ⟨by exact ow_87_90 b64 b113, by exact ow_87_51 b64 b113, by exact ow_87_52 b64 hz115⟩ ⟨by decide, by decide, by decide⟩ dX12_joins_170 ?_
                  refine pm_l2i hC dX12_joins_171 ?_
                  refine pm_iastore (len := 2400) hC 113 rfl rfl (by decide) ⟨by exact ow_87_128 b28 b66, by exact ow_87_129 b28 b66⟩ (by decide) dX12_joins_172 ?_
                  refine pm_lload hC 0 dX12_joins_173 rfl ?_
                  refine pm_ldc2 (v := 10000) hC 7157 dX12_joins_175 (by decide +kernel) ?_
                  refine pm_ldiv hC ⟨by exact ow_87_90 b64 b113, by exact ow_87_51 b64 b113, by exact ow_87_52 b64 hz115⟩ ⟨by decide, by decide, by decide⟩ dX12_joins_178 ?_
                  refine pm_lstore (lv' := [(6, (1, (((y111 + x63) + 0) / 10000))), (9, (1, ((y111 + x63) + 0))), (0, (3, 90)), (1, (0, 2)), (2, (0, 1)), (3, (0, 5)), (4, (0, (z1 + z0))), (5, (0, x27)), (8, (0, x65))]) hC dX12_joins_179 (by decide) rfl ?_
                  obtain ⟨x116, ei117⟩ : ∃ y : Int, x65 + 1 = y := ⟨_, rfl⟩
                  replace hb81 := hb81.trans (pf_let_eq ei117)
                  refine pm_iinc (y := x116) (lv' := [(8, (0, x116)), (6, (1, (((y111 + x63) + 0) / 10000))), (9, (1, ((y111 + x63) + 0))), (0, (3, 90)), (1, (0, 2)), (2, (0, 1)), (3, (0, 5)), (4, (0, (z1 + z0))), (5, (0, x27))]) hC 8 dX12_joins_181 (by decide) rfl ei117 rfl ?_
                  refine pm_goto (tgt := 65) hC dX12_joins_184 (by decide) ?_
                  refine pm_lvsub [3, 4, 5, 6, 7, 8, 1, 0] (lv' := [(0, (3, 90)), (1, (0, 2)), (2, (0, 1)), (3, (0, 5)), (4, (0, (z1 + z0))), (5, (0, x27)), (6, (1, (((y111 + x63) + 0) / 10000))), (8, (0, x116))]) rfl ?_
                  exact ih85 _ (by exact ow_87_91 hq0 b68 hm83 b106 c107 ei117) (((y111 + x63) + 0) / 10000) x116 (pm_up V69 113 (((1500 + x27) + x65) : Int).toNat (((y111 + x63) + 0) % 10000)) ⟨by exact ow_87_92 b64 b113, by exact ow_87_55 b64 hz115⟩ ⟨by exact ow_87_56 b66 ei117, by exact ow_87_93 hq0 b68 b106 c107 ei117⟩ (by exact ow_87_94 b68 b106 c107 ei117) (by omega) (hV70.put 113 (((1500 + x27) + x65) : Int).toNat (x := (((y111 + x63) + 0) % 10000)) (lo := 0) (hi := 9999) rfl ⟨by exact ow_87_60, by exact ow_87_61⟩) (hF71.up 113 (((1500 + x27) + x65) : Int).toNat (((y111 + x63) + 0) % 10000) (by decide) rfl) e72 e73 e74 e75 e76 (fun q h1 h2 => by show pm_up V69 113 (((1500 + x27) + x65) : Int).toNat (((y111 + x63) + 0) % 10000) 113 (1500 + q) = 0; rw [pm_up_i (by exact ow_87_140 b68 b106 c107 h1)]; exact hx77 q h1 h2) (fun h => by show pm_up V69 113 (((1500 + x27) + x65) : Int).toNat (((y111 + x63) + 0) % 10000) 113 ((1500 + x27 + z0) : Int).toNat = 0; rw [pm_up_i (by exact ow_87_141 c86 ei117 h)]; exact hx78 (by exact ow_87_97 ei117 h)) (hb40.trans (pf_val_inl hb81)) rfl
                · skip
                  replace hb81 := hb81.trans (if_neg (Int.not_le.mpr c114))
                  refine pm_aload_n hC 0 (by decide) dX12_joins_114 rfl ?_
                  refine pm_getf (v := 113) hC 90 fl_X12_79 rfl rfl (by decide) rfl e110 dX12_joins_115 ?_
                  refine pm_iload_n hC 1 dX12_joins_118 rfl ?_
                  refine pm_sipush (v := 300) hC dX12_joins_119 (by decide) ?_
                  refine pm_imul hC dX12_joins_122 ?_
                  change pm_J X 123 [(0, (3, 90)), (1, (0, 2)), (2, (0, 1)), (3, (0, 5)), (4, (0, (z1 + z0))), (5, (0, x27)), (6, (1, x63)), (8, (0, x65))] [(0, 600), (3, 113), (1, (y111 + x63))] 118 V69
                  refine pm_iload hC 5 dX12_joins_123 rfl ?_
                  refine pm_iadd hC dX12_joins_125 ?_
                  obtain ⟨y118, e119⟩ : ∃ y, V69 113 ((600 + x27) : Int).toNat = y := ⟨_, rfl⟩
                  replace hb81 := hb81.trans (pf_let_eq e119)
                  have b120 := hV70.get 113 ((600 + x27) : Int).toNat (lo := 0) (hi := 9999) (t := 0) (by decide) (show _ < 2400 by exact ow_87_142 c86 c114) rfl
                  rw [e119] at b120
                  refine pm_iaload (len := 2400) (v := y118) hC 113 rfl rfl (by decide) ⟨by exact ow_87_133 b28, by exact ow_87_134 b28⟩ (by decide) e119 dX12_joins_126 ?_
                  refine pm_i2l hC ⟨by exact ow_87_34 b120, by exact ow_87_35 b120⟩ dX12_joins_127 ?_
                  refine pm_aload_n hC 0 (by decide) dX12_joins_128 rfl ?_
                  refine pm_getf (v := 113) hC 90 fl_X12_79 rfl rfl (by decide) rfl e110 dX12_joins_129 ?_
                  refine pm_iload_n hC 2 dX12_joins_132 rfl ?_
                  refine pm_sipush (v := 300) hC dX12_joins_133 (by decide) ?_
                  refine pm_imul hC dX12_joins_136 ?_
                  change pm_J X 137 [(0, (3, 90)), (1, (0, 2)), (2, (0, 1)), (3, (0, 5)), (4, (0, (z1 + z0))), (5, (0, x27)), (6, (1, x63)), (8, (0, x65))] [(0, 300), (3, 113), (1, y118), (1, (y111 + x63))] 118 V69
                  refine pm_iload hC 7 dX12_joins_137 rfl ?_
                  refine pm_iadd hC dX12_joins_139 ?_
                  obtain ⟨y121, e122⟩ : ∃ y, V69 113 ((300 + x65) : Int).toNat = y := ⟨_, rfl⟩
                  replace hb81 := hb81.trans (pf_let_eq e122)
                  have b123 := hV70.get 113 ((300 + x65) : Int).toNat (lo := 0) (hi := 9999) (t := 0) (by decide) (show _ < 2400 by exact ow_87_143 c86 c114) rfl
                  rw [e122] at b123
                  refine pm_iaload (len := 2400) (v := y121) hC 113 rfl rfl (by decide) ⟨by exact ow_87_136 b66, by exact ow_87_137 b66⟩ (by decide) e122 dX12_joins_140 ?_
                  refine pm_i2l hC ⟨by exact ow_87_34 b123, by exact ow_87_35 b123⟩ dX12_joins_141 ?_
                  refine pm_lmul hC dX12_joins_142 ?_
                  have b125 : 0 ≤ (y118 * y121) ∧ (y118 * y121) ≤ 99980001 := pm_mulb (by exact ow_87_15 b120) (by exact ow_87_15 b123) (show y118 ≤ 9999 by exact ow_87_16 b120) (show y121 ≤ 9999 by exact ow_87_16 b123) (by decide)
                  obtain ⟨y124, hey124⟩ : ∃ z, (y118 * y121) = z := ⟨_, rfl⟩
                  rw [hey124] at b125 ⊢
                  replace hb81 := hb81.trans (pf_let_eq hey124)
                  refine pm_goto (tgt := 147) hC dX12_joins_143 (by decide) ?_
                  refine pm_ladd hC dX12_joins_147 ?_
                  refine pm_lstore (lv' := [(9, (1, ((y111 + x63) + y124))), (0, (3, 90)), (1, (0, 2)), (2, (0, 1)), (3, (0, 5)), (4, (0, (z1 + z0))), (5, (0, x27)), (6, (1, x63)), (8, (0, x65))]) hC dX12_joins_148 (by decide) rfl ?_
                  refine pm_aload_n hC 1 (by decide) dX12_joins_150 rfl ?_
                  refine pm_getf (v := 113) hC 90 fl_X12_79 rfl rfl (by decide) rfl e110 dX12_joins_151 ?_
                  refine pm_iload_n hC 4 dX12_joins_154 rfl ?_
                  refine pm_sipush (v := 300) hC dX12_joins_155 (by decide) ?_
                  refine pm_imul hC dX12_joins_158 ?_
                  change pm_J X 159 [(9, (1, ((y111 + x63) + y124))), (0, (3, 90)), (1, (0, 2)), (2, (0, 1)), (3, (0, 5)), (4, (0, (z1 + z0))), (5, (0, x27)), (6, (1, x63)), (8, (0, x65))] [(0, 1500), (3, 113)] 118 V69
                  refine pm_iload hC 6 dX12_joins_159 rfl ?_
                  refine pm_iadd hC dX12_joins_161 ?_
                  refine pm_iload hC 8 dX12_joins_162 rfl ?_
                  refine pm_iadd hC dX12_joins_164 ?_
                  refine pm_lload hC 0 dX12_joins_165 rfl ?_
                  refine pm_ldc2 (v := 10000) hC 7157 dX12_joins_167 (by decide +kernel) ?_
                  refine pm_lrem hC ⟨by exact ow_87_100 c86 c114, by exact ow_87_71 b64 b113 b125, by exact ow_87_72 b64 b113 b125⟩ ⟨by decide, by decide, by decide⟩ dX12_joins_170 ?_
                  refine pm_l2i hC dX12_joins_171 ?_
                  refine pm_iastore (len := 2400) hC 113 rfl rfl (by decide) ⟨by exact ow_87_128 b28 b66, by exact ow_87_129 b28 b66⟩ (by decide) dX12_joins_172 ?_
                  refine pm_lload hC 0 dX12_joins_173 rfl ?_
                  refine pm_ldc2 (v := 10000) hC 7157 dX12_joins_175 (by decide +kernel) ?_
                  refine pm_ldiv hC ⟨by exact ow_87_100 c86 c114, by exact ow_87_71 b64 b113 b125, by exact ow_87_72 b64 b113 b125⟩ ⟨by decide, by decide, by decide⟩ dX12_joins_178 ?_
                  refine pm_lstore (lv' := [(6, (1, (((y111 + x63) + y124) / 10000))), (9, (1, ((y111 + x63) + y124))), (0, (3, 90)), (1, (0, 2)), (2, (0, 1)), (3, (0, 5)), (4, (0, (z1 + z0))), (5, (0, x27)), (8, (0, x65))]) hC dX12_joins_179 (by decide) rfl ?_
                  obtain ⟨x126, ei127⟩ : ∃ y : Int, x65 + 1 = y := ⟨_, rfl⟩
                  replace hb81 := hb81.trans (pf_let_eq ei127)
                  refine pm_iinc (y := x126) (lv' := [(8, (0, x126)), (6, (1, (((y111 + x63) + y124) / 10000))), (9, (1, ((y111 + x63) + y124))), (0, (3, 90)), (1, (0, 2)), (2, (0, 1)), (3, (0, 5)), (4, (0, (z1 + z0))), (5, (0, x27))]) hC 8 dX12_joins_181 (by decide) rfl ei127 rfl ?_
                  refine pm_goto (tgt := 65) hC dX12_joins_184 (by decide) ?_
                  refine pm_lvsub [3, 4, 5, 6, 7, 8, 1, 0] (lv' := [(0, (3, 90)), (1, (0, 2)), (2, (0, 1)), (3, (0, 5)), (4, (0, (z1 + z0))), (5, (0, x27)), (6, (1, (((y111 + x63) + y124) / 10000))), (8, (0, x126))]) rfl ?_
                  exact ih85 _ (by exact ow_87_101 c86 c114) (((y111 + x63) + y124) / 10000) x126 (pm_up V69 113 (((1500 + x27) + x65) : Int).toNat (((y111 + x63) + y124) % 10000)) ⟨by exact ow_87_102 c86 c114, by exact ow_87_103 c86 c114⟩ ⟨by exact ow_87_56 b66 ei127, by exact ow_87_57 hq0 c114 ei127⟩ (by exact ow_87_58 c114 ei127) (by exact ow_87_104 c86 c114) (hV70.put 113 (((1500 + x27) + x65) : Int).toNat (x := (((y111 + x63) + y124) % 10000)) (lo := 0) (hi := 9999) rfl ⟨by exact ow_87_76, by exact ow_87_77⟩) (hF71.up 113 (((1500 + x27) + x65) : Int).toNat (((y111 + x63) + y124) % 10000) (by decide) rfl) e72 e73 e74 e75 e76 (fun q h1 h2 => by show pm_up V69 113 (((1500 + x27) + x65) : Int).toNat (((y111 + x63) + y124) % 10000) 113 (1500 + q) = 0; rw [pm_up_i (by exact ow_87_144 c86 c114)]; exact hx77 q h1 h2) (fun h => by show pm_up V69 113 (((1500 + x27) + x65) : Int).toNat (((y111 + x63) + y124) % 10000) 113 ((1500 + x27 + z0) : Int).toNat = 0; rw [pm_up_i (by exact ow_87_145 c86 c114)]; exact hx78 (by exact ow_87_49 c114)) (hb40.trans (pf_val_inl hb81)) rfl
          refine pm_lvsub [2, 3, 4, 5, 6, 7, 1, 0] (lv' := [(0, (3, 90)), (1, (0, 2)), (2, (0, 1)), (3, (0, 5)), (4, (0, (z1 + z0))), (5, (0, x27)), (6, (1, 0)), (8, (0, 0))]) rfl ?_
          exact L82 _ 0 0 V29 ⟨by decide, by decide⟩ ⟨by decide, by decide⟩ (by exact ow_87_107 hq0) (by exact ow_87_108 hq0) hV30 hF31 e32 e33 e34 e35 e36 (fun q h1 h2 => hx37 q (by exact ow_87_109 h1) h2) (fun _ => by have h := hx37 ((x27 + z0) : Int).toNat (by exact ow_87_110) (by exact ow_87_111 hq0 b28 c45); rw [show ((1500 + x27 + z0) : Int).toNat = 1500 + ((x27 + z0) : Int).toNat by exact ow_87_146 hq0 b28]; exact h) hb40 rfl
      refine pm_lvsub [1, 2, 3, 4, 5, 0] (lv' := [(0, (3, 90)), (1, (0, 2)), (2, (0, 1)), (3, (0, 5)), (4, (0, (z1 + z0))), (5, (0, 0))]) rfl ?_
      exact L41 _ 0 V10 ⟨by decide, by decide⟩ hV11 hF12 e13 e14 e15 e16 e17 (fun q h1 h2 => hx18 q (by exact ow_87_113 c26 h2)) hb21 rfl
    · skip
      replace hb21 := hb21.trans (if_neg (Int.not_le.mpr c26))
      refine pm_aload_n hC 0 (by decide) dX12_joins_25 rfl ?_
      have e128 : V10 90 52 = 113 := hV11.one 90 52 (by decide) (by decide) rfl
      refine pm_getf (v := 113) hC 90 fl_X12_79 rfl rfl (by decide) rfl e128 dX12_joins_26 ?_
      refine pm_iload_n hC 3 dX12_joins_29 rfl ?_
      refine pm_sipush (v := 300) hC dX12_joins_30 (by decide) ?_
      refine pm_imul hC dX12_joins_33 ?_
      change pm_J X 34 [(0, (3, 90)), (1, (0, 2)), (2, (0, 1)), (3, (0, 5)), (4, (0, (z1 + z0))), (5, (0, x8))] [(0, 1500), (3, 113)] 118 V10
      refine pm_iload hC 5 dX12_joins_34 rfl ?_
      refine pm_iadd hC dX12_joins_36 ?_
      refine pm_iconst (v := 0) hC dX12_joins_37 ?_
      refine pm_iastore (len := 2400) hC 113 rfl rfl (by decide) ⟨by exact ow_87_147 b9, by exact ow_87_148 b9⟩ (by decide) dX12_joins_38 ?_
      obtain ⟨x129, ei130⟩ : ∃ y : Int, x8 + 1 = y := ⟨_, rfl⟩
      replace hb21 := hb21.trans (pf_let_eq ei130)
      refine pm_iinc (y := x129) (lv' := [(5, (0, x129)), (0, (3, 90)), (1, (0, 2)), (2, (0, 1)), (3, (0, 5)), (4, (0, (z1 + z0)))]) hC 5 dX12_joins_39 (by decide) rfl ei130 rfl ?_
      refine pm_goto (tgt := 18) hC dX12_joins_42 (by decide) ?_
      refine pm_lvsub [1, 2, 3, 4, 5, 0] (lv' := [(0, (3, 90)), (1, (0, 2)), (2, (0, 1)), (3, (0, 5)), (4, (0, (z1 + z0))), (5, (0, x129))]) rfl ?_
      exact ih25 _ (by exact ow_87_149 hq0 hq1 hm23 c26 ei130) x129 (pm_up V10 113 ((1500 + x8) : Int).toNat 0) ⟨by exact ow_87_117 b9 ei130, by exact ow_87_150 hq0 hq1 c26 ei130⟩ (hV11.put 113 ((1500 + x8) : Int).toNat (x := 0) (lo := 0) (hi := 9999) rfl ⟨by decide, by decide⟩) (hF12.up 113 ((1500 + x8) : Int).toNat 0 (by decide) rfl) e13 e14 e15 e16 e17 (fun q h => by (by_cases hq : 1500 + q = ((1500 + x8) : Int).toNat); (show pm_up V10 113 ((1500 + x8) : Int).toNat 0 113 (1500 + q) = 0; rw [hq, pm_up_s]); (show pm_up V10 113 ((1500 + x8) : Int).toNat 0 113 (1500 + q) = 0; rw [pm_up_i hq]; exact hx18 q (by exact ow_87_151 b9 ei130 h hq))) (hT.trans (pf_val_inl hb21)) rfl
  refine pm_lvsub [2, 3, 4, 5, 1, 0] (lv' := [(0, (3, 90)), (1, (0, 2)), (2, (0, 1)), (3, (0, 5)), (4, (0, (z1 + z0))), (5, (0, 0))]) rfl ?_
  exact L22 _ 0 V0 ⟨by decide, by decide⟩ hV0 (pm_fs.rf (cs := [113, 114]) (fs := []) (V := V0)) ez0 ez1 e2 e5 e7 (fun q h => absurd h (by exact ow_87_120 h)) hT rfl
set_option maxHeartbeats 4000000 in
set_option maxRecDepth 100000 in
theorem fB_X12_compares_d4_5  : pm_K 1 yX12_compares cX12_compares 6 (some .int) (fun av V => av = [(3, 90), (0, 4), (0, 5)] ∧ pm_oq pm_qB V) (fun _ V r V' => ∃ y, r = some (0, y) ∧ ((-1) ≤ y ∧ y ≤ 1) ∧ V = V' ∧ F_X12_compares_d4_5  V = (y, V)) := by
  refine pm_MT.of (by decide) ⟨Nat.le_refl _, by decide⟩ (fun av V h => by rw [h.1]; exact (by decide : pm_words [(3, 0), (0, 0), (0, 0)] ≤ 6)) ?_
  rintro X av V0 hC - hR ⟨rfl, hV0⟩
  change pm_J X 0 [(0, (3, 90)), (1, (0, 4)), (2, (0, 5))] [] 118 V0
  have hT := F_X12_compares_d4_5_eq  V0
  refine pm_aload_n hC 0 (by decide) dX12_compares_0 rfl ?_
  have e1 : V0 90 53 = 114 := hV0.one 90 53 (by decide) (by decide) rfl
  refine pm_getf (v := 114) hC 90 fl_X12_82 rfl rfl (by decide) rfl e1 dX12_compares_1 ?_
  refine pm_iload_n hC 1 dX12_compares_4 rfl ?_
  obtain ⟨y2, e3⟩ : ∃ y, V0 114 4 = y := ⟨_, rfl⟩
  have b4 := hV0.get 114 4 (lo := 0) (hi := 600) (by decide) (by decide) rfl
  rw [e3] at b4
  replace hT := hT.trans (pf_let_eq e3)
  refine pm_iaload (len := 8) (v := y2) hC 114 rfl rfl (by decide) ⟨by decide, by decide⟩ (by decide) e3 dX12_compares_5 ?_
  refine pm_aload_n hC 0 (by decide) dX12_compares_6 rfl ?_
  refine pm_getf (v := 114) hC 90 fl_X12_82 rfl rfl (by decide) rfl e1 dX12_compares_7 ?_
  refine pm_iload_n hC 2 dX12_compares_10 rfl ?_
  obtain ⟨y5, e6⟩ : ∃ y, V0 114 5 = y := ⟨_, rfl⟩
  have b7 := hV0.get 114 5 (lo := 0) (hi := 600) (by decide) (by decide) rfl
  rw [e6] at b7
  replace hT := hT.trans (pf_let_eq e6)
  refine pm_iaload (len := 8) (v := y5) hC 114 rfl rfl (by decide) ⟨by decide, by decide⟩ (by decide) e6 dX12_compares_11 ?_
  refine pm_icmp_eq (tgt := 36) hC ⟨by exact ow_87_4 b4, by exact ow_87_5 b4⟩ ⟨by exact ow_87_4 b7, by exact ow_87_5 b7⟩ dX12_compares_12 (by decide) (fun c8 => ?_) (fun c8 => ?_)
  · skip
    replace hT := hT.trans (if_pos c8)
    refine pm_aload_n hC 0 (by decide) dX12_compares_36 rfl ?_
    refine pm_getf (v := 114) hC 90 fl_X12_82 rfl rfl (by decide) rfl e1 dX12_compares_37 ?_
    refine pm_iload_n hC 1 dX12_compares_40 rfl ?_
    refine pm_iaload (len := 8) (v := y2) hC 114 rfl rfl (by decide) ⟨by decide, by decide⟩ (by decide) e3 dX12_compares_41 ?_
    refine pm_iconst (v := 1) hC dX12_compares_42 ?_
    refine pm_isub hC dX12_compares_43 ?_
    refine pm_istore_n (lv' := [(3, (0, (y2 - 1))), (0, (3, 90)), (1, (0, 4)), (2, (0, 5))]) hC dX12_compares_44 (by decide) rfl ?_
    obtain ⟨B11, hB12, hT⟩ := pf_loop hT
    have L14 : ∀ (N16 : Nat) (x9 : Int), ((-1) ≤ x9 ∧ x9 ≤ 599) → F_X12_compares_d4_5  V0 = pf_val ((0 : Int), V0) B11 x9 → (Int.toNat (x9 - (-1))) = N16 → pm_J X 45 [(0, (3, 90)), (1, (0, 4)), (2, (0, 5)), (3, (0, x9))] [] 118 V0 := by
      intro N16
      induction N16 using Nat.strongRecOn with
      | _ N16 ih17 =>
      intro x9 b10 hT hm15
      have hb13 := congrFun hB12 x9
      refine pm_iload_n hC 3 dX12_compares_45 rfl ?_
      refine pm_if_lt (tgt := 103) hC ⟨by exact ow_87_152 b10, by exact ow_87_153 b10⟩ dX12_compares_46 (by decide) (fun c18 => ?_) (fun c18 => ?_)
      · skip
        replace hb13 := hb13.trans (if_pos c18)
        refine pm_iconst (v := 0) hC dX12_compares_103 ?_
        replace hT := hT.trans (pf_val_inr hb13)
        exact pm_iret hC hR pm_nar0 ⟨0, rfl, ⟨by exact ow_87_154, by exact ow_87_155⟩, rfl, hT⟩ dX12_compares_104
      · skip
        replace hb13 := hb13.trans (if_neg (Int.not_lt.mpr c18))
        refine pm_aload_n hC 0 (by decide) dX12_compares_49 rfl ?_
        have e19 : V0 90 52 = 113 := hV0.one 90 52 (by decide) (by decide) rfl
        refine pm_getf (v := 113) hC 90 fl_X12_79 rfl rfl (by decide) rfl e19 dX12_compares_50 ?_
        refine pm_iload_n hC 1 dX12_compares_53 rfl ?_
        refine pm_sipush (v := 300) hC dX12_compares_54 (by decide) ?_
        refine pm_imul hC dX12_compares_57 ?_
        change pm_J X 58 [(0, (3, 90)), (1, (0, 4)), (2, (0, 5)), (3, (0, x9))] [(0, 1200), (3, 113)] 118 V0
        refine pm_iload_n hC 3 dX12_compares_58 rfl ?_
        refine pm_iadd hC dX12_compares_59 ?_
        obtain ⟨y20, e21⟩ : ∃ y, V0 113 ((1200 + x9) : Int).toNat = y := ⟨_, rfl⟩
        replace hb13 := hb13.trans (pf_let_eq e21)
        have b22 := hV0.get 113 ((1200 + x9) : Int).toNat (lo := 0) (hi := 9999) (t := 0) (by decide) (show _ < 2400 by exact ow_87_156 b10) rfl
        rw [e21] at b22
        refine pm_iaload (len := 2400) (v := y20) hC 113 rfl rfl (by decide) ⟨by exact ow_87_157 c18, by exact ow_87_158 b10⟩ (by decide) e21 dX12_compares_60 ?_
        refine pm_istore (lv' := [(4, (0, y20)), (0, (3, 90)), (1, (0, 4)), (2, (0, 5)), (3, (0, x9))]) hC dX12_compares_61 (by decide) rfl ?_
        refine pm_aload_n hC 1 (by decide) dX12_compares_63 rfl ?_
        refine pm_getf (v := 113) hC 90 fl_X12_79 rfl rfl (by decide) rfl e19 dX12_compares_64 ?_
        refine pm_iload_n hC 3 dX12_compares_67 rfl ?_
        refine pm_sipush (v := 300) hC dX12_compares_68 (by decide) ?_
        refine pm_imul hC dX12_compares_71 ?_
        change pm_J X 72 [(4, (0, y20)), (0, (3, 90)), (1, (0, 4)), (2, (0, 5)), (3, (0, x9))] [(0, 1500), (3, 113)] 118 V0
        refine pm_iload_n hC 4 dX12_compares_72 rfl ?_
        refine pm_iadd hC dX12_compares_73 ?_
        obtain ⟨y23, e24⟩ : ∃ y, V0 113 ((1500 + x9) : Int).toNat = y := ⟨_, rfl⟩
        replace hb13 := hb13.trans (pf_let_eq e24)
        have b25 := hV0.get 113 ((1500 + x9) : Int).toNat (lo := 0) (hi := 9999) (t := 0) (by decide) (show _ < 2400 by exact ow_87_159 b10) rfl
        rw [e24] at b25
        refine pm_iaload (len := 2400) (v := y23) hC 113 rfl rfl (by decide) ⟨by exact ow_87_160 c18, by exact ow_87_161 b10⟩ (by decide) e24 dX12_compares_74 ?_
        refine pm_istore (lv' := [(5, (0, y23)), (4, (0, y20)), (0, (3, 90)), (1, (0, 4)), (2, (0, 5)), (3, (0, x9))]) hC dX12_compares_75 (by decide) rfl ?_
        refine pm_iload hC 1 dX12_compares_77 rfl ?_
        refine pm_iload hC 0 dX12_compares_79 rfl ?_
        refine pm_icmp_eq (tgt := 97) hC ⟨by exact ow_87_34 b22, by exact ow_87_35 b22⟩ ⟨by exact ow_87_34 b25, by exact ow_87_35 b25⟩ dX12_compares_81 (by decide) (fun c26 => ?_) (fun c26 => ?_)
        · skip
          replace hb13 := hb13.trans (if_pos c26)
          obtain ⟨x27, ei28⟩ : ∃ y : Int, x9 + (-1) = y := ⟨_, rfl⟩
          replace hb13 := hb13.trans (pf_let_eq ei28)
          refine pm_iinc (y := x27) (lv' := [(3, (0, x27)), (5, (0, y23)), (4, (0, y20)), (0, (3, 90)), (1, (0, 4)), (2, (0, 5))]) hC 5 dX12_compares_97 (by decide) rfl ei28 rfl ?_
          refine pm_goto (tgt := 45) hC dX12_compares_100 (by decide) ?_
          refine pm_lvsub [3, 4, 5, 0] (lv' := [(0, (3, 90)), (1, (0, 4)), (2, (0, 5)), (3, (0, x27))]) rfl ?_
          exact ih17 _ (by exact ow_87_162 hm15 c18 ei28) x27 ⟨by exact ow_87_163 c18 ei28, by exact ow_87_164 b10 ei28⟩ (hT.trans (pf_val_inl hb13)) rfl
        · skip
          replace hb13 := hb13.trans (if_neg c26)
          refine pm_iload hC 1 dX12_compares_84 rfl ?_
          refine pm_iload hC 0 dX12_compares_86 rfl ?_
          refine pm_icmp_ge (tgt := 95) hC ⟨by exact ow_87_34 b22, by exact ow_87_35 b22⟩ ⟨by exact ow_87_34 b25, by exact ow_87_35 b25⟩ dX12_compares_88 (by decide) (fun c29 => ?_) (fun c29 => ?_)
          · skip
            replace hb13 := hb13.trans (if_pos c29)
            refine pm_iconst (v := 1) hC dX12_compares_95 ?_
            replace hT := hT.trans (pf_val_inr hb13)
            exact pm_iret hC hR pm_nar0 ⟨1, rfl, ⟨by exact ow_87_165, by exact ow_87_166⟩, rfl, hT⟩ dX12_compares_96
          · skip
            replace hb13 := hb13.trans (if_neg (Int.not_le.mpr c29))
            refine pm_iconst (v := (-1)) hC dX12_compares_91 ?_
            refine pm_goto (tgt := 96) hC dX12_compares_92 (by decide) ?_
            replace hT := hT.trans (pf_val_inr hb13)
            exact pm_iret hC hR pm_nar0 ⟨(-1), rfl, ⟨by exact ow_87_167, by exact ow_87_165⟩, rfl, hT⟩ dX12_compares_96
    refine pm_lvsub [1, 2, 3, 0] (lv' := [(0, (3, 90)), (1, (0, 4)), (2, (0, 5)), (3, (0, (y2 - 1)))]) rfl ?_
    exact L14 _ (y2 - 1) ⟨by exact ow_87_168 b4, by exact ow_87_169 b4⟩ hT rfl
  · skip
    replace hT := hT.trans (if_neg c8)
    refine pm_aload_n hC 0 (by decide) dX12_compares_15 rfl ?_
    refine pm_getf (v := 114) hC 90 fl_X12_82 rfl rfl (by decide) rfl e1 dX12_compares_16 ?_
    refine pm_iload_n hC 1 dX12_compares_19 rfl ?_
    refine pm_iaload (len := 8) (v := y2) hC 114 rfl rfl (by decide) ⟨by decide, by decide⟩ (by decide) e3 dX12_compares_20 ?_
    refine pm_aload_n hC 0 (by decide) dX12_compares_21 rfl ?_
    refine pm_getf (v := 114) hC 90 fl_X12_82 rfl rfl (by decide) rfl e1 dX12_compares_22 ?_
    refine pm_iload_n hC 2 dX12_compares_25 rfl ?_
    refine pm_iaload (len := 8) (v := y5) hC 114 rfl rfl (by decide) ⟨by decide, by decide⟩ (by decide) e6 dX12_compares_26 ?_
    refine pm_icmp_ge (tgt := 34) hC ⟨by exact ow_87_4 b4, by exact ow_87_5 b4⟩ ⟨by exact ow_87_4 b7, by exact ow_87_5 b7⟩ dX12_compares_27 (by decide) (fun c30 => ?_) (fun c30 => ?_)
    · skip
      replace hT := hT.trans (if_pos c30)
      refine pm_iconst (v := 1) hC dX12_compares_34 ?_
      exact pm_iret hC hR pm_nar0 ⟨1, rfl, ⟨by exact ow_87_165, by exact ow_87_166⟩, rfl, hT⟩ dX12_compares_35
    · skip
      replace hT := hT.trans (if_neg (Int.not_le.mpr c30))
      refine pm_iconst (v := (-1)) hC dX12_compares_30 ?_
      refine pm_goto (tgt := 35) hC dX12_compares_31 (by decide) ?_
      exact pm_iret hC hR pm_nar0 ⟨(-1), rfl, ⟨by exact ow_87_167, by exact ow_87_165⟩, rfl, hT⟩ dX12_compares_35
set_option maxHeartbeats 4000000 in
set_option maxRecDepth 100000 in
theorem fB_X12_against  : pm_K 2 yX12_against cX12_against 1 (some .int) (fun av V => av = [(3, 90)] ∧ pm_oq pm_qB V ∧ (0 ≤ V 114 0 ∧ V 114 0 ≤ 181) ∧ (0 ≤ V 114 1 ∧ V 114 1 ≤ 181) ∧ (0 ≤ V 114 2 ∧ V 114 2 ≤ 181) ∧ (0 ≤ V 114 3 ∧ V 114 3 ≤ 181)) (fun _ V r V' => ∃ y, r = some (0, y) ∧ ((-1) ≤ y ∧ y ≤ 1) ∧ pm_oq pm_qB V' ∧ pm_fs [113, 114] [] V V' ∧ (V' 114 0 = V 114 0) ∧ (V' 114 1 = V 114 1) ∧ (V' 114 2 = V 114 2) ∧ (V' 114 3 = V 114 3) ∧ F_X12_against  V = (y, V')) := by
  refine pm_MT.of (by decide) ⟨Nat.le_refl _, by decide⟩ (fun av V h => by rw [h.1]; exact (by decide : pm_words [(3, 0)] ≤ 1)) ?_
  rintro X av V0 hC - hR ⟨rfl, hV0, hq0, hq1, hq2, hq3⟩
  change pm_J X 0 [(0, (3, 90))] [] 118 V0
  have hT := F_X12_against_eq  V0
  obtain ⟨z0, ez0⟩ : ∃ z, V0 114 0 = z := ⟨_, rfl⟩
  rw [ez0] at hq0
  replace hT := hT.trans (pf_let_eq ez0)
  obtain ⟨z1, ez1⟩ : ∃ z, V0 114 1 = z := ⟨_, rfl⟩
  rw [ez1] at hq1
  replace hT := hT.trans (pf_let_eq ez1)
  obtain ⟨z2, ez2⟩ : ∃ z, V0 114 2 = z := ⟨_, rfl⟩
  rw [ez2] at hq2
  replace hT := hT.trans (pf_let_eq ez2)
  obtain ⟨z3, ez3⟩ : ∃ z, V0 114 3 = z := ⟨_, rfl⟩
  rw [ez3] at hq3
  replace hT := hT.trans (pf_let_eq ez3)
  refine pm_aload_n hC 0 (by decide) dX12_against_0 rfl ?_
  refine pm_iconst (v := 0) hC dX12_against_1 ?_
  refine pm_iconst (v := 3) hC dX12_against_2 ?_
  refine pm_iconst (v := 4) hC dX12_against_3 ?_
  have q4 : 0 ≤ V0 114 0 ∧ V0 114 0 ≤ 181 := by (have e : V0 114 0 = z0 := ez0); rw [e]; exact ⟨by exact ow_87_170 hq0, by exact ow_87_171 hq0⟩
  have q5 : 0 ≤ V0 114 3 ∧ V0 114 3 ≤ 181 := by (have e : V0 114 3 = z3 := ez3); rw [e]; exact ⟨by exact ow_87_170 hq3, by exact ow_87_171 hq3⟩
  refine pm_callV (ci := 12) (as := [(0, 0), (0, 3), (0, 4)]) (st := []) hC 90 fB_X12_joins_d0_3_4 lm_X12_415 li_X12_joins (by decide) (by decide) rfl rfl rfl (by decide) rfl rfl (Nat.le_of_ble_eq_true rfl) ⟨Nat.le_refl _, Or.inl rfl⟩ dX12_against_4 ⟨rfl, hV0, q4, q5⟩ (fun r1 V2 hp3 => ?_)
  obtain ⟨rfl, hV6, hF7, hxp8, hxp9, hxp10, hxp11, hE12⟩ := hp3
  replace hT := hT.trans (pf_call_eq hE12)
  change pm_J X 7 [(0, (3, 90))] [] 118 V2
  have hF13 := pm_fs.tr (pm_fs.rf (cs := [113, 114]) (fs := []) (V := V0)) hF7 (by decide) (by decide)
  obtain ⟨y14, e15⟩ : ∃ y, V2 114 0 = y := ⟨_, rfl⟩
  have b16 := hV6.get 114 0 (lo := 0) (hi := 600) (by decide) (by decide) rfl
  rw [e15] at b16
  replace hT := hT.trans (pf_let_eq e15)
  obtain ⟨y17, e18⟩ : ∃ y, V2 114 1 = y := ⟨_, rfl⟩
  have b19 := hV6.get 114 1 (lo := 0) (hi := 600) (by decide) (by decide) rfl
  rw [e18] at b19
  replace hT := hT.trans (pf_let_eq e18)
  obtain ⟨y20, e21⟩ : ∃ y, V2 114 2 = y := ⟨_, rfl⟩
  have b22 := hV6.get 114 2 (lo := 0) (hi := 600) (by decide) (by decide) rfl
  rw [e21] at b22
  replace hT := hT.trans (pf_let_eq e21)
  obtain ⟨y23, e24⟩ : ∃ y, V2 114 3 = y := ⟨_, rfl⟩
  have b25 := hV6.get 114 3 (lo := 0) (hi := 600) (by decide) (by decide) rfl
  rw [e24] at b25
  replace hT := hT.trans (pf_let_eq e24)
  refine pm_aload_n hC 0 (by decide) dX12_against_7 rfl ?_
  refine pm_iconst (v := 2) hC dX12_against_8 ?_
  refine pm_iconst (v := 1) hC dX12_against_9 ?_
  refine pm_iconst (v := 5) hC dX12_against_10 ?_
  have q29 : 0 ≤ V2 114 1 ∧ V2 114 1 ≤ 181 := by (have e : V2 114 1 = y17 := e18); rw [e]; exact ⟨by exact ow_87_0 b19, by exact ow_87_172 hq1 ez1 hxp9 e18⟩
  have q30 : 0 ≤ V2 114 2 ∧ V2 114 2 ≤ 181 := by (have e : V2 114 2 = y20 := e21); rw [e]; exact ⟨by exact ow_87_0 b22, by exact ow_87_172 hq2 ez2 hxp10 e21⟩
  refine pm_callV (ci := 12) (as := [(0, 2), (0, 1), (0, 5)]) (st := []) hC 90 fB_X12_joins_d2_1_5 lm_X12_415 li_X12_joins (by decide) (by decide) rfl rfl rfl (by decide) rfl rfl (Nat.le_of_ble_eq_true rfl) ⟨Nat.le_refl _, Or.inl rfl⟩ dX12_against_11 ⟨rfl, hV6, q29, q30⟩ (fun r26 V27 hp28 => ?_)
  obtain ⟨rfl, hV31, hF32, hxp33, hxp34, hxp35, hxp36, hE37⟩ := hp28
  replace hT := hT.trans (pf_call_eq hE37)
  change pm_J X 14 [(0, (3, 90))] [] 118 V27
  have hF38 := pm_fs.tr hF13 hF32 (by decide) (by decide)
  obtain ⟨y39, e40⟩ : ∃ y, V27 114 0 = y := ⟨_, rfl⟩
  have b41 := hV31.get 114 0 (lo := 0) (hi := 600) (by decide) (by decide) rfl
  rw [e40] at b41
  replace hT := hT.trans (pf_let_eq e40)
  obtain ⟨y42, e43⟩ : ∃ y, V27 114 1 = y := ⟨_, rfl⟩
  have b44 := hV31.get 114 1 (lo := 0) (hi := 600) (by decide) (by decide) rfl
  rw [e43] at b44
  replace hT := hT.trans (pf_let_eq e43)
  obtain ⟨y45, e46⟩ : ∃ y, V27 114 2 = y := ⟨_, rfl⟩
  have b47 := hV31.get 114 2 (lo := 0) (hi := 600) (by decide) (by decide) rfl
  rw [e46] at b47
  replace hT := hT.trans (pf_let_eq e46)
  obtain ⟨y48, e49⟩ : ∃ y, V27 114 3 = y := ⟨_, rfl⟩
  have b50 := hV31.get 114 3 (lo := 0) (hi := 600) (by decide) (by decide) rfl
  rw [e49] at b50
  replace hT := hT.trans (pf_let_eq e49)
  refine pm_aload_n hC 0 (by decide) dX12_against_14 rfl ?_
  refine pm_iconst (v := 4) hC dX12_against_15 ?_
  refine pm_iconst (v := 5) hC dX12_against_16 ?_
  refine pm_callV (ci := 12) (as := [(0, 4), (0, 5)]) (st := []) hC 90 fB_X12_compares_d4_5 lm_X12_418 li_X12_compares (by decide) (by decide) rfl rfl rfl (by decide) rfl rfl (Nat.le_of_ble_eq_true rfl) ⟨Nat.le_refl _, Or.inl rfl⟩ dX12_against_17 ⟨rfl, hV31⟩ (fun r51 V52 hp53 => ?_)
  obtain ⟨y54, rfl, b55, rfl, hE56⟩ := hp53
  replace hT := hT.trans (pf_call_eq hE56)
  change pm_J X 20 [(0, (3, 90))] [(0, y54)] 118 V27
  exact pm_iret hC hR pm_nar0 ⟨y54, rfl, ⟨by exact ow_87_173 b55, by exact ow_87_174 b55⟩, hV31, hF38, (by have q := (show V27 114 0 = y39 from e40); have q2 := ez0; exact ow_87_22 hxp8 hxp33), (by have q := (show V27 114 1 = y42 from e43); have q2 := ez1; exact ow_87_22 hxp9 hxp34), (by have q := (show V27 114 2 = y45 from e46); have q2 := ez2; exact ow_87_22 hxp10 hxp35), (by have q := (show V27 114 3 = y48 from e49); have q2 := ez3; exact ow_87_22 hxp11 hxp36), hT⟩ dX12_against_20
