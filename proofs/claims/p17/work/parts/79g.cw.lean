theorem ow_79g_0 {a0 : Int} (h0 : (((-1) ≤ (a0 : Int)) ∧ (a0 ≤ (1 : Int)))) : ((-2147483648) ≤ (a0 : Int)) := by omega
theorem ow_79g_1 {a0 : Int} (h0 : (((-1) ≤ (a0 : Int)) ∧ (a0 ≤ (1 : Int)))) : (a0 ≤ (2147483647 : Int)) := by omega
theorem ow_79g_2 : ((1 = (0 : Int)) ∨ (1 = (1 : Int))) := by omega
theorem ow_79g_3 : (0 ≤ (1 : Int)) := by omega
theorem ow_79g_4 : (1 ≤ (1 : Int)) := by omega
theorem ow_79g_5 : ((84 = (84 : Int)) ∨ (84 = (87 : Int))) := by omega
theorem ow_79g_6 : ((0 = (0 : Int)) ∨ (0 = (1 : Int))) := by omega
theorem ow_79g_7 : (0 ≤ (0 : Int)) := by omega
theorem ow_79g_8 : ((87 = (84 : Int)) ∨ (87 = (87 : Int))) := by omega
theorem ow_79g_9 {a0 : Int} (h0 : ((0 ≤ (a0 : Int)) ∧ (a0 ≤ (1 : Int)))) : ((-2147483648) ≤ (a0 : Int)) := by omega
theorem ow_79g_10 {a0 : Int} (h0 : ((0 ≤ (a0 : Int)) ∧ (a0 ≤ (1 : Int)))) : (a0 ≤ (2147483647 : Int)) := by omega
theorem ow_79g_11 : ((-1) ≤ ((-1) : Int)) := by omega
theorem ow_79g_12 : ((-1) ≤ (8 : Int)) := by omega
theorem ow_79g_13 {a0 : Int} (h0 : (((-2147483648) ≤ (a0 : Int)) ∧ (a0 ≤ (2147483647 : Int)))) : ((-2147483648) ≤ (a0 : Int)) := by omega
theorem ow_79g_14 {a0 : Int} (h0 : (((-2147483648) ≤ (a0 : Int)) ∧ (a0 ≤ (2147483647 : Int)))) : (a0 ≤ (2147483647 : Int)) := by omega
theorem ow_79g_15 {a0 a1 : Int} (h0 : ((0 ≤ (a0 : Int)) ∧ ((a0 ≤ (1 : Int)) ∧ ((a0 = (1 : Int)) → (((-1) ≤ (a1 : Int)) ∧ (a1 ≤ (9 : Int))))))) : ((-2147483648) ≤ (a0 : Int)) := by omega
theorem ow_79g_16 {a0 a1 : Int} (h0 : ((0 ≤ (a0 : Int)) ∧ ((a0 ≤ (1 : Int)) ∧ ((a0 = (1 : Int)) → (((-1) ≤ (a1 : Int)) ∧ (a1 ≤ (9 : Int))))))) : (a0 ≤ (2147483647 : Int)) := by omega
theorem ow_79g_17 {a0 : Int} (h0 : ((1 ≤ (a0 : Int)) ∧ (a0 ≤ (8 : Int)))) : ((-2147483648) ≤ (a0 : Int)) := by omega
theorem ow_79g_18 {a0 : Int} (h0 : ((1 ≤ (a0 : Int)) ∧ (a0 ≤ (8 : Int)))) : (a0 ≤ (2147483647 : Int)) := by omega
theorem ow_79g_19 {a0 : Int} (h0 : ((0 ≤ (a0 : Int)) ∧ (a0 ≤ (8 : Int)))) : ((-1) ≤ (a0 : Int)) := by omega
theorem ow_79g_20 {a0 : Int} (h0 : ((0 ≤ (a0 : Int)) ∧ (a0 ≤ (8 : Int)))) : (a0 ≤ (8 : Int)) := by omega
theorem ow_79g_21 {a0 : Int} (h0 : (a0 < (7 : Int))) : (a0 ≤ (2147483647 : Int)) := by omega
theorem ow_79g_22 {a0 a2 : Int} {k1 : Nat} (h0 : (((8 - a0) : Int).toNat = (k1 : Nat))) (h1 : (a0 < (7 : Int))) (h2 : ((a0 + 1) = (a2 : Int))) : (((8 - a2) : Int).toNat < (k1 : Nat)) := by omega
theorem ow_79g_23 {a0 : Int} (h0 : ((0 ≤ (a0 : Int)) ∧ (a0 ≤ (8 : Int)))) : (0 ≤ (a0 : Int)) := by omega
theorem ow_79g_24 {a0 a1 : Int} (h0 : ((1 ≤ (a0 : Int)) ∧ (a0 ≤ (8 : Int)))) (h1 : ((a0 + 1) = (a1 : Int))) : (1 ≤ (a1 : Int)) := by omega
theorem ow_79g_25 {a0 a1 : Int} (h0 : (a0 < (7 : Int))) (h1 : ((a0 + 1) = (a1 : Int))) : (a1 ≤ (8 : Int)) := by omega
theorem ow_79g_26 {a0 : Int} (h0 : ((1 ≤ (a0 : Int)) ∧ (a0 ≤ (8 : Int)))) : (0 ≤ (a0 : Int)) := by omega
theorem ow_79g_27 {a0 : Int} (h0 : (a0 < (7 : Int))) : (a0 ≤ (8 : Int)) := by omega
theorem ow_79g_28 {a0 : Int} (h0 : ((0 ≤ (a0 : Int)) ∧ (a0 ≤ (60 : Int)))) : ((-2147483648) ≤ (a0 : Int)) := by omega
theorem ow_79g_29 {a0 : Int} (h0 : ((0 ≤ (a0 : Int)) ∧ (a0 ≤ (60 : Int)))) : (a0 ≤ (2147483647 : Int)) := by omega
theorem ow_79g_30 {a0 a1 : Int} (h0 : ((0 ≤ (a0 : Int)) ∧ (a0 ≤ (60 : Int)))) (h1 : (a1 < (a0 : Int))) : ((a1 : Int).toNat < (60 : Nat)) := by omega
theorem ow_79g_31 {a0 : Int} (h0 : ((0 ≤ (a0 : Int)) ∧ (a0 ≤ (60 : Int)))) : (0 ≤ (a0 : Int)) := by omega
theorem ow_79g_32 {a0 a1 : Int} (h0 : ((0 ≤ (a0 : Int)) ∧ (a0 ≤ (60 : Int)))) (h1 : (a1 < (a0 : Int))) : (a1 < (((60 : Nat) : Int) : Int)) := by omega
theorem ow_79g_33 {a0 : Int} (h0 : ((0 ≤ (a0 : Int)) ∧ ((a0 ≤ (999 : Int)) ∧ (((a0 % 10) ≤ (8 : Int)) ∧ (((a0 / 10) % 10) ≤ (8 : Int)))))) : (0 ≤ (a0 : Int)) := by omega
theorem ow_79g_34 {a0 : Int} (h0 : ((0 ≤ (a0 : Int)) ∧ ((a0 ≤ (999 : Int)) ∧ (((a0 % 10) ≤ (8 : Int)) ∧ (((a0 / 10) % 10) ≤ (8 : Int)))))) : ((-2147483648) ≤ (a0 : Int)) := by omega
theorem ow_79g_35 {a0 : Int} (h0 : ((0 ≤ (a0 : Int)) ∧ ((a0 ≤ (999 : Int)) ∧ (((a0 % 10) ≤ (8 : Int)) ∧ (((a0 / 10) % 10) ≤ (8 : Int)))))) : (a0 ≤ (2147483647 : Int)) := by omega
theorem ow_79g_36 {a0 : Int} (h0 : ((0 ≤ (a0 : Int)) ∧ ((a0 ≤ (999 : Int)) ∧ (((a0 % 10) ≤ (8 : Int)) ∧ (((a0 / 10) % 10) ≤ (8 : Int)))))) : ((-2147483648) ≤ ((a0 / 100) : Int)) := by omega
theorem ow_79g_37 {a0 : Int} (h0 : ((0 ≤ (a0 : Int)) ∧ ((a0 ≤ (999 : Int)) ∧ (((a0 % 10) ≤ (8 : Int)) ∧ (((a0 / 10) % 10) ≤ (8 : Int)))))) : ((a0 / 100) ≤ (2147483647 : Int)) := by omega
theorem ow_79g_38 {a0 : Int} (h0 : ((0 ≤ (a0 : Int)) ∧ (a0 ≤ (9 : Int)))) : ((-2147483648) ≤ (a0 : Int)) := by omega
theorem ow_79g_39 {a0 : Int} (h0 : ((0 ≤ (a0 : Int)) ∧ (a0 ≤ (9 : Int)))) : (a0 ≤ (2147483647 : Int)) := by omega
theorem ow_79g_40 {a0 a2 a3 : Int} {k1 : Nat} (h0 : (((60 - a0) : Int).toNat = (k1 : Nat))) (h1 : ((0 ≤ (a2 : Int)) ∧ (a2 ≤ (60 : Int)))) (h2 : (a0 < (a2 : Int))) (h3 : ((a0 + 1) = (a3 : Int))) : (((60 - a3) : Int).toNat < (k1 : Nat)) := by omega
theorem ow_79g_41 {a0 a1 : Int} (h0 : ((0 ≤ (a0 : Int)) ∧ (a0 ≤ (60 : Int)))) (h1 : ((a0 + 1) = (a1 : Int))) : (0 ≤ (a1 : Int)) := by omega
theorem ow_79g_42 {a0 a1 a2 : Int} (h0 : ((0 ≤ (a0 : Int)) ∧ (a0 ≤ (60 : Int)))) (h1 : (a1 < (a0 : Int))) (h2 : ((a1 + 1) = (a2 : Int))) : (a2 ≤ (60 : Int)) := by omega
theorem ow_79g_43 {a0 : Int} (h0 : ((0 ≤ (a0 : Int)) ∧ ((a0 ≤ (999 : Int)) ∧ (((a0 % 10) ≤ (8 : Int)) ∧ (((a0 / 10) % 10) ≤ (8 : Int)))))) : (a0 ≤ (999 : Int)) := by omega
theorem ow_79g_44 {a0 : Int} (h0 : ((0 ≤ (a0 : Int)) ∧ (a0 ≤ (99 : Int)))) : (0 ≤ (a0 : Int)) := by omega
theorem ow_79g_45 {a0 : Int} (h0 : ((0 ≤ (a0 : Int)) ∧ (a0 ≤ (99 : Int)))) : (a0 ≤ (99 : Int)) := by omega
theorem ow_79g_46 {a0 : Int} (h0 : (((-30) ≤ (a0 : Int)) ∧ (a0 ≤ (30 : Int)))) : ((-30) ≤ (a0 : Int)) := by omega
theorem ow_79g_47 {a0 : Int} (h0 : (((-30) ≤ (a0 : Int)) ∧ (a0 ≤ (30 : Int)))) : (a0 ≤ (30 : Int)) := by omega
theorem ow_79g_48 {a0 : Int} (h0 : ((0 ≤ (a0 : Int)) ∧ ((a0 ≤ (999 : Int)) ∧ (((a0 % 10) ≤ (8 : Int)) ∧ (((a0 / 10) % 10) ≤ (8 : Int)))))) : (((a0 % 10) ≤ (8 : Int)) ∧ (((a0 / 10) % 10) ≤ (8 : Int))) := by omega
theorem ow_79g_49 {a0 : Int} (h0 : (((-99) ≤ (a0 : Int)) ∧ (a0 ≤ (99 : Int)))) : ((-99) ≤ (a0 : Int)) := by omega
theorem ow_79g_50 {a0 : Int} (h0 : (((-99) ≤ (a0 : Int)) ∧ (a0 ≤ (99 : Int)))) : (a0 ≤ (99 : Int)) := by omega
theorem ow_79g_51 {a0 : Int} (h0 : ((0 ≤ (a0 : Int)) ∧ (a0 ≤ (8 : Int)))) : ((a0 : Int).toNat < (9 : Nat)) := by omega
theorem ow_79g_52 {a0 : Int} (h0 : ((0 ≤ (a0 : Int)) ∧ (a0 ≤ (8 : Int)))) : (a0 < (((9 : Nat) : Int) : Int)) := by omega
theorem ow_79g_53 {a0 : Int} (h0 : (((-9223372036854775808) ≤ (a0 : Int)) ∧ (a0 ≤ (9223372036854775807 : Int)))) : ((-9223372036854775808) ≤ (a0 : Int)) := by omega
theorem ow_79g_54 {a0 : Int} (h0 : (((-9223372036854775808) ≤ (a0 : Int)) ∧ (a0 ≤ (9223372036854775807 : Int)))) : (a0 ≤ (9223372036854775807 : Int)) := by omega
theorem ow_79g_55 {a0 : Int} (h0 : ((0 ≤ (a0 : Int)) ∧ (a0 ≤ (9 : Int)))) : ((a0 : Int).toNat < (10 : Nat)) := by omega
theorem ow_79g_56 {a0 : Int} (h0 : ((0 ≤ (a0 : Int)) ∧ (a0 ≤ (9 : Int)))) : (0 ≤ (a0 : Int)) := by omega
theorem ow_79g_57 {a0 : Int} (h0 : ((0 ≤ (a0 : Int)) ∧ (a0 ≤ (9 : Int)))) : (a0 < (((10 : Nat) : Int) : Int)) := by omega
theorem ow_79g_58 {a0 : Int} (h0 : ((0 ≤ (a0 : Int)) ∧ (a0 ≤ (9 : Int)))) : (a0 ≤ (9 : Int)) := by omega
theorem ow_79g_59 {a0 : Int} (h0 : (((-12) ≤ (a0 : Int)) ∧ (a0 ≤ (12 : Int)))) : ((-30) ≤ (a0 : Int)) := by omega
theorem ow_79g_60 {a0 : Int} (h0 : (((-12) ≤ (a0 : Int)) ∧ (a0 ≤ (12 : Int)))) : (a0 ≤ (30 : Int)) := by omega
theorem ow_79g_61 {a0 : Int} (h0 : ((0 ≤ (a0 : Int)) ∧ (a0 ≤ (16 : Int)))) : ((-2147483648) ≤ (a0 : Int)) := by omega
theorem ow_79g_62 {a0 : Int} (h0 : ((0 ≤ (a0 : Int)) ∧ (a0 ≤ (16 : Int)))) : (a0 ≤ (2147483647 : Int)) := by omega
theorem ow_79g_63 {a0 : Int} (h0 : (((-12) ≤ (a0 : Int)) ∧ (a0 ≤ (12 : Int)))) : ((-2147483648) ≤ (a0 : Int)) := by omega
theorem ow_79g_64 {a0 : Int} (h0 : (((-12) ≤ (a0 : Int)) ∧ (a0 ≤ (12 : Int)))) : (a0 ≤ (2147483647 : Int)) := by omega
theorem ow_79g_65 {a0 : Int} (h0 : ((1 ≤ (a0 : Int)) ∧ (a0 ≤ (60 : Int)))) : ((-2147483648) ≤ (a0 : Int)) := by omega
theorem ow_79g_66 {a0 : Int} (h0 : ((1 ≤ (a0 : Int)) ∧ (a0 ≤ (60 : Int)))) : (a0 ≤ (2147483647 : Int)) := by omega
theorem ow_79g_67 {a0 : Int} (h0 : (((-12) ≤ (a0 : Int)) ∧ (a0 ≤ (16 : Int)))) : ((-2147483648) ≤ (a0 : Int)) := by omega
theorem ow_79g_68 {a0 : Int} (h0 : (((-12) ≤ (a0 : Int)) ∧ (a0 ≤ (16 : Int)))) : (a0 ≤ (2147483647 : Int)) := by omega
theorem ow_79g_69 {a0 a2 : Int} {k1 : Nat} (h0 : (((60 - a0) : Int).toNat = (k1 : Nat))) (h1 : (a0 ≤ (24 : Int))) (h2 : ((a0 + 1) = (a2 : Int))) : (((60 - a2) : Int).toNat < (k1 : Nat)) := by omega
theorem ow_79g_70 {a0 a1 : Int} (h0 : ((1 ≤ (a0 : Int)) ∧ (a0 ≤ (60 : Int)))) (h1 : ((a0 + 1) = (a1 : Int))) : (1 ≤ (a1 : Int)) := by omega
theorem ow_79g_71 {a0 a1 : Int} (h0 : (a0 ≤ (24 : Int))) (h1 : ((a0 + 1) = (a1 : Int))) : (a1 ≤ (60 : Int)) := by omega
theorem ow_79g_72 {a0 : Int} (h0 : (a0 ≤ (12 : Int))) : (a0 ≤ (2147483647 : Int)) := by omega
theorem ow_79g_73 {a0 a1 a2 : Int} (h0 : ((1 ≤ (a0 : Int)) ∧ (a0 ≤ (60 : Int)))) (h1 : (((-2147483648) ≤ (a1 : Int)) ∧ ((a1 ≤ (2147483647 : Int)) ∧ ((a2 = ((-2147483648) : Int)) ∨ ((0 ≤ (a1 : Int)) ∧ ((a1 = (a2 : Int)) ∨ (a1 = ((-a2) : Int)))))))) : ((-2147483648) ≤ ((a0 - a1) : Int)) := by omega
theorem ow_79g_74 {a0 a1 a2 : Int} (h0 : (a0 ≤ (24 : Int))) (h1 : (((-12) ≤ (a1 : Int)) ∧ (a1 ≤ (16 : Int)))) (h2 : (((-2147483648) ≤ (a2 : Int)) ∧ ((a2 ≤ (2147483647 : Int)) ∧ ((a1 = ((-2147483648) : Int)) ∨ ((0 ≤ (a2 : Int)) ∧ ((a2 = (a1 : Int)) ∨ (a2 = ((-a1) : Int)))))))) : ((a0 - a2) ≤ (2147483647 : Int)) := by omega
theorem ow_79g_75 {a0 a1 : Int} (h0 : ((a0 - a1) < (0 : Int))) : ((a0 - a1) ≤ (2147483647 : Int)) := by omega
theorem ow_79g_76 {a0 a2 : Int} {k1 : Nat} (h0 : (((16 - a0) : Int).toNat = (k1 : Nat))) (h1 : (a0 ≤ (12 : Int))) (h2 : ((a0 + 1) = (a2 : Int))) : (((16 - a2) : Int).toNat < (k1 : Nat)) := by omega
theorem ow_79g_77 {a0 a1 : Int} (h0 : (((-12) ≤ (a0 : Int)) ∧ (a0 ≤ (16 : Int)))) (h1 : ((a0 + 1) = (a1 : Int))) : ((-12) ≤ (a1 : Int)) := by omega
theorem ow_79g_78 {a0 a1 : Int} (h0 : (a0 ≤ (12 : Int))) (h1 : ((a0 + 1) = (a1 : Int))) : (a1 ≤ (16 : Int)) := by omega
theorem ow_79g_79 {a0 a1 : Int} (h0 : ((a0 - a1) < (0 : Int))) (h1 : (0 < ((a0 - a1) : Int))) : False := by omega
theorem ow_79g_80 {a0 a1 : Int} (h0 : (0 ≤ ((a0 - a1) : Int))) : ((-2147483648) ≤ ((a0 - a1) : Int)) := by omega
theorem ow_79g_81 {a0 a1 : Int} (h0 : (12 < ((a0 - a1) : Int))) : ((-2147483648) ≤ ((a0 - a1) : Int)) := by omega
theorem ow_79g_82 {a0 a1 : Int} (h0 : (12 < ((a0 - a1) : Int))) (h1 : ((a0 - a1) ≤ (0 : Int))) : False := by omega
theorem ow_79g_83 {a0 a1 : Int} (h0 : (12 < ((a0 - a1) : Int))) (h1 : ((a0 - a1) ≤ (12 : Int))) : False := by omega
theorem ow_79g_84 {a0 : Int} (h0 : (((-12) ≤ (a0 : Int)) ∧ (a0 ≤ (16 : Int)))) : ((-12) ≤ (a0 : Int)) := by omega
theorem ow_79g_85 {a0 : Int} (h0 : (a0 ≤ (12 : Int))) : (a0 ≤ (12 : Int)) := by omega
theorem ow_79g_86 {a0 a1 : Int} (h0 : ((a0 - a1) ≤ (12 : Int))) : ((-12) ≤ ((-(a0 - a1)) : Int)) := by omega
theorem ow_79g_87 {a0 a1 : Int} (h0 : (0 ≤ ((a0 - a1) : Int))) : ((-(a0 - a1)) ≤ (12 : Int)) := by omega
theorem ow_79g_88 {a0 a1 : Int} (h0 : ((a0 - a1) ≤ (12 : Int))) : ((a0 - a1) ≤ (2147483647 : Int)) := by omega
theorem ow_79g_89 {a0 a1 : Int} (h0 : (0 < ((a0 - a1) : Int))) : ((-2147483648) ≤ ((a0 - a1) : Int)) := by omega
theorem ow_79g_90 {a0 a1 : Int} (h0 : ((a0 - a1) ≤ (12 : Int))) (h1 : (12 < ((a0 - a1) : Int))) : False := by omega
theorem ow_79g_91 {a0 a1 : Int} (h0 : (0 < ((a0 - a1) : Int))) : ((-12) ≤ ((a0 - a1) : Int)) := by omega
theorem ow_79g_92 {a0 a1 : Int} (h0 : ((a0 - a1) ≤ (12 : Int))) : ((a0 - a1) ≤ (12 : Int)) := by omega
theorem ow_79g_93 {a0 : Int} (h0 : ((0 ≤ (a0 : Int)) ∧ (a0 ≤ (16 : Int)))) : (0 ≤ (a0 : Int)) := by omega
theorem ow_79g_94 {a0 : Int} (h0 : ((0 ≤ (a0 : Int)) ∧ (a0 ≤ (16 : Int)))) : (a0 ≤ (16 : Int)) := by omega
theorem ow_79g_95 {a0 : Int} (h0 : (a0 ≤ (16 : Int))) : (a0 ≤ (2147483647 : Int)) := by omega
theorem ow_79g_96 {a0 a2 : Int} {k1 : Nat} (h0 : (((60 - a0) : Int).toNat = (k1 : Nat))) (h1 : (a0 ≤ (16 : Int))) (h2 : ((a0 + 1) = (a2 : Int))) : (((60 - a2) : Int).toNat < (k1 : Nat)) := by omega
theorem ow_79g_97 {a0 a1 : Int} (h0 : (a0 ≤ (16 : Int))) (h1 : ((a0 + 1) = (a1 : Int))) : (a1 ≤ (60 : Int)) := by omega
theorem ow_79g_98 {a0 : Int} (h0 : ((1 ≤ (a0 : Int)) ∧ (a0 ≤ (60 : Int)))) : (0 ≤ (a0 : Int)) := by omega
theorem ow_79g_99 {a0 : Int} (h0 : (a0 ≤ (16 : Int))) : (a0 ≤ (16 : Int)) := by omega
theorem ow_79g_100 {a0 a1 : Int} (h0 : ((0 ≤ (a0 : Int)) ∧ ((a0 ≤ (1 : Int)) ∧ ((a0 = (1 : Int)) → ((0 ≤ (a1 : Int)) ∧ (a1 ≤ (9 : Int))))))) : ((-2147483648) ≤ (a0 : Int)) := by omega
theorem ow_79g_101 {a0 a1 : Int} (h0 : ((0 ≤ (a0 : Int)) ∧ ((a0 ≤ (1 : Int)) ∧ ((a0 = (1 : Int)) → ((0 ≤ (a1 : Int)) ∧ (a1 ≤ (9 : Int))))))) : (a0 ≤ (2147483647 : Int)) := by omega
theorem ow_79g_102 : ((-2147483648) ≤ ((-2147483648) : Int)) := by omega
theorem ow_79g_103 : ((-2147483648) ≤ (2147483647 : Int)) := by omega
theorem ow_79g_104 {a0 : Int} (h0 : (0 ≤ (a0 : Int))) : ((-2147483648) ≤ (a0 : Int)) := by omega
theorem ow_79g_105 {a0 : Int} (h0 : (a0 ≤ (2 : Int))) : (a0 ≤ (2147483647 : Int)) := by omega
theorem ow_79g_106 {a0 a1 : Int} (h0 : ((0 ≤ (a0 : Int)) ∧ ((a0 ≤ (1 : Int)) ∧ ((a0 = (1 : Int)) → ((0 ≤ (a1 : Int)) ∧ (a1 ≤ (9 : Int))))))) (h1 : ¬((a0 = (0 : Int)))) : (0 ≤ (a1 : Int)) := by omega
theorem ow_79g_107 {a0 a1 : Int} (h0 : ((0 ≤ (a0 : Int)) ∧ ((a0 ≤ (1 : Int)) ∧ ((a0 = (1 : Int)) → ((0 ≤ (a1 : Int)) ∧ (a1 ≤ (9 : Int))))))) (h1 : ¬((a0 = (0 : Int)))) : (a1 ≤ (9 : Int)) := by omega
theorem ow_79g_108 {a0 : Int} : ((0 = (1 : Int)) → (((-1) ≤ (a0 : Int)) ∧ (a0 ≤ (3 : Int)))) := by omega
theorem ow_79g_109 {a0 : Int} (h0 : ((-1) ≤ (a0 : Int))) : ((-2147483648) ≤ (a0 : Int)) := by omega
theorem ow_79g_110 {a0 : Int} (h0 : ((-1) ≤ (a0 : Int))) (h1 : (a0 ≤ (3 : Int))) : ((1 = (1 : Int)) → (((-1) ≤ (a0 : Int)) ∧ (a0 ≤ (3 : Int)))) := by omega
theorem ow_79g_111 {a0 : Int} (h0 : ((0 ≤ (a0 : Int)) ∧ (a0 ≤ (59 : Int)))) : ((a0 : Int).toNat < (60 : Nat)) := by omega
theorem ow_79g_112 {a0 : Int} (h0 : ((0 ≤ (a0 : Int)) ∧ (a0 ≤ (59 : Int)))) : (0 ≤ (a0 : Int)) := by omega
theorem ow_79g_113 {a0 : Int} (h0 : ((0 ≤ (a0 : Int)) ∧ (a0 ≤ (59 : Int)))) : (a0 < (((60 : Nat) : Int) : Int)) := by omega
theorem ow_79g_114 {a0 : Int} (h0 : ((0 ≤ (a0 : Int)) ∧ ((a0 ≤ (999 : Int)) ∧ (((a0 % 10) ≤ (8 : Int)) ∧ (((a0 / 10) % 10) ≤ (8 : Int)))))) : (((a0 / 100) : Int).toNat < (10 : Nat)) := by omega
theorem ow_79g_115 {a0 : Int} (h0 : ((0 ≤ (a0 : Int)) ∧ ((a0 ≤ (999 : Int)) ∧ (((a0 % 10) ≤ (8 : Int)) ∧ (((a0 / 10) % 10) ≤ (8 : Int)))))) : (0 ≤ ((a0 / 100) : Int)) := by omega
theorem ow_79g_116 {a0 : Int} (h0 : ((0 ≤ (a0 : Int)) ∧ ((a0 ≤ (999 : Int)) ∧ (((a0 % 10) ≤ (8 : Int)) ∧ (((a0 / 10) % 10) ≤ (8 : Int)))))) : ((a0 / 100) < (((10 : Nat) : Int) : Int)) := by omega
theorem ow_79g_117 {a0 : Int} (h0 : ((0 ≤ (a0 : Int)) ∧ (a0 ≤ (3 : Int)))) : ((-2147483648) ≤ (a0 : Int)) := by omega
theorem ow_79g_118 {a0 : Int} (h0 : ((0 ≤ (a0 : Int)) ∧ (a0 ≤ (3 : Int)))) : (a0 ≤ (2147483647 : Int)) := by omega
theorem ow_79g_119 {a0 : Int} (h0 : ((0 ≤ (a0 : Int)) ∧ (a0 ≤ (60 : Int)))) : (a0 ≤ (60 : Int)) := by omega
theorem ow_79g_120 {a0 a1 : Int} (h0 : ((0 ≤ (a0 : Int)) ∧ (a0 ≤ (60 : Int)))) (h1 : (a1 < (a0 : Int))) : (a1 ≤ (59 : Int)) := by omega
theorem ow_79g_121 {a0 a1 a2 : Int} (h0 : (a0 ≤ (a1 : Int))) (h1 : ((a1 + 1) = (a2 : Int))) : (a0 ≤ (a2 : Int)) := by omega
theorem ow_79g_122 {a0 a1 a2 a3 : Int} (h0 : (a0 ≤ (a1 : Int))) (h1 : ((0 ≤ (a2 : Int)) ∧ (a2 ≤ (60 : Int)))) (h2 : (a1 < (a2 : Int))) (h3 : ((a0 + 1) = (a3 : Int))) : (a3 ≤ (60 : Int)) := by omega
theorem ow_79g_123 {a0 a1 a2 a3 : Int} (h0 : (a0 ≤ (a1 : Int))) (h1 : ((a0 + 1) = (a2 : Int))) (h2 : ((a1 + 1) = (a3 : Int))) : (a2 ≤ (a3 : Int)) := by omega
theorem ow_79g_124 {a0 a1 : Int} (h0 : ((0 ≤ (a0 : Int)) ∧ ((a0 ≤ (1 : Int)) ∧ ((a0 = (1 : Int)) → (((-1) ≤ (a1 : Int)) ∧ (a1 ≤ (3 : Int))))))) : ((-2147483648) ≤ (a0 : Int)) := by omega
theorem ow_79g_125 {a0 a1 : Int} (h0 : ((0 ≤ (a0 : Int)) ∧ ((a0 ≤ (1 : Int)) ∧ ((a0 = (1 : Int)) → (((-1) ≤ (a1 : Int)) ∧ (a1 ≤ (3 : Int))))))) : (a0 ≤ (2147483647 : Int)) := by omega
theorem ow_79g_126 (h0 : (0 < (0 : Int))) : False := by omega
theorem ow_79g_127 : ((-1) ≤ (60000 : Int)) := by omega
theorem ow_79g_128 (h0 : ¬((0 = (0 : Int)))) : False := by omega
theorem ow_79g_129 {a0 a1 : Int} (h0 : ((0 ≤ (a0 : Int)) ∧ ((a0 ≤ (1 : Int)) ∧ ((a0 = (1 : Int)) → ((0 ≤ (a1 : Int)) ∧ (a1 ≤ (3 : Int))))))) : ((-2147483648) ≤ (a0 : Int)) := by omega
theorem ow_79g_130 {a0 a1 : Int} (h0 : ((0 ≤ (a0 : Int)) ∧ ((a0 ≤ (1 : Int)) ∧ ((a0 = (1 : Int)) → ((0 ≤ (a1 : Int)) ∧ (a1 ≤ (3 : Int))))))) : (a0 ≤ (2147483647 : Int)) := by omega
theorem ow_79g_131 (h0 : (1 = (0 : Int))) : False := by omega
theorem ow_79g_132 {a0 : Int} (h0 : ((0 ≤ (a0 : Int)) ∧ (a0 ≤ (60 : Int)))) : (0 ≤ ((a0 * 1000) : Int)) := by omega
theorem ow_79g_133 {a0 : Int} (h0 : ((0 ≤ (a0 : Int)) ∧ (a0 ≤ (60 : Int)))) : ((-2147483648) ≤ ((a0 * 1000) : Int)) := by omega
theorem ow_79g_134 {a0 : Int} (h0 : ((0 ≤ (a0 : Int)) ∧ (a0 ≤ (60 : Int)))) : ((a0 * 1000) ≤ (2147483647 : Int)) := by omega
theorem ow_79g_135 {a0 : Int} (h0 : (0 < (a0 : Int))) : (0 < (a0 : Int)) := by omega
theorem ow_79g_136 {a0 : Int} (h0 : (0 < (a0 : Int))) : ((-2147483648) ≤ (a0 : Int)) := by omega
theorem ow_79g_137 {a0 a1 : Int} (h0 : ((0 ≤ (a0 : Int)) ∧ (a0 ≤ ((a1 * 1000) : Int)))) : ((-1) ≤ (a0 : Int)) := by omega
theorem ow_79g_138 {a0 a1 : Int} (h0 : ((0 ≤ (a0 : Int)) ∧ (a0 ≤ (60 : Int)))) (h1 : ((0 ≤ (a1 : Int)) ∧ (a1 ≤ ((a0 * 1000) : Int)))) : (a1 ≤ (60000 : Int)) := by omega
theorem ow_79g_139 {a0 a1 : Int} (h0 : ((0 ≤ (a0 : Int)) ∧ ((a0 ≤ (1 : Int)) ∧ ((a0 = (1 : Int)) → ((0 ≤ (a1 : Int)) ∧ (a1 ≤ (3 : Int))))))) (h1 : ¬((a0 = (0 : Int)))) (h2 : (a1 = (4 : Int))) : False := by omega
theorem ow_79g_140 {a0 : Int} (h0 : (a0 = (4 : Int))) : ((-2147483648) ≤ (a0 : Int)) := by omega
theorem ow_79g_141 {a0 : Int} (h0 : (a0 = (4 : Int))) : (a0 ≤ (2147483647 : Int)) := by omega
theorem ow_79g_142 {a0 : Int} (h0 : (a0 = (4 : Int))) (h1 : ¬((a0 = (4 : Int)))) : False := by omega
noncomputable def F_X11_gatherOdds (ch : Nat) (a1 a2 a3 a4 : Int) (V0 : pm_M) : Int × pm_M := pf_let ((pm_up V0 ch 0 0)) fun V1 => pf_val ((0 : Int), V0) (fun (q : Int × pm_M) => match q with | (x6, V8) => (pf_let (V8 4 6) fun y19 => (if y19 ≤ x6 then ((.inr (0, V8))) else (pf_let (V8 9 (x6 : Int).toNat) fun y24 => (if ¬ ((y24 / 100) = a1) then (pf_let (x6 + 1) fun x28 => (.inl (x28, V8))) else (pf_let (V8 10 (x6 : Int).toNat) fun y31 => pf_call (F_X11_poseAs y24 y31 a2 a3 V8) fun _ V35 => pf_let (V35 11 (x6 : Int).toNat) fun y47 => pf_call (F_X10_trustAt a4 y47 V35) fun _ V51 => pf_call (F_X10_weigh 4 V51) fun _ V64 => (if V64 73 13 = 76 then (pf_let (V64 12 (x6 : Int).toNat) fun y78 => pf_let (V64 76 (y78 : Int).toNat) fun y81 => pf_let (V64 73 14) fun y84 => pf_call (F_X0_add ch y81 y84 V64) fun _ V88 => pf_let (x6 + 1) fun x103 => (.inl (x103, V88))) else (pf_let (V64 12 (x6 : Int).toNat) fun y106 => pf_let (V64 77 (y106 : Int).toNat) fun y109 => pf_let (V64 73 14) fun y112 => pf_call (F_X0_add ch y109 y112 V64) fun _ V116 => pf_let (x6 + 1) fun x131 => (.inl (x131, V116)))))))))) (0, V1)
theorem F_X11_gatherOdds_eq (ch : Nat) (a1 a2 a3 a4 : Int) (V0 : pm_M) : F_X11_gatherOdds ch a1 a2 a3 a4 V0 = pf_let ((pm_up V0 ch 0 0)) fun V1 => pf_val ((0 : Int), V0) (fun (q : Int × pm_M) => match q with | (x6, V8) => (pf_let (V8 4 6) fun y19 => (if y19 ≤ x6 then ((.inr (0, V8))) else (pf_let (V8 9 (x6 : Int).toNat) fun y24 => (if ¬ ((y24 / 100) = a1) then (pf_let (x6 + 1) fun x28 => (.inl (x28, V8))) else (pf_let (V8 10 (x6 : Int).toNat) fun y31 => pf_call (F_X11_poseAs y24 y31 a2 a3 V8) fun _ V35 => pf_let (V35 11 (x6 : Int).toNat) fun y47 => pf_call (F_X10_trustAt a4 y47 V35) fun _ V51 => pf_call (F_X10_weigh 4 V51) fun _ V64 => (if V64 73 13 = 76 then (pf_let (V64 12 (x6 : Int).toNat) fun y78 => pf_let (V64 76 (y78 : Int).toNat) fun y81 => pf_let (V64 73 14) fun y84 => pf_call (F_X0_add ch y81 y84 V64) fun _ V88 => pf_let (x6 + 1) fun x103 => (.inl (x103, V88))) else (pf_let (V64 12 (x6 : Int).toNat) fun y106 => pf_let (V64 77 (y106 : Int).toNat) fun y109 => pf_let (V64 73 14) fun y112 => pf_call (F_X0_add ch y109 y112 V64) fun _ V116 => pf_let (x6 + 1) fun x131 => (.inl (x131, V116)))))))))) (0, V1) := rfl
noncomputable def F_X11_isLandOrAll (a1 : Int) (V0 : pm_M) : Int × pm_M := (if a1 < (-1) then ((0, V0)) else ((if 3 < a1 then ((0, V0)) else ((1, V0)))))
theorem F_X11_isLandOrAll_eq (a1 : Int) (V0 : pm_M) : F_X11_isLandOrAll a1 V0 = (if a1 < (-1) then ((0, V0)) else ((if 3 < a1 then ((0, V0)) else ((1, V0))))) := rfl
noncomputable def F_X11_isOfLand (a1 a2 : Int) (V0 : pm_M) : Int × pm_M := (if a2 = (-1) then ((1, V0)) else (pf_let (V0 9 (a1 : Int).toNat) fun y5 => pf_let (V0 8 ((y5 / 100) : Int).toNat) fun y8 => (if ¬ (y8 = a2) then ((0, V0)) else ((1, V0)))))
theorem F_X11_isOfLand_eq (a1 a2 : Int) (V0 : pm_M) : F_X11_isOfLand a1 a2 V0 = (if a2 = (-1) then ((1, V0)) else (pf_let (V0 9 (a1 : Int).toNat) fun y5 => pf_let (V0 8 ((y5 / 100) : Int).toNat) fun y8 => (if ¬ (y8 = a2) then ((0, V0)) else ((1, V0))))) := rfl
noncomputable def F_X11_countOfLand (a1 : Int) (V0 : pm_M) : Int × pm_M := pf_val ((0 : Int), V0) (fun (q : Int × Int) => match q with | (x1, x3) => (pf_let (V0 4 6) fun y14 => (if y14 ≤ x3 then ((.inr (x1, V0))) else (pf_call (F_X11_isOfLand x3 a1 V0) fun y21 _ => (if y21 = 0 then (pf_let (x3 + 1) fun x25 => (.inl (x1, x25))) else (pf_let (x1 + 1) fun x27 => pf_let (x3 + 1) fun x29 => (.inl (x27, x29)))))))) (0, 0)
theorem F_X11_countOfLand_eq (a1 : Int) (V0 : pm_M) : F_X11_countOfLand a1 V0 = pf_val ((0 : Int), V0) (fun (q : Int × Int) => match q with | (x1, x3) => (pf_let (V0 4 6) fun y14 => (if y14 ≤ x3 then ((.inr (x1, V0))) else (pf_call (F_X11_isOfLand x3 a1 V0) fun y21 _ => (if y21 = 0 then (pf_let (x3 + 1) fun x25 => (.inl (x1, x25))) else (pf_let (x1 + 1) fun x27 => pf_let (x3 + 1) fun x29 => (.inl (x27, x29)))))))) (0, 0) := rfl
noncomputable def F_X11_share (a1 a2 : Int) (V0 : pm_M) : Int × pm_M := pf_call (F_X11_isLandOrAll a1 V0) fun y4 _ => (if y4 = 0 then (((-1), V0)) else (pf_call (F_X11_isKind a2 V0) fun y13 _ => (if ¬ (y13 = 0) then (pf_call (F_X11_countOfLand a1 V0) fun y21 _ => (if 0 < y21 then (pf_val ((0 : Int), V0) (fun (q : Int × Int) => match q with | (x25, x27) => (pf_let (V0 4 6) fun y38 => (if y38 ≤ x27 then (pf_let (((x25 * 1000) / y21)) fun y42 => (.inr (y42, V0))) else ((if ¬ (a2 = 4) then (pf_call (F_X7_kindOfAnswer x27 V0) fun y48 _ => (if ¬ (y48 = a2) then (pf_call (F_X11_isOfLand x27 a1 V0) fun y55 _ => (if y55 = 0 then (pf_let (x27 + 1) fun x59 => (.inl (x25, x59))) else (pf_let (x27 + 1) fun x62 => (.inl (x25, x62))))) else (pf_call (F_X11_isOfLand x27 a1 V0) fun y67 _ => (if y67 = 0 then (pf_let (x27 + 1) fun x71 => (.inl (x25, x71))) else (pf_let (x25 + 1) fun x74 => pf_let (x27 + 1) fun x76 => (.inl (x74, x76))))))) else ((.inr ((0 : Int), V0)))))))) (0, 0)) else (((-1), V0)))) else ((if ¬ (a2 = 4) then (((-1), V0)) else (pf_call (F_X11_countOfLand a1 V0) fun y85 _ => (if 0 < y85 then (pf_val ((0 : Int), V0) (fun (q : Int × Int) => match q with | (x89, x91) => (pf_let (V0 4 6) fun y102 => (if y102 ≤ x91 then (pf_let (((x89 * 1000) / y85)) fun y106 => (.inr (y106, V0))) else ((if ¬ (a2 = 4) then ((.inr ((0 : Int), V0))) else (pf_let (V0 13 (x91 : Int).toNat) fun y110 => pf_call (F_X11_isOfLand x91 a1 V0) fun y116 _ => (if y116 = 0 then (pf_let (x91 + 1) fun x120 => (.inl (x89, x120))) else ((if y110 = 0 then (pf_let (x91 + 1) fun x123 => (.inl (x89, x123))) else (pf_let (x89 + 1) fun x125 => pf_let (x91 + 1) fun x127 => (.inl (x125, x127)))))))))))) (0, 0)) else (((-1), V0)))))))))
theorem F_X11_share_eq (a1 a2 : Int) (V0 : pm_M) : F_X11_share a1 a2 V0 = pf_call (F_X11_isLandOrAll a1 V0) fun y4 _ => (if y4 = 0 then (((-1), V0)) else (pf_call (F_X11_isKind a2 V0) fun y13 _ => (if ¬ (y13 = 0) then (pf_call (F_X11_countOfLand a1 V0) fun y21 _ => (if 0 < y21 then (pf_val ((0 : Int), V0) (fun (q : Int × Int) => match q with | (x25, x27) => (pf_let (V0 4 6) fun y38 => (if y38 ≤ x27 then (pf_let (((x25 * 1000) / y21)) fun y42 => (.inr (y42, V0))) else ((if ¬ (a2 = 4) then (pf_call (F_X7_kindOfAnswer x27 V0) fun y48 _ => (if ¬ (y48 = a2) then (pf_call (F_X11_isOfLand x27 a1 V0) fun y55 _ => (if y55 = 0 then (pf_let (x27 + 1) fun x59 => (.inl (x25, x59))) else (pf_let (x27 + 1) fun x62 => (.inl (x25, x62))))) else (pf_call (F_X11_isOfLand x27 a1 V0) fun y67 _ => (if y67 = 0 then (pf_let (x27 + 1) fun x71 => (.inl (x25, x71))) else (pf_let (x25 + 1) fun x74 => pf_let (x27 + 1) fun x76 => (.inl (x74, x76))))))) else ((.inr ((0 : Int), V0)))))))) (0, 0)) else (((-1), V0)))) else ((if ¬ (a2 = 4) then (((-1), V0)) else (pf_call (F_X11_countOfLand a1 V0) fun y85 _ => (if 0 < y85 then (pf_val ((0 : Int), V0) (fun (q : Int × Int) => match q with | (x89, x91) => (pf_let (V0 4 6) fun y102 => (if y102 ≤ x91 then (pf_let (((x89 * 1000) / y85)) fun y106 => (.inr (y106, V0))) else ((if ¬ (a2 = 4) then ((.inr ((0 : Int), V0))) else (pf_let (V0 13 (x91 : Int).toNat) fun y110 => pf_call (F_X11_isOfLand x91 a1 V0) fun y116 _ => (if y116 = 0 then (pf_let (x91 + 1) fun x120 => (.inl (x89, x120))) else ((if y110 = 0 then (pf_let (x91 + 1) fun x123 => (.inl (x89, x123))) else (pf_let (x89 + 1) fun x125 => pf_let (x91 + 1) fun x127 => (.inl (x125, x127)))))))))))) (0, 0)) else (((-1), V0))))))))) := rfl
set_option maxHeartbeats 4000000 in
set_option maxRecDepth 100000 in
theorem uD_X11_keepsTried_0  : pm_K 4 yX11_keepsTried cX11_keepsTried 2 (some .boolean) (fun av V => av = [(3, 0)] ∧ pm_ok 0 90 V) (fun _ V r V' => ∃ y, r = some (0, y) ∧ (0 ≤ y ∧ y ≤ 1) ∧ pm_ok 0 90 V' ∧ pm_ff [80, 82] [(0, 12), (0, 13), (79, 1), (81, 1)] V V') := by
  refine pm_MT.of (by decide) ⟨Nat.le_refl _, by decide⟩ (fun av V h => by rw [h.1]; exact (by decide : pm_words [(3, 0)] ≤ 2)) ?_
  rintro X av V0 hC - hR ⟨rfl, hV0⟩
  change pm_J X 0 [(0, (3, 0))] [] 118 V0
  refine pm_aload_n hC 0 (by decide) dX11_keepsTried_0 rfl ?_
  have e1 : V0 0 6 = 78 := hV0.one 0 6 (by decide) (by decide) rfl
  refine pm_getf (v := 78) hC 0 fl_X11_82 rfl rfl (by decide) rfl e1 dX11_keepsTried_1 ?_
  refine pm_aload_n hC 0 (by decide) dX11_keepsTried_4 rfl ?_
  rcases hV0.get2 0 13 (lo := 84) (hi := 87) (by decide) (by decide) rfl with e2 | e2
  · skip
    refine pm_getf (v := 84) hC 0 fl_X11_97 rfl rfl (by decide) rfl e2 dX11_keepsTried_5 ?_
    refine pm_aload_n hC 0 (by decide) dX11_keepsTried_8 rfl ?_
    rcases hV0.get2 0 12 (lo := 84) (hi := 87) (by decide) (by decide) rfl with e3 | e3
    · skip
      refine pm_getf (v := 84) hC 0 fl_X11_93 rfl rfl (by decide) rfl e3 dX11_keepsTried_9 ?_
      refine pm_callV (ci := 4) (as := [(3, 84), (3, 84)]) (st := []) hC 78 uD_X4_compareProducts_78_84_84 lm_X11_272 li_X4_compareProducts (by decide) (by decide) rfl rfl rfl (by decide) rfl rfl (Nat.le_of_ble_eq_true rfl) ⟨Nat.le_refl _, Or.inl rfl⟩ dX11_keepsTried_12 ⟨rfl, hV0⟩ (fun r4 V5 hp6 => ?_)
      obtain ⟨y7, rfl, b8, hV9, hF10⟩ := hp6
      change pm_J X 15 [(0, (3, 0))] [(0, y7)] 118 V5
      have hF12 := pm_ff.tr (pm_ff.rf (cs := [80, 82]) (fs := [(0, 12), (0, 13), (79, 1), (81, 1)]) (V := V0)) hF10 (by decide) (by decide)
      have e13 : V5 0 6 = 78 := by rw [hF10 0 6 (by decide) (by decide)]; exact e1
      have e14 : V5 0 13 = 84 := by rw [hF10 0 13 (by decide) (by decide)]; exact e2
      have e15 : V5 0 12 = 84 := by rw [hF10 0 12 (by decide) (by decide)]; exact e3
      refine pm_if_gt (tgt := 20) hC ⟨by exact ow_79g_0 b8, by exact ow_79g_1 b8⟩ dX11_keepsTried_15 (by decide) (fun c16 => ?_) (fun c16 => ?_)
      · skip
        refine pm_aload_n hC 0 (by decide) dX11_keepsTried_20 rfl ?_
        refine pm_getf (v := 84) hC 0 fl_X11_93 rfl rfl (by decide) rfl e15 dX11_keepsTried_21 ?_
        refine pm_astore_n (lv' := [(1, (3, 84)), (0, (3, 0))]) hC (by decide) dX11_keepsTried_24 (by decide) rfl ?_
        refine pm_aload_n hC 1 (by decide) dX11_keepsTried_25 rfl ?_
        refine pm_aload_n hC 1 (by decide) dX11_keepsTried_26 rfl ?_
        refine pm_getf (v := 84) hC 0 fl_X11_97 rfl rfl (by decide) rfl e14 dX11_keepsTried_27 ?_
        refine pm_putf hC 0 fl_X11_93 rfl rfl rfl (by decide) rfl trivial dX11_keepsTried_30 ?_
        refine pm_aload_n hC 1 (by decide) dX11_keepsTried_33 rfl ?_
        refine pm_aload_n hC 0 (by decide) dX11_keepsTried_34 rfl ?_
        refine pm_putf hC 0 fl_X11_97 rfl rfl rfl (by decide) rfl trivial dX11_keepsTried_35 ?_
        refine pm_iconst (v := 1) hC dX11_keepsTried_38 ?_
        exact pm_iret hC hR (pm_narZ (by exact ow_79g_2)) ⟨1, rfl, ⟨by exact ow_79g_3, by exact ow_79g_4⟩, ((hV9.put2 0 12 (x := 84) (lo := 84) (hi := 87) rfl ⟨by exact ow_79g_5, by decide⟩).put2 0 13 (x := 84) (lo := 84) (hi := 87) rfl ⟨by exact ow_79g_5, by decide⟩), ((hF12.upf 0 12 84 rfl).upf 0 13 84 rfl)⟩ dX11_keepsTried_39
      · skip
        refine pm_iconst (v := 0) hC dX11_keepsTried_18 ?_
        exact pm_iret hC hR (pm_narZ (by exact ow_79g_6)) ⟨0, rfl, ⟨by exact ow_79g_7, by exact ow_79g_3⟩, hV9, hF12⟩ dX11_keepsTried_19
    · skip
      refine pm_getf (v := 87) hC 0 fl_X11_93 rfl rfl (by decide) rfl e3 dX11_keepsTried_9 ?_
      refine pm_callV (ci := 4) (as := [(3, 84), (3, 87)]) (st := []) hC 78 uD_X4_compareProducts_78_84_87 lm_X11_272 li_X4_compareProducts (by decide) (by decide) rfl rfl rfl (by decide) rfl rfl (Nat.le_of_ble_eq_true rfl) ⟨Nat.le_refl _, Or.inl rfl⟩ dX11_keepsTried_12 ⟨rfl, hV0⟩ (fun r17 V18 hp19 => ?_)
      obtain ⟨y20, rfl, b21, hV22, hF23⟩ := hp19
      change pm_J X 15 [(0, (3, 0))] [(0, y20)] 118 V18
      have hF25 := pm_ff.tr (pm_ff.rf (cs := [80, 82]) (fs := [(0, 12), (0, 13), (79, 1), (81, 1)]) (V := V0)) hF23 (by decide) (by decide)
      have e26 : V18 0 6 = 78 := by rw [hF23 0 6 (by decide) (by decide)]; exact e1
      have e27 : V18 0 13 = 84 := by rw [hF23 0 13 (by decide) (by decide)]; exact e2
      have e28 : V18 0 12 = 87 := by rw [hF23 0 12 (by decide) (by decide)]; exact e3
      refine pm_if_gt (tgt := 20) hC ⟨by exact ow_79g_0 b21, by exact ow_79g_1 b21⟩ dX11_keepsTried_15 (by decide) (fun c29 => ?_) (fun c29 => ?_)
      · skip
        refine pm_aload_n hC 0 (by decide) dX11_keepsTried_20 rfl ?_
        refine pm_getf (v := 87) hC 0 fl_X11_93 rfl rfl (by decide) rfl e28 dX11_keepsTried_21 ?_
        refine pm_astore_n (lv' := [(1, (3, 87)), (0, (3, 0))]) hC (by decide) dX11_keepsTried_24 (by decide) rfl ?_
        refine pm_aload_n hC 1 (by decide) dX11_keepsTried_25 rfl ?_
        refine pm_aload_n hC 1 (by decide) dX11_keepsTried_26 rfl ?_
        refine pm_getf (v := 84) hC 0 fl_X11_97 rfl rfl (by decide) rfl e27 dX11_keepsTried_27 ?_
        refine pm_putf hC 0 fl_X11_93 rfl rfl rfl (by decide) rfl trivial dX11_keepsTried_30 ?_
        refine pm_aload_n hC 1 (by decide) dX11_keepsTried_33 rfl ?_
        refine pm_aload_n hC 0 (by decide) dX11_keepsTried_34 rfl ?_
        refine pm_putf hC 0 fl_X11_97 rfl rfl rfl (by decide) rfl trivial dX11_keepsTried_35 ?_
        refine pm_iconst (v := 1) hC dX11_keepsTried_38 ?_
        exact pm_iret hC hR (pm_narZ (by exact ow_79g_2)) ⟨1, rfl, ⟨by exact ow_79g_3, by exact ow_79g_4⟩, ((hV22.put2 0 12 (x := 84) (lo := 84) (hi := 87) rfl ⟨by exact ow_79g_5, by decide⟩).put2 0 13 (x := 87) (lo := 84) (hi := 87) rfl ⟨by exact ow_79g_8, by decide⟩), ((hF25.upf 0 12 84 rfl).upf 0 13 87 rfl)⟩ dX11_keepsTried_39
      · skip
        refine pm_iconst (v := 0) hC dX11_keepsTried_18 ?_
        exact pm_iret hC hR (pm_narZ (by exact ow_79g_6)) ⟨0, rfl, ⟨by exact ow_79g_7, by exact ow_79g_3⟩, hV22, hF25⟩ dX11_keepsTried_19
  · skip
    refine pm_getf (v := 87) hC 0 fl_X11_97 rfl rfl (by decide) rfl e2 dX11_keepsTried_5 ?_
    refine pm_aload_n hC 0 (by decide) dX11_keepsTried_8 rfl ?_
    rcases hV0.get2 0 12 (lo := 84) (hi := 87) (by decide) (by decide) rfl with e30 | e30
    · skip
      refine pm_getf (v := 84) hC 0 fl_X11_93 rfl rfl (by decide) rfl e30 dX11_keepsTried_9 ?_
      refine pm_callV (ci := 4) (as := [(3, 87), (3, 84)]) (st := []) hC 78 uD_X4_compareProducts_78_87_84 lm_X11_272 li_X4_compareProducts (by decide) (by decide) rfl rfl rfl (by decide) rfl rfl (Nat.le_of_ble_eq_true rfl) ⟨Nat.le_refl _, Or.inl rfl⟩ dX11_keepsTried_12 ⟨rfl, hV0⟩ (fun r31 V32 hp33 => ?_)
      obtain ⟨y34, rfl, b35, hV36, hF37⟩ := hp33
      change pm_J X 15 [(0, (3, 0))] [(0, y34)] 118 V32
      have hF39 := pm_ff.tr (pm_ff.rf (cs := [80, 82]) (fs := [(0, 12), (0, 13), (79, 1), (81, 1)]) (V := V0)) hF37 (by decide) (by decide)
      have e40 : V32 0 6 = 78 := by rw [hF37 0 6 (by decide) (by decide)]; exact e1
      have e41 : V32 0 13 = 87 := by rw [hF37 0 13 (by decide) (by decide)]; exact e2
      have e42 : V32 0 12 = 84 := by rw [hF37 0 12 (by decide) (by decide)]; exact e30
      refine pm_if_gt (tgt := 20) hC ⟨by exact ow_79g_0 b35, by exact ow_79g_1 b35⟩ dX11_keepsTried_15 (by decide) (fun c43 => ?_) (fun c43 => ?_)
      · skip
        refine pm_aload_n hC 0 (by decide) dX11_keepsTried_20 rfl ?_
        refine pm_getf (v := 84) hC 0 fl_X11_93 rfl rfl (by decide) rfl e42 dX11_keepsTried_21 ?_
        refine pm_astore_n (lv' := [(1, (3, 84)), (0, (3, 0))]) hC (by decide) dX11_keepsTried_24 (by decide) rfl ?_
        refine pm_aload_n hC 1 (by decide) dX11_keepsTried_25 rfl ?_
        refine pm_aload_n hC 1 (by decide) dX11_keepsTried_26 rfl ?_
        refine pm_getf (v := 87) hC 0 fl_X11_97 rfl rfl (by decide) rfl e41 dX11_keepsTried_27 ?_
        refine pm_putf hC 0 fl_X11_93 rfl rfl rfl (by decide) rfl trivial dX11_keepsTried_30 ?_
        refine pm_aload_n hC 1 (by decide) dX11_keepsTried_33 rfl ?_
        refine pm_aload_n hC 0 (by decide) dX11_keepsTried_34 rfl ?_
        refine pm_putf hC 0 fl_X11_97 rfl rfl rfl (by decide) rfl trivial dX11_keepsTried_35 ?_
        refine pm_iconst (v := 1) hC dX11_keepsTried_38 ?_
        exact pm_iret hC hR (pm_narZ (by exact ow_79g_2)) ⟨1, rfl, ⟨by exact ow_79g_3, by exact ow_79g_4⟩, ((hV36.put2 0 12 (x := 87) (lo := 84) (hi := 87) rfl ⟨by exact ow_79g_8, by decide⟩).put2 0 13 (x := 84) (lo := 84) (hi := 87) rfl ⟨by exact ow_79g_5, by decide⟩), ((hF39.upf 0 12 87 rfl).upf 0 13 84 rfl)⟩ dX11_keepsTried_39
      · skip
        refine pm_iconst (v := 0) hC dX11_keepsTried_18 ?_
        exact pm_iret hC hR (pm_narZ (by exact ow_79g_6)) ⟨0, rfl, ⟨by exact ow_79g_7, by exact ow_79g_3⟩, hV36, hF39⟩ dX11_keepsTried_19
    · skip
      refine pm_getf (v := 87) hC 0 fl_X11_93 rfl rfl (by decide) rfl e30 dX11_keepsTried_9 ?_
      refine pm_callV (ci := 4) (as := [(3, 87), (3, 87)]) (st := []) hC 78 uD_X4_compareProducts_78_87_87 lm_X11_272 li_X4_compareProducts (by decide) (by decide) rfl rfl rfl (by decide) rfl rfl (Nat.le_of_ble_eq_true rfl) ⟨Nat.le_refl _, Or.inl rfl⟩ dX11_keepsTried_12 ⟨rfl, hV0⟩ (fun r44 V45 hp46 => ?_)
      obtain ⟨y47, rfl, b48, hV49, hF50⟩ := hp46
      change pm_J X 15 [(0, (3, 0))] [(0, y47)] 118 V45
      have hF52 := pm_ff.tr (pm_ff.rf (cs := [80, 82]) (fs := [(0, 12), (0, 13), (79, 1), (81, 1)]) (V := V0)) hF50 (by decide) (by decide)
      have e53 : V45 0 6 = 78 := by rw [hF50 0 6 (by decide) (by decide)]; exact e1
      have e54 : V45 0 13 = 87 := by rw [hF50 0 13 (by decide) (by decide)]; exact e2
      have e55 : V45 0 12 = 87 := by rw [hF50 0 12 (by decide) (by decide)]; exact e30
      refine pm_if_gt (tgt := 20) hC ⟨by exact ow_79g_0 b48, by exact ow_79g_1 b48⟩ dX11_keepsTried_15 (by decide) (fun c56 => ?_) (fun c56 => ?_)
      · skip
        refine pm_aload_n hC 0 (by decide) dX11_keepsTried_20 rfl ?_
        refine pm_getf (v := 87) hC 0 fl_X11_93 rfl rfl (by decide) rfl e55 dX11_keepsTried_21 ?_
        refine pm_astore_n (lv' := [(1, (3, 87)), (0, (3, 0))]) hC (by decide) dX11_keepsTried_24 (by decide) rfl ?_
        refine pm_aload_n hC 1 (by decide) dX11_keepsTried_25 rfl ?_
        refine pm_aload_n hC 1 (by decide) dX11_keepsTried_26 rfl ?_
        refine pm_getf (v := 87) hC 0 fl_X11_97 rfl rfl (by decide) rfl e54 dX11_keepsTried_27 ?_
        refine pm_putf hC 0 fl_X11_93 rfl rfl rfl (by decide) rfl trivial dX11_keepsTried_30 ?_
        refine pm_aload_n hC 1 (by decide) dX11_keepsTried_33 rfl ?_
        refine pm_aload_n hC 0 (by decide) dX11_keepsTried_34 rfl ?_
        refine pm_putf hC 0 fl_X11_97 rfl rfl rfl (by decide) rfl trivial dX11_keepsTried_35 ?_
        refine pm_iconst (v := 1) hC dX11_keepsTried_38 ?_
        exact pm_iret hC hR (pm_narZ (by exact ow_79g_2)) ⟨1, rfl, ⟨by exact ow_79g_3, by exact ow_79g_4⟩, ((hV49.put2 0 12 (x := 87) (lo := 84) (hi := 87) rfl ⟨by exact ow_79g_8, by decide⟩).put2 0 13 (x := 87) (lo := 84) (hi := 87) rfl ⟨by exact ow_79g_8, by decide⟩), ((hF52.upf 0 12 87 rfl).upf 0 13 87 rfl)⟩ dX11_keepsTried_39
      · skip
        refine pm_iconst (v := 0) hC dX11_keepsTried_18 ?_
        exact pm_iret hC hR (pm_narZ (by exact ow_79g_6)) ⟨0, rfl, ⟨by exact ow_79g_7, by exact ow_79g_3⟩, hV49, hF52⟩ dX11_keepsTried_19
set_option maxHeartbeats 4000000 in
set_option maxRecDepth 100000 in
theorem uD_X11_best_0 (a1 : Int) (h0 : (-2147483648) ≤ a1 ∧ a1 ≤ 2147483647) : pm_K 6 yX11_best cX11_best 4 (some .int) (fun av V => av = [(3, 0), (0, a1)] ∧ pm_ok 0 90 V) (fun _ V r V' => ∃ y, r = some (0, y) ∧ ((-1) ≤ y ∧ y ≤ 8) ∧ pm_ok 0 90 V' ∧ pm_ff [74, 75, 76, 77, 80, 82, 85, 86, 88, 89] [(0, 12), (0, 13), (73, 0), (73, 1), (73, 2), (73, 3), (73, 4), (73, 5), (73, 6), (73, 7), (73, 10), (73, 11), (73, 12), (73, 14), (79, 1), (81, 1), (84, 0), (87, 0)] V V') := by
  refine pm_MT.of (by decide) ⟨Nat.le_refl _, by decide⟩ (fun av V h => by rw [h.1]; exact (by decide : pm_words [(3, 0), (0, 0)] ≤ 4)) ?_
  rintro X av V0 hC - hR ⟨rfl, hV0⟩
  change pm_J X 0 [(0, (3, 0)), (1, (0, a1))] [] 118 V0
  refine pm_aload_n hC 0 (by decide) dX11_best_0 rfl ?_
  refine pm_callV (ci := 11) (as := []) (st := []) hC 0 fD_X11_hasScene_0 lm_X11_165 li_X11_hasScene (by decide) (by decide) rfl rfl rfl (by decide) rfl rfl (Nat.le_of_ble_eq_true rfl) ⟨Nat.le_refl _, Or.inl rfl⟩ dX11_best_1 ⟨rfl, hV0⟩ (fun r1 V2 hp3 => ?_)
  obtain ⟨y4, rfl, b5, rfl, hE6⟩ := hp3
  change pm_J X 4 [(0, (3, 0)), (1, (0, a1))] [(0, y4)] 118 V0
  refine pm_if_eq (tgt := 15) hC ⟨by exact ow_79g_9 b5, by exact ow_79g_10 b5⟩ dX11_best_4 (by decide) (fun c7 => ?_) (fun c7 => ?_)
  · skip
    refine pm_iconst (v := (-1)) hC dX11_best_15 ?_
    exact pm_iret hC hR pm_nar0 ⟨(-1), rfl, ⟨by exact ow_79g_11, by exact ow_79g_12⟩, hV0, (pm_ff.rf (cs := [74, 75, 76, 77, 80, 82, 85, 86, 88, 89]) (fs := [(0, 12), (0, 13), (73, 0), (73, 1), (73, 2), (73, 3), (73, 4), (73, 5), (73, 6), (73, 7), (73, 10), (73, 11), (73, 12), (73, 14), (79, 1), (81, 1), (84, 0), (87, 0)]) (V := V0))⟩ dX11_best_16
  · skip
    refine pm_aload_n hC 0 (by decide) dX11_best_7 rfl ?_
    refine pm_iload_n hC 1 dX11_best_8 rfl ?_
    refine pm_callV (ci := 11) (as := [(0, a1)]) (st := []) hC 0 (fD_X11_isPersonOrAll_0 a1 ⟨by exact ow_79g_13 h0, by exact ow_79g_14 h0⟩) lm_X11_265 li_X11_isPersonOrAll (by decide) (by decide) rfl rfl rfl (by decide) rfl rfl (Nat.le_of_ble_eq_true rfl) ⟨Nat.le_refl _, Or.inl rfl⟩ dX11_best_9 ⟨rfl, hV0⟩ (fun r8 V9 hp10 => ?_)
    obtain ⟨y11, rfl, b12, rfl, hE13⟩ := hp10
    change pm_J X 12 [(0, (3, 0)), (1, (0, a1))] [(0, y11)] 118 V0
    refine pm_if_ne (tgt := 17) hC ⟨by exact ow_79g_15 b12, by exact ow_79g_16 b12⟩ dX11_best_12 (by decide) (fun c14 => ?_) (fun c14 => ?_)
    · skip
      refine pm_iconst (v := 0) hC dX11_best_17 ?_
      refine pm_istore_n (lv' := [(2, (0, 0)), (0, (3, 0)), (1, (0, a1))]) hC dX11_best_18 (by decide) rfl ?_
      refine pm_aload_n hC 1 (by decide) dX11_best_19 rfl ?_
      refine pm_aload_n hC 1 (by decide) dX11_best_20 rfl ?_
      rcases hV0.get2 0 12 (lo := 84) (hi := 87) (by decide) (by decide) rfl with e15 | e15
      · skip
        refine pm_getf (v := 84) hC 0 fl_X11_93 rfl rfl (by decide) rfl e15 dX11_best_21 ?_
        refine pm_iconst (v := 0) hC dX11_best_24 ?_
        refine pm_iload_n hC 2 dX11_best_25 rfl ?_
        refine pm_callV (ci := 11) (as := [(3, 84), (0, 0), (0, a1)]) (st := []) hC 0 (fD_X11_gather_0_84 0 a1 ⟨by decide, by decide⟩ ⟨by exact ow_79g_13 h0, by exact ow_79g_14 h0⟩) lm_X11_268 li_X11_gather (by decide) (by decide) rfl rfl rfl (by decide) rfl rfl (Nat.le_of_ble_eq_true rfl) ⟨Nat.le_refl _, Or.inl rfl⟩ dX11_best_26 ⟨rfl, hV0⟩ (fun r16 V17 hp18 => ?_)
        obtain ⟨rfl, hV19, hF20, hE21⟩ := hp18
        change pm_J X 29 [(2, (0, 0)), (0, (3, 0)), (1, (0, a1))] [] 118 V17
        have hF22 := pm_ff.tr (pm_ff.rf (cs := [74, 75, 76, 77, 80, 82, 85, 86, 88, 89]) (fs := [(0, 12), (0, 13), (73, 0), (73, 1), (73, 2), (73, 3), (73, 4), (73, 5), (73, 6), (73, 7), (73, 10), (73, 11), (73, 12), (73, 14), (79, 1), (81, 1), (84, 0), (87, 0)]) (V := V0)) hF20 (by decide) (by decide)
        have e23 : V17 0 12 = 84 := by rw [hF20 0 12 (by decide) (by decide)]; exact e15
        refine pm_iconst (v := 1) hC dX11_best_29 ?_
        refine pm_istore_n (lv' := [(3, (0, 1)), (2, (0, 0)), (0, (3, 0)), (1, (0, a1))]) hC dX11_best_30 (by decide) rfl ?_
        have L34 : ∀ (N36 : Nat) (x24 : Int) (x26 : Int) (V28 : pm_M), (0 ≤ x24 ∧ x24 ≤ 8) → (1 ≤ x26 ∧ x26 ≤ 8) → pm_ok 0 90 V28 → pm_ff [74, 75, 76, 77, 80, 82, 85, 86, 88, 89] [(0, 12), (0, 13), (73, 0), (73, 1), (73, 2), (73, 3), (73, 4), (73, 5), (73, 6), (73, 7), (73, 10), (73, 11), (73, 12), (73, 14), (79, 1), (81, 1), (84, 0), (87, 0)] V0 V28 → (Int.toNat (8 - x26)) = N36 → pm_J X 31 [(0, (3, 0)), (1, (0, a1)), (2, (0, x24)), (3, (0, x26))] [] 118 V28 := by
          intro N36
          induction N36 using Nat.strongRecOn with
          | _ N36 ih37 =>
          intro x24 x26 V28 b25 b27 hV29 hF30 hm35
          refine pm_iload_n hC 3 dX11_best_31 rfl ?_
          refine pm_bipush (v := 7) hC dX11_best_32 (by decide) ?_
          refine pm_icmp_ge (tgt := 62) hC ⟨by exact ow_79g_17 b27, by exact ow_79g_18 b27⟩ ⟨by decide, by decide⟩ dX11_best_34 (by decide) (fun c38 => ?_) (fun c38 => ?_)
          · skip
            refine pm_iload_n hC 2 dX11_best_62 rfl ?_
            exact pm_iret hC hR pm_nar0 ⟨x24, rfl, ⟨by exact ow_79g_19 b25, by exact ow_79g_20 b25⟩, hV29, hF30⟩ dX11_best_63
          · skip
            refine pm_aload_n hC 0 (by decide) dX11_best_37 rfl ?_
            refine pm_aload_n hC 0 (by decide) dX11_best_38 rfl ?_
            rcases hV29.get2 0 13 (lo := 84) (hi := 87) (by decide) (by decide) rfl with e39 | e39
            · skip
              refine pm_getf (v := 84) hC 0 fl_X11_97 rfl rfl (by decide) rfl e39 dX11_best_39 ?_
              refine pm_iload_n hC 3 dX11_best_42 rfl ?_
              refine pm_iload_n hC 1 dX11_best_43 rfl ?_
              refine pm_callV (ci := 11) (as := [(3, 84), (0, x26), (0, a1)]) (st := []) hC 0 (fD_X11_gather_0_84 x26 a1 ⟨by exact ow_79g_17 b27, by exact ow_79g_21 c38⟩ ⟨by exact ow_79g_13 h0, by exact ow_79g_14 h0⟩) lm_X11_268 li_X11_gather (by decide) (by decide) rfl rfl rfl (by decide) rfl rfl (Nat.le_of_ble_eq_true rfl) ⟨Nat.le_refl _, Or.inl rfl⟩ dX11_best_44 ⟨rfl, hV29⟩ (fun r40 V41 hp42 => ?_)
              obtain ⟨rfl, hV43, hF44, hE45⟩ := hp42
              change pm_J X 47 [(0, (3, 0)), (1, (0, a1)), (2, (0, x24)), (3, (0, x26))] [] 118 V41
              have hF46 := pm_ff.tr hF30 hF44 (by decide) (by decide)
              have e47 : V41 0 13 = 84 := by rw [hF44 0 13 (by decide) (by decide)]; exact e39
              refine pm_aload_n hC 0 (by decide) dX11_best_47 rfl ?_
              refine pm_callV (ci := 11) (as := []) (st := []) hC 0 uD_X11_keepsTried_0 lm_X11_276 li_X11_keepsTried (by decide) (by decide) rfl rfl rfl (by decide) rfl rfl (Nat.le_of_ble_eq_true rfl) ⟨Nat.le_refl _, Or.inl rfl⟩ dX11_best_48 ⟨rfl, hV43⟩ (fun r48 V49 hp50 => ?_)
              obtain ⟨y51, rfl, b52, hV53, hF54⟩ := hp50
              change pm_J X 51 [(0, (3, 0)), (1, (0, a1)), (2, (0, x24)), (3, (0, x26))] [(0, y51)] 118 V49
              have hF56 := pm_ff.tr hF46 hF54 (by decide) (by decide)
              refine pm_if_eq (tgt := 56) hC ⟨by exact ow_79g_9 b52, by exact ow_79g_10 b52⟩ dX11_best_51 (by decide) (fun c57 => ?_) (fun c57 => ?_)
              · skip
                obtain ⟨x58, ei59⟩ : ∃ y : Int, x26 + 1 = y := ⟨_, rfl⟩
                refine pm_iinc (y := x58) (lv' := [(3, (0, x58)), (0, (3, 0)), (1, (0, a1)), (2, (0, x24))]) hC 3 dX11_best_56 (by decide) rfl ei59 rfl ?_
                refine pm_goto (tgt := 31) hC dX11_best_59 (by decide) ?_
                refine pm_lvsub [1, 2, 3, 0] (lv' := [(0, (3, 0)), (1, (0, a1)), (2, (0, x24)), (3, (0, x58))]) rfl ?_
                exact ih37 _ (by exact ow_79g_22 hm35 c38 ei59) x24 x58 V49 ⟨by exact ow_79g_23 b25, by exact ow_79g_20 b25⟩ ⟨by exact ow_79g_24 b27 ei59, by exact ow_79g_25 c38 ei59⟩ hV53 hF56 rfl
              · skip
                refine pm_iload_n hC 3 dX11_best_54 rfl ?_
                refine pm_istore_n (lv' := [(2, (0, x26)), (0, (3, 0)), (1, (0, a1)), (3, (0, x26))]) hC dX11_best_55 (by decide) rfl ?_
                obtain ⟨x60, ei61⟩ : ∃ y : Int, x26 + 1 = y := ⟨_, rfl⟩
                refine pm_iinc (y := x60) (lv' := [(3, (0, x60)), (2, (0, x26)), (0, (3, 0)), (1, (0, a1))]) hC 3 dX11_best_56 (by decide) rfl ei61 rfl ?_
                refine pm_goto (tgt := 31) hC dX11_best_59 (by decide) ?_
                refine pm_lvsub [2, 3, 1, 0] (lv' := [(0, (3, 0)), (1, (0, a1)), (2, (0, x26)), (3, (0, x60))]) rfl ?_
                exact ih37 _ (by exact ow_79g_22 hm35 c38 ei61) x26 x60 V49 ⟨by exact ow_79g_26 b27, by exact ow_79g_27 c38⟩ ⟨by exact ow_79g_24 b27 ei61, by exact ow_79g_25 c38 ei61⟩ hV53 hF56 rfl
            · skip
              refine pm_getf (v := 87) hC 0 fl_X11_97 rfl rfl (by decide) rfl e39 dX11_best_39 ?_
              refine pm_iload_n hC 3 dX11_best_42 rfl ?_
              refine pm_iload_n hC 1 dX11_best_43 rfl ?_
              refine pm_callV (ci := 11) (as := [(3, 87), (0, x26), (0, a1)]) (st := []) hC 0 (fD_X11_gather_0_87 x26 a1 ⟨by exact ow_79g_17 b27, by exact ow_79g_21 c38⟩ ⟨by exact ow_79g_13 h0, by exact ow_79g_14 h0⟩) lm_X11_268 li_X11_gather (by decide) (by decide) rfl rfl rfl (by decide) rfl rfl (Nat.le_of_ble_eq_true rfl) ⟨Nat.le_refl _, Or.inl rfl⟩ dX11_best_44 ⟨rfl, hV29⟩ (fun r62 V63 hp64 => ?_)
              obtain ⟨rfl, hV65, hF66, hE67⟩ := hp64
              change pm_J X 47 [(0, (3, 0)), (1, (0, a1)), (2, (0, x24)), (3, (0, x26))] [] 118 V63
              have hF68 := pm_ff.tr hF30 hF66 (by decide) (by decide)
              have e69 : V63 0 13 = 87 := by rw [hF66 0 13 (by decide) (by decide)]; exact e39
              refine pm_aload_n hC 0 (by decide) dX11_best_47 rfl ?_
              refine pm_callV (ci := 11) (as := []) (st := []) hC 0 uD_X11_keepsTried_0 lm_X11_276 li_X11_keepsTried (by decide) (by decide) rfl rfl rfl (by decide) rfl rfl (Nat.le_of_ble_eq_true rfl) ⟨Nat.le_refl _, Or.inl rfl⟩ dX11_best_48 ⟨rfl, hV65⟩ (fun r70 V71 hp72 => ?_)
              obtain ⟨y73, rfl, b74, hV75, hF76⟩ := hp72
              change pm_J X 51 [(0, (3, 0)), (1, (0, a1)), (2, (0, x24)), (3, (0, x26))] [(0, y73)] 118 V71
              have hF78 := pm_ff.tr hF68 hF76 (by decide) (by decide)
              refine pm_if_eq (tgt := 56) hC ⟨by exact ow_79g_9 b74, by exact ow_79g_10 b74⟩ dX11_best_51 (by decide) (fun c79 => ?_) (fun c79 => ?_)
              · skip
                obtain ⟨x80, ei81⟩ : ∃ y : Int, x26 + 1 = y := ⟨_, rfl⟩
                refine pm_iinc (y := x80) (lv' := [(3, (0, x80)), (0, (3, 0)), (1, (0, a1)), (2, (0, x24))]) hC 3 dX11_best_56 (by decide) rfl ei81 rfl ?_
                refine pm_goto (tgt := 31) hC dX11_best_59 (by decide) ?_
                refine pm_lvsub [1, 2, 3, 0] (lv' := [(0, (3, 0)), (1, (0, a1)), (2, (0, x24)), (3, (0, x80))]) rfl ?_
                exact ih37 _ (by exact ow_79g_22 hm35 c38 ei81) x24 x80 V71 ⟨by exact ow_79g_23 b25, by exact ow_79g_20 b25⟩ ⟨by exact ow_79g_24 b27 ei81, by exact ow_79g_25 c38 ei81⟩ hV75 hF78 rfl
              · skip
                refine pm_iload_n hC 3 dX11_best_54 rfl ?_
                refine pm_istore_n (lv' := [(2, (0, x26)), (0, (3, 0)), (1, (0, a1)), (3, (0, x26))]) hC dX11_best_55 (by decide) rfl ?_
                obtain ⟨x82, ei83⟩ : ∃ y : Int, x26 + 1 = y := ⟨_, rfl⟩
                refine pm_iinc (y := x82) (lv' := [(3, (0, x82)), (2, (0, x26)), (0, (3, 0)), (1, (0, a1))]) hC 3 dX11_best_56 (by decide) rfl ei83 rfl ?_
                refine pm_goto (tgt := 31) hC dX11_best_59 (by decide) ?_
                refine pm_lvsub [2, 3, 1, 0] (lv' := [(0, (3, 0)), (1, (0, a1)), (2, (0, x26)), (3, (0, x82))]) rfl ?_
                exact ih37 _ (by exact ow_79g_22 hm35 c38 ei83) x26 x82 V71 ⟨by exact ow_79g_26 b27, by exact ow_79g_27 c38⟩ ⟨by exact ow_79g_24 b27 ei83, by exact ow_79g_25 c38 ei83⟩ hV75 hF78 rfl
        refine pm_lvsub [2, 3, 1, 0] (lv' := [(0, (3, 0)), (1, (0, a1)), (2, (0, 0)), (3, (0, 1))]) rfl ?_
        exact L34 _ 0 1 V17 ⟨by decide, by decide⟩ ⟨by decide, by decide⟩ hV19 hF22 rfl
      · skip
        refine pm_getf (v := 87) hC 0 fl_X11_93 rfl rfl (by decide) rfl e15 dX11_best_21 ?_
        refine pm_iconst (v := 0) hC dX11_best_24 ?_
        refine pm_iload_n hC 2 dX11_best_25 rfl ?_
        refine pm_callV (ci := 11) (as := [(3, 87), (0, 0), (0, a1)]) (st := []) hC 0 (fD_X11_gather_0_87 0 a1 ⟨by decide, by decide⟩ ⟨by exact ow_79g_13 h0, by exact ow_79g_14 h0⟩) lm_X11_268 li_X11_gather (by decide) (by decide) rfl rfl rfl (by decide) rfl rfl (Nat.le_of_ble_eq_true rfl) ⟨Nat.le_refl _, Or.inl rfl⟩ dX11_best_26 ⟨rfl, hV0⟩ (fun r84 V85 hp86 => ?_)
        obtain ⟨rfl, hV87, hF88, hE89⟩ := hp86
        change pm_J X 29 [(2, (0, 0)), (0, (3, 0)), (1, (0, a1))] [] 118 V85
        have hF90 := pm_ff.tr (pm_ff.rf (cs := [74, 75, 76, 77, 80, 82, 85, 86, 88, 89]) (fs := [(0, 12), (0, 13), (73, 0), (73, 1), (73, 2), (73, 3), (73, 4), (73, 5), (73, 6), (73, 7), (73, 10), (73, 11), (73, 12), (73, 14), (79, 1), (81, 1), (84, 0), (87, 0)]) (V := V0)) hF88 (by decide) (by decide)
        have e91 : V85 0 12 = 87 := by rw [hF88 0 12 (by decide) (by decide)]; exact e15
        refine pm_iconst (v := 1) hC dX11_best_29 ?_
        refine pm_istore_n (lv' := [(3, (0, 1)), (2, (0, 0)), (0, (3, 0)), (1, (0, a1))]) hC dX11_best_30 (by decide) rfl ?_
        have L102 : ∀ (N104 : Nat) (x92 : Int) (x94 : Int) (V96 : pm_M), (0 ≤ x92 ∧ x92 ≤ 8) → (1 ≤ x94 ∧ x94 ≤ 8) → pm_ok 0 90 V96 → pm_ff [74, 75, 76, 77, 80, 82, 85, 86, 88, 89] [(0, 12), (0, 13), (73, 0), (73, 1), (73, 2), (73, 3), (73, 4), (73, 5), (73, 6), (73, 7), (73, 10), (73, 11), (73, 12), (73, 14), (79, 1), (81, 1), (84, 0), (87, 0)] V0 V96 → (Int.toNat (8 - x94)) = N104 → pm_J X 31 [(0, (3, 0)), (1, (0, a1)), (2, (0, x92)), (3, (0, x94))] [] 118 V96 := by
          intro N104
          induction N104 using Nat.strongRecOn with
          | _ N104 ih105 =>
          intro x92 x94 V96 b93 b95 hV97 hF98 hm103
          refine pm_iload_n hC 3 dX11_best_31 rfl ?_
          refine pm_bipush (v := 7) hC dX11_best_32 (by decide) ?_
          refine pm_icmp_ge (tgt := 62) hC ⟨by exact ow_79g_17 b95, by exact ow_79g_18 b95⟩ ⟨by decide, by decide⟩ dX11_best_34 (by decide) (fun c106 => ?_) (fun c106 => ?_)
          · skip
            refine pm_iload_n hC 2 dX11_best_62 rfl ?_
            exact pm_iret hC hR pm_nar0 ⟨x92, rfl, ⟨by exact ow_79g_19 b93, by exact ow_79g_20 b93⟩, hV97, hF98⟩ dX11_best_63
          · skip
            refine pm_aload_n hC 0 (by decide) dX11_best_37 rfl ?_
            refine pm_aload_n hC 0 (by decide) dX11_best_38 rfl ?_
            rcases hV97.get2 0 13 (lo := 84) (hi := 87) (by decide) (by decide) rfl with e107 | e107
            · skip
              refine pm_getf (v := 84) hC 0 fl_X11_97 rfl rfl (by decide) rfl e107 dX11_best_39 ?_
              refine pm_iload_n hC 3 dX11_best_42 rfl ?_
              refine pm_iload_n hC 1 dX11_best_43 rfl ?_
              refine pm_callV (ci := 11) (as := [(3, 84), (0, x94), (0, a1)]) (st := []) hC 0 (fD_X11_gather_0_84 x94 a1 ⟨by exact ow_79g_17 b95, by exact ow_79g_21 c106⟩ ⟨by exact ow_79g_13 h0, by exact ow_79g_14 h0⟩) lm_X11_268 li_X11_gather (by decide) (by decide) rfl rfl rfl (by decide) rfl rfl (Nat.le_of_ble_eq_true rfl) ⟨Nat.le_refl _, Or.inl rfl⟩ dX11_best_44 ⟨rfl, hV97⟩ (fun r108 V109 hp110 => ?_)
              obtain ⟨rfl, hV111, hF112, hE113⟩ := hp110
              change pm_J X 47 [(0, (3, 0)), (1, (0, a1)), (2, (0, x92)), (3, (0, x94))] [] 118 V109
              have hF114 := pm_ff.tr hF98 hF112 (by decide) (by decide)
              have e115 : V109 0 13 = 84 := by rw [hF112 0 13 (by decide) (by decide)]; exact e107
              refine pm_aload_n hC 0 (by decide) dX11_best_47 rfl ?_
              refine pm_callV (ci := 11) (as := []) (st := []) hC 0 uD_X11_keepsTried_0 lm_X11_276 li_X11_keepsTried (by decide) (by decide) rfl rfl rfl (by decide) rfl rfl (Nat.le_of_ble_eq_true rfl) ⟨Nat.le_refl _, Or.inl rfl⟩ dX11_best_48 ⟨rfl, hV111⟩ (fun r116 V117 hp118 => ?_)
              obtain ⟨y119, rfl, b120, hV121, hF122⟩ := hp118
              change pm_J X 51 [(0, (3, 0)), (1, (0, a1)), (2, (0, x92)), (3, (0, x94))] [(0, y119)] 118 V117
              have hF124 := pm_ff.tr hF114 hF122 (by decide) (by decide)
              refine pm_if_eq (tgt := 56) hC ⟨by exact ow_79g_9 b120, by exact ow_79g_10 b120⟩ dX11_best_51 (by decide) (fun c125 => ?_) (fun c125 => ?_)
              · skip
                obtain ⟨x126, ei127⟩ : ∃ y : Int, x94 + 1 = y := ⟨_, rfl⟩
                refine pm_iinc (y := x126) (lv' := [(3, (0, x126)), (0, (3, 0)), (1, (0, a1)), (2, (0, x92))]) hC 3 dX11_best_56 (by decide) rfl ei127 rfl ?_
                refine pm_goto (tgt := 31) hC dX11_best_59 (by decide) ?_
                refine pm_lvsub [1, 2, 3, 0] (lv' := [(0, (3, 0)), (1, (0, a1)), (2, (0, x92)), (3, (0, x126))]) rfl ?_
                exact ih105 _ (by exact ow_79g_22 hm103 c106 ei127) x92 x126 V117 ⟨by exact ow_79g_23 b93, by exact ow_79g_20 b93⟩ ⟨by exact ow_79g_24 b95 ei127, by exact ow_79g_25 c106 ei127⟩ hV121 hF124 rfl
              · skip
                refine pm_iload_n hC 3 dX11_best_54 rfl ?_
                refine pm_istore_n (lv' := [(2, (0, x94)), (0, (3, 0)), (1, (0, a1)), (3, (0, x94))]) hC dX11_best_55 (by decide) rfl ?_
                obtain ⟨x128, ei129⟩ : ∃ y : Int, x94 + 1 = y := ⟨_, rfl⟩
                refine pm_iinc (y := x128) (lv' := [(3, (0, x128)), (2, (0, x94)), (0, (3, 0)), (1, (0, a1))]) hC 3 dX11_best_56 (by decide) rfl ei129 rfl ?_
                refine pm_goto (tgt := 31) hC dX11_best_59 (by decide) ?_
                refine pm_lvsub [2, 3, 1, 0] (lv' := [(0, (3, 0)), (1, (0, a1)), (2, (0, x94)), (3, (0, x128))]) rfl ?_
                exact ih105 _ (by exact ow_79g_22 hm103 c106 ei129) x94 x128 V117 ⟨by exact ow_79g_26 b95, by exact ow_79g_27 c106⟩ ⟨by exact ow_79g_24 b95 ei129, by exact ow_79g_25 c106 ei129⟩ hV121 hF124 rfl
            · skip
              refine pm_getf (v := 87) hC 0 fl_X11_97 rfl rfl (by decide) rfl e107 dX11_best_39 ?_
              refine pm_iload_n hC 3 dX11_best_42 rfl ?_
              refine pm_iload_n hC 1 dX11_best_43 rfl ?_
              refine pm_callV (ci := 11) (as := [(3, 87), (0, x94), (0, a1)]) (st := []) hC 0 (fD_X11_gather_0_87 x94 a1 ⟨by exact ow_79g_17 b95, by exact ow_79g_21 c106⟩ ⟨by exact ow_79g_13 h0, by exact ow_79g_14 h0⟩) lm_X11_268 li_X11_gather (by decide) (by decide) rfl rfl rfl (by decide) rfl rfl (Nat.le_of_ble_eq_true rfl) ⟨Nat.le_refl _, Or.inl rfl⟩ dX11_best_44 ⟨rfl, hV97⟩ (fun r130 V131 hp132 => ?_)
              obtain ⟨rfl, hV133, hF134, hE135⟩ := hp132
              change pm_J X 47 [(0, (3, 0)), (1, (0, a1)), (2, (0, x92)), (3, (0, x94))] [] 118 V131
              have hF136 := pm_ff.tr hF98 hF134 (by decide) (by decide)
              have e137 : V131 0 13 = 87 := by rw [hF134 0 13 (by decide) (by decide)]; exact e107
              refine pm_aload_n hC 0 (by decide) dX11_best_47 rfl ?_
              refine pm_callV (ci := 11) (as := []) (st := []) hC 0 uD_X11_keepsTried_0 lm_X11_276 li_X11_keepsTried (by decide) (by decide) rfl rfl rfl (by decide) rfl rfl (Nat.le_of_ble_eq_true rfl) ⟨Nat.le_refl _, Or.inl rfl⟩ dX11_best_48 ⟨rfl, hV133⟩ (fun r138 V139 hp140 => ?_)
              obtain ⟨y141, rfl, b142, hV143, hF144⟩ := hp140
              change pm_J X 51 [(0, (3, 0)), (1, (0, a1)), (2, (0, x92)), (3, (0, x94))] [(0, y141)] 118 V139
              have hF146 := pm_ff.tr hF136 hF144 (by decide) (by decide)
              refine pm_if_eq (tgt := 56) hC ⟨by exact ow_79g_9 b142, by exact ow_79g_10 b142⟩ dX11_best_51 (by decide) (fun c147 => ?_) (fun c147 => ?_)
              · skip
                obtain ⟨x148, ei149⟩ : ∃ y : Int, x94 + 1 = y := ⟨_, rfl⟩
                refine pm_iinc (y := x148) (lv' := [(3, (0, x148)), (0, (3, 0)), (1, (0, a1)), (2, (0, x92))]) hC 3 dX11_best_56 (by decide) rfl ei149 rfl ?_
                refine pm_goto (tgt := 31) hC dX11_best_59 (by decide) ?_
                refine pm_lvsub [1, 2, 3, 0] (lv' := [(0, (3, 0)), (1, (0, a1)), (2, (0, x92)), (3, (0, x148))]) rfl ?_
                exact ih105 _ (by exact ow_79g_22 hm103 c106 ei149) x92 x148 V139 ⟨by exact ow_79g_23 b93, by exact ow_79g_20 b93⟩ ⟨by exact ow_79g_24 b95 ei149, by exact ow_79g_25 c106 ei149⟩ hV143 hF146 rfl
              · skip
                refine pm_iload_n hC 3 dX11_best_54 rfl ?_
                refine pm_istore_n (lv' := [(2, (0, x94)), (0, (3, 0)), (1, (0, a1)), (3, (0, x94))]) hC dX11_best_55 (by decide) rfl ?_
                obtain ⟨x150, ei151⟩ : ∃ y : Int, x94 + 1 = y := ⟨_, rfl⟩
                refine pm_iinc (y := x150) (lv' := [(3, (0, x150)), (2, (0, x94)), (0, (3, 0)), (1, (0, a1))]) hC 3 dX11_best_56 (by decide) rfl ei151 rfl ?_
                refine pm_goto (tgt := 31) hC dX11_best_59 (by decide) ?_
                refine pm_lvsub [2, 3, 1, 0] (lv' := [(0, (3, 0)), (1, (0, a1)), (2, (0, x94)), (3, (0, x150))]) rfl ?_
                exact ih105 _ (by exact ow_79g_22 hm103 c106 ei151) x94 x150 V139 ⟨by exact ow_79g_26 b95, by exact ow_79g_27 c106⟩ ⟨by exact ow_79g_24 b95 ei151, by exact ow_79g_25 c106 ei151⟩ hV143 hF146 rfl
        refine pm_lvsub [2, 3, 1, 0] (lv' := [(0, (3, 0)), (1, (0, a1)), (2, (0, 0)), (3, (0, 1))]) rfl ?_
        exact L102 _ 0 1 V85 ⟨by decide, by decide⟩ ⟨by decide, by decide⟩ hV87 hF90 rfl
    · skip
      refine pm_iconst (v := (-1)) hC dX11_best_15 ?_
      exact pm_iret hC hR pm_nar0 ⟨(-1), rfl, ⟨by exact ow_79g_11, by exact ow_79g_12⟩, hV0, (pm_ff.rf (cs := [74, 75, 76, 77, 80, 82, 85, 86, 88, 89]) (fs := [(0, 12), (0, 13), (73, 0), (73, 1), (73, 2), (73, 3), (73, 4), (73, 5), (73, 6), (73, 7), (73, 10), (73, 11), (73, 12), (73, 14), (79, 1), (81, 1), (84, 0), (87, 0)]) (V := V0))⟩ dX11_best_16
set_option maxHeartbeats 4000000 in
set_option maxRecDepth 100000 in
theorem fD_X11_gatherOdds_0_84 (a1 a2 a3 a4 : Int) (h0 : 0 ≤ a1 ∧ a1 ≤ 9) (h1 : (-30) ≤ a2 ∧ a2 ≤ 30) (h2 : (-30) ≤ a3 ∧ a3 ≤ 30) (h3 : (-2147483648) ≤ a4 ∧ a4 ≤ 2147483647) : pm_K 5 yX11_gatherOdds cX11_gatherOdds 7 none (fun av V => av = [(3, 0), (3, 84), (0, a1), (0, a2), (0, a3), (0, a4)] ∧ pm_ok 0 90 V) (fun _ V r V' => r = none ∧ pm_ok 0 90 V' ∧ pm_ff [74, 75, 76, 77, 85, 86] [(73, 0), (73, 1), (73, 2), (73, 3), (73, 4), (73, 5), (73, 6), (73, 7), (73, 10), (73, 11), (73, 12), (73, 14), (84, 0)] V V' ∧ F_X11_gatherOdds 84 a1 a2 a3 a4 V = (0, V')) := by
  refine pm_MT.of (by decide) ⟨Nat.le_refl _, by decide⟩ (fun av V h => by rw [h.1]; exact (by decide : pm_words [(3, 0), (3, 0), (0, 0), (0, 0), (0, 0), (0, 0)] ≤ 7)) ?_
  rintro X av V0 hC - hR ⟨rfl, hV0⟩
  change pm_J X 0 [(0, (3, 0)), (1, (3, 84)), (2, (0, a1)), (3, (0, a2)), (4, (0, a3)), (5, (0, a4))] [] 118 V0
  have hT := F_X11_gatherOdds_eq 84 a1 a2 a3 a4 V0
  refine pm_aload_n hC 1 (by decide) dX11_gatherOdds_0 rfl ?_
  refine pm_iconst (v := 0) hC dX11_gatherOdds_1 ?_
  refine pm_putf hC 84 fl_X11_371 rfl rfl rfl (by decide) rfl trivial dX11_gatherOdds_2 ?_
  refine pm_iconst (v := 0) hC dX11_gatherOdds_5 ?_
  refine pm_istore (lv' := [(6, (0, 0)), (0, (3, 0)), (1, (3, 84)), (2, (0, a1)), (3, (0, a2)), (4, (0, a3)), (5, (0, a4))]) hC dX11_gatherOdds_6 (by decide) rfl ?_
  have hV3 := (hV0.put 84 0 (x := 0) (lo := 0) (hi := 60) rfl ⟨by decide, by decide⟩)
  have hF4 := ((pm_ff.rf (cs := [74, 75, 76, 77, 85, 86]) (fs := [(73, 0), (73, 1), (73, 2), (73, 3), (73, 4), (73, 5), (73, 6), (73, 7), (73, 10), (73, 11), (73, 12), (73, 14), (84, 0)]) (V := V0)).upf 84 0 0 rfl)
  obtain ⟨V1, hv2⟩ : ∃ V, V = (pm_up V0 84 0 0) := ⟨_, rfl⟩
  rw [← hv2] at hV3 hF4
  rw [← hv2]
  replace hT := hT.trans (pf_let_eq hv2.symm)
  have e5 : V1 84 0 = 0 := by rw [hv2]; rfl
  obtain ⟨B11, hB12, hT⟩ := pf_loop hT
  have L14 : ∀ (N16 : Nat) (x6 : Int) (V8 : pm_M), (0 ≤ x6 ∧ x6 ≤ 60) → pm_ok 0 90 V8 → pm_ff [74, 75, 76, 77, 85, 86] [(73, 0), (73, 1), (73, 2), (73, 3), (73, 4), (73, 5), (73, 6), (73, 7), (73, 10), (73, 11), (73, 12), (73, 14), (84, 0)] V0 V8 → F_X11_gatherOdds 84 a1 a2 a3 a4 V0 = pf_val ((0 : Int), V0) B11 (x6, V8) → (Int.toNat (60 - x6)) = N16 → pm_J X 8 [(0, (3, 0)), (1, (3, 84)), (2, (0, a1)), (3, (0, a2)), (4, (0, a3)), (5, (0, a4)), (6, (0, x6))] [] 118 V8 := by
    intro N16
    induction N16 using Nat.strongRecOn with
    | _ N16 ih17 =>
    intro x6 V8 b7 hV9 hF10 hT hm15
    have hb13 := congrFun hB12 (x6, V8)
    refine pm_iload hC 6 dX11_gatherOdds_8 rfl ?_
    refine pm_aload_n hC 0 (by decide) dX11_gatherOdds_10 rfl ?_
    have e18 : V8 0 3 = 4 := hV9.one 0 3 (by decide) (by decide) rfl
    refine pm_getf (v := 4) hC 0 fl_X11_24 rfl rfl (by decide) rfl e18 dX11_gatherOdds_11 ?_
    obtain ⟨y19, e20⟩ : ∃ y, V8 4 6 = y := ⟨_, rfl⟩
    have b21 := hV9.get 4 6 (lo := 0) (hi := 60) (by decide) (by decide) rfl
    rw [e20] at b21
    replace hb13 := hb13.trans (pf_let_eq e20)
    refine pm_getf (v := y19) hC 4 fl_X11_162 rfl rfl (by decide) rfl e20 dX11_gatherOdds_14 ?_
    refine pm_icmp_ge (tgt := 126) hC ⟨by exact ow_79g_28 b7, by exact ow_79g_29 b7⟩ ⟨by exact ow_79g_28 b21, by exact ow_79g_29 b21⟩ dX11_gatherOdds_17 (by decide) (fun c22 => ?_) (fun c22 => ?_)
    · skip
      replace hb13 := hb13.trans (if_pos c22)
      replace hT := hT.trans (pf_val_inr hb13)
      exact pm_vret hC hR ⟨rfl, hV9, hF10, hT⟩ dX11_gatherOdds_126
    · skip
      replace hb13 := hb13.trans (if_neg (Int.not_le.mpr c22))
      refine pm_aload_n hC 0 (by decide) dX11_gatherOdds_20 rfl ?_
      refine pm_getf (v := 4) hC 0 fl_X11_24 rfl rfl (by decide) rfl e18 dX11_gatherOdds_21 ?_
      have e23 : V8 4 7 = 9 := hV9.one 4 7 (by decide) (by decide) rfl
      refine pm_getf (v := 9) hC 4 fl_X11_243 rfl rfl (by decide) rfl e23 dX11_gatherOdds_24 ?_
      refine pm_iload hC 6 dX11_gatherOdds_27 rfl ?_
      obtain ⟨y24, e25⟩ : ∃ y, V8 9 (x6 : Int).toNat = y := ⟨_, rfl⟩
      replace hb13 := hb13.trans (pf_let_eq e25)
      have b26 := hV9.get1 9 (x6 : Int).toNat (lo := 0) (hi := 999) (by decide) (show _ < 60 by exact ow_79g_30 b21 c22) rfl
      rw [e25] at b26
      refine pm_iaload (len := 60) (v := y24) hC 9 rfl rfl (by decide) ⟨by exact ow_79g_31 b7, by exact ow_79g_32 b21 c22⟩ (by decide) e25 dX11_gatherOdds_29 ?_
      refine pm_bipush (v := 100) hC dX11_gatherOdds_30 (by decide) ?_
      refine pm_idiv hC ⟨by exact ow_79g_33 b26, by exact ow_79g_34 b26, by exact ow_79g_35 b26⟩ ⟨by decide, by decide, by decide⟩ dX11_gatherOdds_32 ?_
      refine pm_iload_n hC 2 dX11_gatherOdds_33 rfl ?_
      refine pm_icmp_ne (tgt := 120) hC ⟨by exact ow_79g_36 b26, by exact ow_79g_37 b26⟩ ⟨by exact ow_79g_38 h0, by exact ow_79g_39 h0⟩ dX11_gatherOdds_34 (by decide) (fun c27 => ?_) (fun c27 => ?_)
      · skip
        replace hb13 := hb13.trans (if_pos c27)
        obtain ⟨x28, ei29⟩ : ∃ y : Int, x6 + 1 = y := ⟨_, rfl⟩
        replace hb13 := hb13.trans (pf_let_eq ei29)
        refine pm_iinc (y := x28) (lv' := [(6, (0, x28)), (0, (3, 0)), (1, (3, 84)), (2, (0, a1)), (3, (0, a2)), (4, (0, a3)), (5, (0, a4))]) hC 6 dX11_gatherOdds_120 (by decide) rfl ei29 rfl ?_
        refine pm_goto (tgt := 8) hC dX11_gatherOdds_123 (by decide) ?_
        refine pm_lvsub [1, 2, 3, 4, 5, 6, 0] (lv' := [(0, (3, 0)), (1, (3, 84)), (2, (0, a1)), (3, (0, a2)), (4, (0, a3)), (5, (0, a4)), (6, (0, x28))]) rfl ?_
        exact ih17 _ (by exact ow_79g_40 hm15 b21 c22 ei29) x28 V8 ⟨by exact ow_79g_41 b7 ei29, by exact ow_79g_42 b21 c22 ei29⟩ hV9 hF10 (hT.trans (pf_val_inl hb13)) rfl
      · skip
        replace hb13 := hb13.trans (if_neg (fun q => q c27))
        refine pm_aload_n hC 0 (by decide) dX11_gatherOdds_37 rfl ?_
        refine pm_aload_n hC 0 (by decide) dX11_gatherOdds_38 rfl ?_
        refine pm_getf (v := 4) hC 0 fl_X11_24 rfl rfl (by decide) rfl e18 dX11_gatherOdds_39 ?_
        refine pm_getf (v := 9) hC 4 fl_X11_243 rfl rfl (by decide) rfl e23 dX11_gatherOdds_42 ?_
        refine pm_iload hC 6 dX11_gatherOdds_45 rfl ?_
        refine pm_iaload (len := 60) (v := y24) hC 9 rfl rfl (by decide) ⟨by exact ow_79g_31 b7, by exact ow_79g_32 b21 c22⟩ (by decide) e25 dX11_gatherOdds_47 ?_
        refine pm_aload_n hC 0 (by decide) dX11_gatherOdds_48 rfl ?_
        refine pm_getf (v := 4) hC 0 fl_X11_24 rfl rfl (by decide) rfl e18 dX11_gatherOdds_49 ?_
        have e30 : V8 4 8 = 10 := hV9.one 4 8 (by decide) (by decide) rfl
        refine pm_getf (v := 10) hC 4 fl_X11_246 rfl rfl (by decide) rfl e30 dX11_gatherOdds_52 ?_
        refine pm_iload hC 6 dX11_gatherOdds_55 rfl ?_
        obtain ⟨y31, e32⟩ : ∃ y, V8 10 (x6 : Int).toNat = y := ⟨_, rfl⟩
        replace hb13 := hb13.trans (pf_let_eq e32)
        have b33 := hV9.get 10 (x6 : Int).toNat (lo := 0) (hi := 99) (by decide) (show _ < 60 by exact ow_79g_30 b21 c22) rfl
        rw [e32] at b33
        refine pm_iaload (len := 60) (v := y31) hC 10 rfl rfl (by decide) ⟨by exact ow_79g_31 b7, by exact ow_79g_32 b21 c22⟩ (by decide) e32 dX11_gatherOdds_57 ?_
        refine pm_iload_n hC 3 dX11_gatherOdds_58 rfl ?_
        refine pm_iload hC 4 dX11_gatherOdds_59 rfl ?_
        refine pm_callV (ci := 11) (as := [(0, y24), (0, y31), (0, a2), (0, a3)]) (st := []) hC 0 (fD_X11_poseAs_0 y24 y31 a2 a3 ⟨by exact ow_79g_33 b26, by exact ow_79g_43 b26⟩ ⟨by exact ow_79g_44 b33, by exact ow_79g_45 b33⟩ ⟨by exact ow_79g_46 h1, by exact ow_79g_47 h1⟩ ⟨by exact ow_79g_46 h2, by exact ow_79g_47 h2⟩ (by exact ow_79g_48 b26)) lm_X11_341 li_X11_poseAs (by decide) (by decide) rfl rfl rfl (by decide) rfl rfl (Nat.le_of_ble_eq_true rfl) ⟨Nat.le_refl _, Or.inl rfl⟩ dX11_gatherOdds_61 ⟨rfl, hV9⟩ (fun r34 V35 hp36 => ?_)
        obtain ⟨rfl, hV37, hF38, hE39⟩ := hp36
        replace hb13 := hb13.trans (pf_call_eq hE39)
        change pm_J X 64 [(0, (3, 0)), (1, (3, 84)), (2, (0, a1)), (3, (0, a2)), (4, (0, a3)), (5, (0, a4)), (6, (0, x6))] [] 118 V35
        have hF40 := pm_ff.tr hF10 hF38 (by decide) (by decide)
        have e41 : V35 0 3 = 4 := by rw [hF38 0 3 (by decide) (by decide)]; exact e18
        have e42 : V35 4 6 = y19 := by rw [hF38 4 6 (by decide) (by decide)]; exact e20
        have e43 : V35 4 7 = 9 := by rw [hF38 4 7 (by decide) (by decide)]; exact e23
        have e44 : V35 4 8 = 10 := by rw [hF38 4 8 (by decide) (by decide)]; exact e30
        refine pm_aload_n hC 0 (by decide) dX11_gatherOdds_64 rfl ?_
        have e45 : V35 0 5 = 73 := hV37.one 0 5 (by decide) (by decide) rfl
        refine pm_getf (v := 73) hC 0 fl_X11_75 rfl rfl (by decide) rfl e45 dX11_gatherOdds_65 ?_
        refine pm_iload hC 5 dX11_gatherOdds_68 rfl ?_
        refine pm_aload_n hC 0 (by decide) dX11_gatherOdds_70 rfl ?_
        refine pm_getf (v := 4) hC 0 fl_X11_24 rfl rfl (by decide) rfl e41 dX11_gatherOdds_71 ?_
        have e46 : V35 4 9 = 11 := hV37.one 4 9 (by decide) (by decide) rfl
        refine pm_getf (v := 11) hC 4 fl_X11_249 rfl rfl (by decide) rfl e46 dX11_gatherOdds_74 ?_
        refine pm_iload hC 6 dX11_gatherOdds_77 rfl ?_
        obtain ⟨y47, e48⟩ : ∃ y, V35 11 (x6 : Int).toNat = y := ⟨_, rfl⟩
        replace hb13 := hb13.trans (pf_let_eq e48)
        have b49 := hV37.get 11 (x6 : Int).toNat (lo := (-99)) (hi := 99) (by decide) (show _ < 60 by exact ow_79g_30 b21 c22) rfl
        rw [e48] at b49
        refine pm_iaload (len := 60) (v := y47) hC 11 rfl rfl (by decide) ⟨by exact ow_79g_31 b7, by exact ow_79g_32 b21 c22⟩ (by decide) e48 dX11_gatherOdds_79 ?_
        refine pm_callV (ci := 10) (as := [(0, a4), (0, y47)]) (st := []) hC 73 (fD_X10_trustAt_73 a4 y47 ⟨by exact ow_79g_13 h3, by exact ow_79g_14 h3⟩ ⟨by exact ow_79g_49 b49, by exact ow_79g_50 b49⟩) lm_X11_306 li_X10_trustAt (by decide) (by decide) rfl rfl rfl (by decide) rfl rfl (Nat.le_of_ble_eq_true rfl) ⟨Nat.le_refl _, Or.inl rfl⟩ dX11_gatherOdds_80 ⟨rfl, hV37⟩ (fun r50 V51 hp52 => ?_)
        obtain ⟨rfl, hV53, hF54, hE55⟩ := hp52
        replace hb13 := hb13.trans (pf_call_eq hE55)
        change pm_J X 83 [(0, (3, 0)), (1, (3, 84)), (2, (0, a1)), (3, (0, a2)), (4, (0, a3)), (5, (0, a4)), (6, (0, x6))] [] 118 V51
        have hF56 := pm_ff.tr hF40 hF54 (by decide) (by decide)
        have e57 : V51 0 3 = 4 := by rw [hF54 0 3 (by decide) (by decide)]; exact e41
        have e58 : V51 4 6 = y19 := by rw [hF54 4 6 (by decide) (by decide)]; exact e42
        have e59 : V51 4 7 = 9 := by rw [hF54 4 7 (by decide) (by decide)]; exact e43
        have e60 : V51 4 8 = 10 := by rw [hF54 4 8 (by decide) (by decide)]; exact e44
        have e61 : V51 0 5 = 73 := by rw [hF54 0 5 (by decide) (by decide)]; exact e45
        have e62 : V51 4 9 = 11 := by rw [hF54 4 9 (by decide) (by decide)]; exact e46
        refine pm_aload_n hC 0 (by decide) dX11_gatherOdds_83 rfl ?_
        refine pm_getf (v := 73) hC 0 fl_X11_75 rfl rfl (by decide) rfl e61 dX11_gatherOdds_84 ?_
        refine pm_iconst (v := 4) hC dX11_gatherOdds_87 ?_
        refine pm_callV (ci := 10) (as := [(0, 4)]) (st := []) hC 73 (fD_X10_weigh_73 4 ⟨by decide, by decide⟩) lm_X11_294 li_X10_weigh (by decide) (by decide) rfl rfl rfl (by decide) rfl rfl (Nat.le_of_ble_eq_true rfl) ⟨Nat.le_refl _, Or.inl rfl⟩ dX11_gatherOdds_88 ⟨rfl, hV53⟩ (fun r63 V64 hp65 => ?_)
        obtain ⟨rfl, hV66, hF67, hE68⟩ := hp65
        replace hb13 := hb13.trans (pf_call_eq hE68)
        change pm_J X 91 [(0, (3, 0)), (1, (3, 84)), (2, (0, a1)), (3, (0, a2)), (4, (0, a3)), (5, (0, a4)), (6, (0, x6))] [] 118 V64
        have hF69 := pm_ff.tr hF56 hF67 (by decide) (by decide)
        have e70 : V64 0 3 = 4 := by rw [hF67 0 3 (by decide) (by decide)]; exact e57
        have e71 : V64 4 6 = y19 := by rw [hF67 4 6 (by decide) (by decide)]; exact e58
        have e72 : V64 4 7 = 9 := by rw [hF67 4 7 (by decide) (by decide)]; exact e59
        have e73 : V64 4 8 = 10 := by rw [hF67 4 8 (by decide) (by decide)]; exact e60
        have e74 : V64 0 5 = 73 := by rw [hF67 0 5 (by decide) (by decide)]; exact e61
        have e75 : V64 4 9 = 11 := by rw [hF67 4 9 (by decide) (by decide)]; exact e62
        refine pm_aload_n hC 1 (by decide) dX11_gatherOdds_91 rfl ?_
        refine pm_aload_n hC 0 (by decide) dX11_gatherOdds_92 rfl ?_
        refine pm_getf (v := 73) hC 0 fl_X11_75 rfl rfl (by decide) rfl e74 dX11_gatherOdds_93 ?_
        rcases hV66.get2 73 13 (lo := 76) (hi := 77) (by decide) (by decide) rfl with e76 | e76
        · skip
          replace hb13 := hb13.trans (if_pos e76)
          refine pm_getf (v := 76) hC 73 fl_X11_208 rfl rfl (by decide) rfl e76 dX11_gatherOdds_96 ?_
          refine pm_aload_n hC 0 (by decide) dX11_gatherOdds_99 rfl ?_
          refine pm_getf (v := 4) hC 0 fl_X11_24 rfl rfl (by decide) rfl e70 dX11_gatherOdds_100 ?_
          have e77 : V64 4 10 = 12 := hV66.one 4 10 (by decide) (by decide) rfl
          refine pm_getf (v := 12) hC 4 fl_X11_252 rfl rfl (by decide) rfl e77 dX11_gatherOdds_103 ?_
          refine pm_iload hC 6 dX11_gatherOdds_106 rfl ?_
          obtain ⟨y78, e79⟩ : ∃ y, V64 12 (x6 : Int).toNat = y := ⟨_, rfl⟩
          replace hb13 := hb13.trans (pf_let_eq e79)
          have b80 := hV66.get 12 (x6 : Int).toNat (lo := 0) (hi := 8) (by decide) (show _ < 60 by exact ow_79g_30 b21 c22) rfl
          rw [e79] at b80
          refine pm_iaload (len := 60) (v := y78) hC 12 rfl rfl (by decide) ⟨by exact ow_79g_31 b7, by exact ow_79g_32 b21 c22⟩ (by decide) e79 dX11_gatherOdds_108 ?_
          obtain ⟨y81, e82⟩ : ∃ y, V64 76 (y78 : Int).toNat = y := ⟨_, rfl⟩
          replace hb13 := hb13.trans (pf_let_eq e82)
          have b83 := hV66.get 76 (y78 : Int).toNat (lo := (-9223372036854775808)) (hi := 9223372036854775807) (by decide) (show _ < 9 by exact ow_79g_51 b80) rfl
          rw [e82] at b83
          refine pm_laload (len := 9) (v := y81) hC 76 rfl rfl (by decide) ⟨by exact ow_79g_23 b80, by exact ow_79g_52 b80⟩ (by decide) e82 dX11_gatherOdds_109 ?_
          refine pm_aload_n hC 0 (by decide) dX11_gatherOdds_110 rfl ?_
          refine pm_getf (v := 73) hC 0 fl_X11_75 rfl rfl (by decide) rfl e74 dX11_gatherOdds_111 ?_
          obtain ⟨y84, e85⟩ : ∃ y, V64 73 14 = y := ⟨_, rfl⟩
          have b86 := hV66.get 73 14 (lo := (-9223372036854775808)) (hi := 9223372036854775807) (by decide) (by decide) rfl
          rw [e85] at b86
          replace hb13 := hb13.trans (pf_let_eq e85)
          refine pm_getf (v := y84) hC 73 fl_X11_205 rfl rfl (by decide) rfl e85 dX11_gatherOdds_114 ?_
          refine pm_callV (ci := 0) (as := [(1, y81), (1, y84)]) (st := []) hC 84 (fD_X0_add_84 y81 y84 ⟨by exact ow_79g_53 b83, by exact ow_79g_54 b83⟩ ⟨by exact ow_79g_53 b86, by exact ow_79g_54 b86⟩) lm_X11_374 li_X0_add (by decide) (by decide) rfl rfl rfl (by decide) rfl rfl (Nat.le_of_ble_eq_true rfl) ⟨Nat.le_refl _, Or.inl rfl⟩ dX11_gatherOdds_117 ⟨rfl, hV66⟩ (fun r87 V88 hp89 => ?_)
          obtain ⟨rfl, hV90, hF91, hE92⟩ := hp89
          replace hb13 := hb13.trans (pf_call_eq hE92)
          change pm_J X 120 [(0, (3, 0)), (1, (3, 84)), (2, (0, a1)), (3, (0, a2)), (4, (0, a3)), (5, (0, a4)), (6, (0, x6))] [] 118 V88
          have hF93 := pm_ff.tr hF69 hF91 (by decide) (by decide)
          have e94 : V88 0 3 = 4 := by rw [hF91 0 3 (by decide) (by decide)]; exact e70
          have e95 : V88 4 6 = y19 := by rw [hF91 4 6 (by decide) (by decide)]; exact e71
          have e96 : V88 4 7 = 9 := by rw [hF91 4 7 (by decide) (by decide)]; exact e72
          have e97 : V88 4 8 = 10 := by rw [hF91 4 8 (by decide) (by decide)]; exact e73
          have e98 : V88 0 5 = 73 := by rw [hF91 0 5 (by decide) (by decide)]; exact e74
          have e99 : V88 4 9 = 11 := by rw [hF91 4 9 (by decide) (by decide)]; exact e75
          have e100 : V88 73 13 = 76 := by rw [hF91 73 13 (by decide) (by decide)]; exact e76
          have e101 : V88 4 10 = 12 := by rw [hF91 4 10 (by decide) (by decide)]; exact e77
          have e102 : V88 73 14 = y84 := by rw [hF91 73 14 (by decide) (by decide)]; exact e85
          obtain ⟨x103, ei104⟩ : ∃ y : Int, x6 + 1 = y := ⟨_, rfl⟩
          replace hb13 := hb13.trans (pf_let_eq ei104)
          refine pm_iinc (y := x103) (lv' := [(6, (0, x103)), (0, (3, 0)), (1, (3, 84)), (2, (0, a1)), (3, (0, a2)), (4, (0, a3)), (5, (0, a4))]) hC 6 dX11_gatherOdds_120 (by decide) rfl ei104 rfl ?_
          refine pm_goto (tgt := 8) hC dX11_gatherOdds_123 (by decide) ?_
          refine pm_lvsub [1, 2, 3, 4, 5, 6, 0] (lv' := [(0, (3, 0)), (1, (3, 84)), (2, (0, a1)), (3, (0, a2)), (4, (0, a3)), (5, (0, a4)), (6, (0, x103))]) rfl ?_
          exact ih17 _ (by exact ow_79g_40 hm15 b21 c22 ei104) x103 V88 ⟨by exact ow_79g_41 b7 ei104, by exact ow_79g_42 b21 c22 ei104⟩ hV90 hF93 (hT.trans (pf_val_inl hb13)) rfl
        · skip
          replace hb13 := hb13.trans (if_neg (by rw [e76]; decide))
          refine pm_getf (v := 77) hC 73 fl_X11_208 rfl rfl (by decide) rfl e76 dX11_gatherOdds_96 ?_
          refine pm_aload_n hC 0 (by decide) dX11_gatherOdds_99 rfl ?_
          refine pm_getf (v := 4) hC 0 fl_X11_24 rfl rfl (by decide) rfl e70 dX11_gatherOdds_100 ?_
          have e105 : V64 4 10 = 12 := hV66.one 4 10 (by decide) (by decide) rfl
          refine pm_getf (v := 12) hC 4 fl_X11_252 rfl rfl (by decide) rfl e105 dX11_gatherOdds_103 ?_
          refine pm_iload hC 6 dX11_gatherOdds_106 rfl ?_
          obtain ⟨y106, e107⟩ : ∃ y, V64 12 (x6 : Int).toNat = y := ⟨_, rfl⟩
          replace hb13 := hb13.trans (pf_let_eq e107)
          have b108 := hV66.get 12 (x6 : Int).toNat (lo := 0) (hi := 8) (by decide) (show _ < 60 by exact ow_79g_30 b21 c22) rfl
          rw [e107] at b108
          refine pm_iaload (len := 60) (v := y106) hC 12 rfl rfl (by decide) ⟨by exact ow_79g_31 b7, by exact ow_79g_32 b21 c22⟩ (by decide) e107 dX11_gatherOdds_108 ?_
          obtain ⟨y109, e110⟩ : ∃ y, V64 77 (y106 : Int).toNat = y := ⟨_, rfl⟩
          replace hb13 := hb13.trans (pf_let_eq e110)
          have b111 := hV66.get 77 (y106 : Int).toNat (lo := (-9223372036854775808)) (hi := 9223372036854775807) (by decide) (show _ < 9 by exact ow_79g_51 b108) rfl
          rw [e110] at b111
          refine pm_laload (len := 9) (v := y109) hC 77 rfl rfl (by decide) ⟨by exact ow_79g_23 b108, by exact ow_79g_52 b108⟩ (by decide) e110 dX11_gatherOdds_109 ?_
          refine pm_aload_n hC 0 (by decide) dX11_gatherOdds_110 rfl ?_
          refine pm_getf (v := 73) hC 0 fl_X11_75 rfl rfl (by decide) rfl e74 dX11_gatherOdds_111 ?_
          obtain ⟨y112, e113⟩ : ∃ y, V64 73 14 = y := ⟨_, rfl⟩
          have b114 := hV66.get 73 14 (lo := (-9223372036854775808)) (hi := 9223372036854775807) (by decide) (by decide) rfl
          rw [e113] at b114
          replace hb13 := hb13.trans (pf_let_eq e113)
          refine pm_getf (v := y112) hC 73 fl_X11_205 rfl rfl (by decide) rfl e113 dX11_gatherOdds_114 ?_
          refine pm_callV (ci := 0) (as := [(1, y109), (1, y112)]) (st := []) hC 84 (fD_X0_add_84 y109 y112 ⟨by exact ow_79g_53 b111, by exact ow_79g_54 b111⟩ ⟨by exact ow_79g_53 b114, by exact ow_79g_54 b114⟩) lm_X11_374 li_X0_add (by decide) (by decide) rfl rfl rfl (by decide) rfl rfl (Nat.le_of_ble_eq_true rfl) ⟨Nat.le_refl _, Or.inl rfl⟩ dX11_gatherOdds_117 ⟨rfl, hV66⟩ (fun r115 V116 hp117 => ?_)
          obtain ⟨rfl, hV118, hF119, hE120⟩ := hp117
          replace hb13 := hb13.trans (pf_call_eq hE120)
          change pm_J X 120 [(0, (3, 0)), (1, (3, 84)), (2, (0, a1)), (3, (0, a2)), (4, (0, a3)), (5, (0, a4)), (6, (0, x6))] [] 118 V116
          have hF121 := pm_ff.tr hF69 hF119 (by decide) (by decide)
          have e122 : V116 0 3 = 4 := by rw [hF119 0 3 (by decide) (by decide)]; exact e70
          have e123 : V116 4 6 = y19 := by rw [hF119 4 6 (by decide) (by decide)]; exact e71
          have e124 : V116 4 7 = 9 := by rw [hF119 4 7 (by decide) (by decide)]; exact e72
          have e125 : V116 4 8 = 10 := by rw [hF119 4 8 (by decide) (by decide)]; exact e73
          have e126 : V116 0 5 = 73 := by rw [hF119 0 5 (by decide) (by decide)]; exact e74
          have e127 : V116 4 9 = 11 := by rw [hF119 4 9 (by decide) (by decide)]; exact e75
          have e128 : V116 73 13 = 77 := by rw [hF119 73 13 (by decide) (by decide)]; exact e76
          have e129 : V116 4 10 = 12 := by rw [hF119 4 10 (by decide) (by decide)]; exact e105
          have e130 : V116 73 14 = y112 := by rw [hF119 73 14 (by decide) (by decide)]; exact e113
          obtain ⟨x131, ei132⟩ : ∃ y : Int, x6 + 1 = y := ⟨_, rfl⟩
          replace hb13 := hb13.trans (pf_let_eq ei132)
          refine pm_iinc (y := x131) (lv' := [(6, (0, x131)), (0, (3, 0)), (1, (3, 84)), (2, (0, a1)), (3, (0, a2)), (4, (0, a3)), (5, (0, a4))]) hC 6 dX11_gatherOdds_120 (by decide) rfl ei132 rfl ?_
          refine pm_goto (tgt := 8) hC dX11_gatherOdds_123 (by decide) ?_
          refine pm_lvsub [1, 2, 3, 4, 5, 6, 0] (lv' := [(0, (3, 0)), (1, (3, 84)), (2, (0, a1)), (3, (0, a2)), (4, (0, a3)), (5, (0, a4)), (6, (0, x131))]) rfl ?_
          exact ih17 _ (by exact ow_79g_40 hm15 b21 c22 ei132) x131 V116 ⟨by exact ow_79g_41 b7 ei132, by exact ow_79g_42 b21 c22 ei132⟩ hV118 hF121 (hT.trans (pf_val_inl hb13)) rfl
  refine pm_lvsub [1, 2, 3, 4, 5, 6, 0] (lv' := [(0, (3, 0)), (1, (3, 84)), (2, (0, a1)), (3, (0, a2)), (4, (0, a3)), (5, (0, a4)), (6, (0, 0))]) rfl ?_
  exact L14 _ 0 V1 ⟨by decide, by decide⟩ hV3 hF4 hT rfl
set_option maxHeartbeats 4000000 in
set_option maxRecDepth 100000 in
theorem fD_X11_gatherOdds_0_87 (a1 a2 a3 a4 : Int) (h0 : 0 ≤ a1 ∧ a1 ≤ 9) (h1 : (-30) ≤ a2 ∧ a2 ≤ 30) (h2 : (-30) ≤ a3 ∧ a3 ≤ 30) (h3 : (-2147483648) ≤ a4 ∧ a4 ≤ 2147483647) : pm_K 5 yX11_gatherOdds cX11_gatherOdds 7 none (fun av V => av = [(3, 0), (3, 87), (0, a1), (0, a2), (0, a3), (0, a4)] ∧ pm_ok 0 90 V) (fun _ V r V' => r = none ∧ pm_ok 0 90 V' ∧ pm_ff [74, 75, 76, 77, 88, 89] [(73, 0), (73, 1), (73, 2), (73, 3), (73, 4), (73, 5), (73, 6), (73, 7), (73, 10), (73, 11), (73, 12), (73, 14), (87, 0)] V V' ∧ F_X11_gatherOdds 87 a1 a2 a3 a4 V = (0, V')) := by
  refine pm_MT.of (by decide) ⟨Nat.le_refl _, by decide⟩ (fun av V h => by rw [h.1]; exact (by decide : pm_words [(3, 0), (3, 0), (0, 0), (0, 0), (0, 0), (0, 0)] ≤ 7)) ?_
  rintro X av V0 hC - hR ⟨rfl, hV0⟩
  change pm_J X 0 [(0, (3, 0)), (1, (3, 87)), (2, (0, a1)), (3, (0, a2)), (4, (0, a3)), (5, (0, a4))] [] 118 V0
  have hT := F_X11_gatherOdds_eq 87 a1 a2 a3 a4 V0
  refine pm_aload_n hC 1 (by decide) dX11_gatherOdds_0 rfl ?_
  refine pm_iconst (v := 0) hC dX11_gatherOdds_1 ?_
  refine pm_putf hC 87 fl_X11_371 rfl rfl rfl (by decide) rfl trivial dX11_gatherOdds_2 ?_
  refine pm_iconst (v := 0) hC dX11_gatherOdds_5 ?_
  refine pm_istore (lv' := [(6, (0, 0)), (0, (3, 0)), (1, (3, 87)), (2, (0, a1)), (3, (0, a2)), (4, (0, a3)), (5, (0, a4))]) hC dX11_gatherOdds_6 (by decide) rfl ?_
  have hV3 := (hV0.put 87 0 (x := 0) (lo := 0) (hi := 60) rfl ⟨by decide, by decide⟩)
  have hF4 := ((pm_ff.rf (cs := [74, 75, 76, 77, 88, 89]) (fs := [(73, 0), (73, 1), (73, 2), (73, 3), (73, 4), (73, 5), (73, 6), (73, 7), (73, 10), (73, 11), (73, 12), (73, 14), (87, 0)]) (V := V0)).upf 87 0 0 rfl)
  obtain ⟨V1, hv2⟩ : ∃ V, V = (pm_up V0 87 0 0) := ⟨_, rfl⟩
  rw [← hv2] at hV3 hF4
  rw [← hv2]
  replace hT := hT.trans (pf_let_eq hv2.symm)
  have e5 : V1 87 0 = 0 := by rw [hv2]; rfl
  obtain ⟨B11, hB12, hT⟩ := pf_loop hT
  have L14 : ∀ (N16 : Nat) (x6 : Int) (V8 : pm_M), (0 ≤ x6 ∧ x6 ≤ 60) → pm_ok 0 90 V8 → pm_ff [74, 75, 76, 77, 88, 89] [(73, 0), (73, 1), (73, 2), (73, 3), (73, 4), (73, 5), (73, 6), (73, 7), (73, 10), (73, 11), (73, 12), (73, 14), (87, 0)] V0 V8 → F_X11_gatherOdds 87 a1 a2 a3 a4 V0 = pf_val ((0 : Int), V0) B11 (x6, V8) → (Int.toNat (60 - x6)) = N16 → pm_J X 8 [(0, (3, 0)), (1, (3, 87)), (2, (0, a1)), (3, (0, a2)), (4, (0, a3)), (5, (0, a4)), (6, (0, x6))] [] 118 V8 := by
    intro N16
    induction N16 using Nat.strongRecOn with
    | _ N16 ih17 =>
    intro x6 V8 b7 hV9 hF10 hT hm15
    have hb13 := congrFun hB12 (x6, V8)
    refine pm_iload hC 6 dX11_gatherOdds_8 rfl ?_
    refine pm_aload_n hC 0 (by decide) dX11_gatherOdds_10 rfl ?_
    have e18 : V8 0 3 = 4 := hV9.one 0 3 (by decide) (by decide) rfl
    refine pm_getf (v := 4) hC 0 fl_X11_24 rfl rfl (by decide) rfl e18 dX11_gatherOdds_11 ?_
    obtain ⟨y19, e20⟩ : ∃ y, V8 4 6 = y := ⟨_, rfl⟩
    have b21 := hV9.get 4 6 (lo := 0) (hi := 60) (by decide) (by decide) rfl
    rw [e20] at b21
    replace hb13 := hb13.trans (pf_let_eq e20)
    refine pm_getf (v := y19) hC 4 fl_X11_162 rfl rfl (by decide) rfl e20 dX11_gatherOdds_14 ?_
    refine pm_icmp_ge (tgt := 126) hC ⟨by exact ow_79g_28 b7, by exact ow_79g_29 b7⟩ ⟨by exact ow_79g_28 b21, by exact ow_79g_29 b21⟩ dX11_gatherOdds_17 (by decide) (fun c22 => ?_) (fun c22 => ?_)
    · skip
      replace hb13 := hb13.trans (if_pos c22)
      replace hT := hT.trans (pf_val_inr hb13)
      exact pm_vret hC hR ⟨rfl, hV9, hF10, hT⟩ dX11_gatherOdds_126
    · skip
      replace hb13 := hb13.trans (if_neg (Int.not_le.mpr c22))
      refine pm_aload_n hC 0 (by decide) dX11_gatherOdds_20 rfl ?_
      refine pm_getf (v := 4) hC 0 fl_X11_24 rfl rfl (by decide) rfl e18 dX11_gatherOdds_21 ?_
      have e23 : V8 4 7 = 9 := hV9.one 4 7 (by decide) (by decide) rfl
      refine pm_getf (v := 9) hC 4 fl_X11_243 rfl rfl (by decide) rfl e23 dX11_gatherOdds_24 ?_
      refine pm_iload hC 6 dX11_gatherOdds_27 rfl ?_
      obtain ⟨y24, e25⟩ : ∃ y, V8 9 (x6 : Int).toNat = y := ⟨_, rfl⟩
      replace hb13 := hb13.trans (pf_let_eq e25)
      have b26 := hV9.get1 9 (x6 : Int).toNat (lo := 0) (hi := 999) (by decide) (show _ < 60 by exact ow_79g_30 b21 c22) rfl
      rw [e25] at b26
      refine pm_iaload (len := 60) (v := y24) hC 9 rfl rfl (by decide) ⟨by exact ow_79g_31 b7, by exact ow_79g_32 b21 c22⟩ (by decide) e25 dX11_gatherOdds_29 ?_
      refine pm_bipush (v := 100) hC dX11_gatherOdds_30 (by decide) ?_
      refine pm_idiv hC ⟨by exact ow_79g_33 b26, by exact ow_79g_34 b26, by exact ow_79g_35 b26⟩ ⟨by decide, by decide, by decide⟩ dX11_gatherOdds_32 ?_
      refine pm_iload_n hC 2 dX11_gatherOdds_33 rfl ?_
      refine pm_icmp_ne (tgt := 120) hC ⟨by exact ow_79g_36 b26, by exact ow_79g_37 b26⟩ ⟨by exact ow_79g_38 h0, by exact ow_79g_39 h0⟩ dX11_gatherOdds_34 (by decide) (fun c27 => ?_) (fun c27 => ?_)
      · skip
        replace hb13 := hb13.trans (if_pos c27)
        obtain ⟨x28, ei29⟩ : ∃ y : Int, x6 + 1 = y := ⟨_, rfl⟩
        replace hb13 := hb13.trans (pf_let_eq ei29)
        refine pm_iinc (y := x28) (lv' := [(6, (0, x28)), (0, (3, 0)), (1, (3, 87)), (2, (0, a1)), (3, (0, a2)), (4, (0, a3)), (5, (0, a4))]) hC 6 dX11_gatherOdds_120 (by decide) rfl ei29 rfl ?_
        refine pm_goto (tgt := 8) hC dX11_gatherOdds_123 (by decide) ?_
        refine pm_lvsub [1, 2, 3, 4, 5, 6, 0] (lv' := [(0, (3, 0)), (1, (3, 87)), (2, (0, a1)), (3, (0, a2)), (4, (0, a3)), (5, (0, a4)), (6, (0, x28))]) rfl ?_
        exact ih17 _ (by exact ow_79g_40 hm15 b21 c22 ei29) x28 V8 ⟨by exact ow_79g_41 b7 ei29, by exact ow_79g_42 b21 c22 ei29⟩ hV9 hF10 (hT.trans (pf_val_inl hb13)) rfl
      · skip
        replace hb13 := hb13.trans (if_neg (fun q => q c27))
        refine pm_aload_n hC 0 (by decide) dX11_gatherOdds_37 rfl ?_
        refine pm_aload_n hC 0 (by decide) dX11_gatherOdds_38 rfl ?_
        refine pm_getf (v := 4) hC 0 fl_X11_24 rfl rfl (by decide) rfl e18 dX11_gatherOdds_39 ?_
        refine pm_getf (v := 9) hC 4 fl_X11_243 rfl rfl (by decide) rfl e23 dX11_gatherOdds_42 ?_
        refine pm_iload hC 6 dX11_gatherOdds_45 rfl ?_
        refine pm_iaload (len := 60) (v := y24) hC 9 rfl rfl (by decide) ⟨by exact ow_79g_31 b7, by exact ow_79g_32 b21 c22⟩ (by decide) e25 dX11_gatherOdds_47 ?_
        refine pm_aload_n hC 0 (by decide) dX11_gatherOdds_48 rfl ?_
        refine pm_getf (v := 4) hC 0 fl_X11_24 rfl rfl (by decide) rfl e18 dX11_gatherOdds_49 ?_
        have e30 : V8 4 8 = 10 := hV9.one 4 8 (by decide) (by decide) rfl
        refine pm_getf (v := 10) hC 4 fl_X11_246 rfl rfl (by decide) rfl e30 dX11_gatherOdds_52 ?_
        refine pm_iload hC 6 dX11_gatherOdds_55 rfl ?_
        obtain ⟨y31, e32⟩ : ∃ y, V8 10 (x6 : Int).toNat = y := ⟨_, rfl⟩
        replace hb13 := hb13.trans (pf_let_eq e32)
        have b33 := hV9.get 10 (x6 : Int).toNat (lo := 0) (hi := 99) (by decide) (show _ < 60 by exact ow_79g_30 b21 c22) rfl
        rw [e32] at b33
        refine pm_iaload (len := 60) (v := y31) hC 10 rfl rfl (by decide) ⟨by exact ow_79g_31 b7, by exact ow_79g_32 b21 c22⟩ (by decide) e32 dX11_gatherOdds_57 ?_
        refine pm_iload_n hC 3 dX11_gatherOdds_58 rfl ?_
        refine pm_iload hC 4 dX11_gatherOdds_59 rfl ?_
        refine pm_callV (ci := 11) (as := [(0, y24), (0, y31), (0, a2), (0, a3)]) (st := []) hC 0 (fD_X11_poseAs_0 y24 y31 a2 a3 ⟨by exact ow_79g_33 b26, by exact ow_79g_43 b26⟩ ⟨by exact ow_79g_44 b33, by exact ow_79g_45 b33⟩ ⟨by exact ow_79g_46 h1, by exact ow_79g_47 h1⟩ ⟨by exact ow_79g_46 h2, by exact ow_79g_47 h2⟩ (by exact ow_79g_48 b26)) lm_X11_341 li_X11_poseAs (by decide) (by decide) rfl rfl rfl (by decide) rfl rfl (Nat.le_of_ble_eq_true rfl) ⟨Nat.le_refl _, Or.inl rfl⟩ dX11_gatherOdds_61 ⟨rfl, hV9⟩ (fun r34 V35 hp36 => ?_)
        obtain ⟨rfl, hV37, hF38, hE39⟩ := hp36
        replace hb13 := hb13.trans (pf_call_eq hE39)
        change pm_J X 64 [(0, (3, 0)), (1, (3, 87)), (2, (0, a1)), (3, (0, a2)), (4, (0, a3)), (5, (0, a4)), (6, (0, x6))] [] 118 V35
        have hF40 := pm_ff.tr hF10 hF38 (by decide) (by decide)
        have e41 : V35 0 3 = 4 := by rw [hF38 0 3 (by decide) (by decide)]; exact e18
        have e42 : V35 4 6 = y19 := by rw [hF38 4 6 (by decide) (by decide)]; exact e20
        have e43 : V35 4 7 = 9 := by rw [hF38 4 7 (by decide) (by decide)]; exact e23
        have e44 : V35 4 8 = 10 := by rw [hF38 4 8 (by decide) (by decide)]; exact e30
        refine pm_aload_n hC 0 (by decide) dX11_gatherOdds_64 rfl ?_
        have e45 : V35 0 5 = 73 := hV37.one 0 5 (by decide) (by decide) rfl
        refine pm_getf (v := 73) hC 0 fl_X11_75 rfl rfl (by decide) rfl e45 dX11_gatherOdds_65 ?_
        refine pm_iload hC 5 dX11_gatherOdds_68 rfl ?_
        refine pm_aload_n hC 0 (by decide) dX11_gatherOdds_70 rfl ?_
        refine pm_getf (v := 4) hC 0 fl_X11_24 rfl rfl (by decide) rfl e41 dX11_gatherOdds_71 ?_
        have e46 : V35 4 9 = 11 := hV37.one 4 9 (by decide) (by decide) rfl
        refine pm_getf (v := 11) hC 4 fl_X11_249 rfl rfl (by decide) rfl e46 dX11_gatherOdds_74 ?_
        refine pm_iload hC 6 dX11_gatherOdds_77 rfl ?_
        obtain ⟨y47, e48⟩ : ∃ y, V35 11 (x6 : Int).toNat = y := ⟨_, rfl⟩
        replace hb13 := hb13.trans (pf_let_eq e48)
        have b49 := hV37.get 11 (x6 : Int).toNat (lo := (-99)) (hi := 99) (by decide) (show _ < 60 by exact ow_79g_30 b21 c22) rfl
        rw [e48] at b49
        refine pm_iaload (len := 60) (v := y47) hC 11 rfl rfl (by decide) ⟨by exact ow_79g_31 b7, by exact ow_79g_32 b21 c22⟩ (by decide) e48 dX11_gatherOdds_79 ?_
        refine pm_callV (ci := 10) (as := [(0, a4), (0, y47)]) (st := []) hC 73 (fD_X10_trustAt_73 a4 y47 ⟨by exact ow_79g_13 h3, by exact ow_79g_14 h3⟩ ⟨by exact ow_79g_49 b49, by exact ow_79g_50 b49⟩) lm_X11_306 li_X10_trustAt (by decide) (by decide) rfl rfl rfl (by decide) rfl rfl (Nat.le_of_ble_eq_true rfl) ⟨Nat.le_refl _, Or.inl rfl⟩ dX11_gatherOdds_80 ⟨rfl, hV37⟩ (fun r50 V51 hp52 => ?_)
        obtain ⟨rfl, hV53, hF54, hE55⟩ := hp52
        replace hb13 := hb13.trans (pf_call_eq hE55)
        change pm_J X 83 [(0, (3, 0)), (1, (3, 87)), (2, (0, a1)), (3, (0, a2)), (4, (0, a3)), (5, (0, a4)), (6, (0, x6))] [] 118 V51
        have hF56 := pm_ff.tr hF40 hF54 (by decide) (by decide)
        have e57 : V51 0 3 = 4 := by rw [hF54 0 3 (by decide) (by decide)]; exact e41
        have e58 : V51 4 6 = y19 := by rw [hF54 4 6 (by decide) (by decide)]; exact e42
        have e59 : V51 4 7 = 9 := by rw [hF54 4 7 (by decide) (by decide)]; exact e43
        have e60 : V51 4 8 = 10 := by rw [hF54 4 8 (by decide) (by decide)]; exact e44
        have e61 : V51 0 5 = 73 := by rw [hF54 0 5 (by decide) (by decide)]; exact e45
        have e62 : V51 4 9 = 11 := by rw [hF54 4 9 (by decide) (by decide)]; exact e46
        refine pm_aload_n hC 0 (by decide) dX11_gatherOdds_83 rfl ?_
        refine pm_getf (v := 73) hC 0 fl_X11_75 rfl rfl (by decide) rfl e61 dX11_gatherOdds_84 ?_
        refine pm_iconst (v := 4) hC dX11_gatherOdds_87 ?_
        refine pm_callV (ci := 10) (as := [(0, 4)]) (st := []) hC 73 (fD_X10_weigh_73 4 ⟨by decide, by decide⟩) lm_X11_294 li_X10_weigh (by decide) (by decide) rfl rfl rfl (by decide) rfl rfl (Nat.le_of_ble_eq_true rfl) ⟨Nat.le_refl _, Or.inl rfl⟩ dX11_gatherOdds_88 ⟨rfl, hV53⟩ (fun r63 V64 hp65 => ?_)
        obtain ⟨rfl, hV66, hF67, hE68⟩ := hp65
        replace hb13 := hb13.trans (pf_call_eq hE68)
        change pm_J X 91 [(0, (3, 0)), (1, (3, 87)), (2, (0, a1)), (3, (0, a2)), (4, (0, a3)), (5, (0, a4)), (6, (0, x6))] [] 118 V64
        have hF69 := pm_ff.tr hF56 hF67 (by decide) (by decide)
        have e70 : V64 0 3 = 4 := by rw [hF67 0 3 (by decide) (by decide)]; exact e57
        have e71 : V64 4 6 = y19 := by rw [hF67 4 6 (by decide) (by decide)]; exact e58
        have e72 : V64 4 7 = 9 := by rw [hF67 4 7 (by decide) (by decide)]; exact e59
        have e73 : V64 4 8 = 10 := by rw [hF67 4 8 (by decide) (by decide)]; exact e60
        have e74 : V64 0 5 = 73 := by rw [hF67 0 5 (by decide) (by decide)]; exact e61
        have e75 : V64 4 9 = 11 := by rw [hF67 4 9 (by decide) (by decide)]; exact e62
        refine pm_aload_n hC 1 (by decide) dX11_gatherOdds_91 rfl ?_
        refine pm_aload_n hC 0 (by decide) dX11_gatherOdds_92 rfl ?_
        refine pm_getf (v := 73) hC 0 fl_X11_75 rfl rfl (by decide) rfl e74 dX11_gatherOdds_93 ?_
        rcases hV66.get2 73 13 (lo := 76) (hi := 77) (by decide) (by decide) rfl with e76 | e76
        · skip
          replace hb13 := hb13.trans (if_pos e76)
          refine pm_getf (v := 76) hC 73 fl_X11_208 rfl rfl (by decide) rfl e76 dX11_gatherOdds_96 ?_
          refine pm_aload_n hC 0 (by decide) dX11_gatherOdds_99 rfl ?_
          refine pm_getf (v := 4) hC 0 fl_X11_24 rfl rfl (by decide) rfl e70 dX11_gatherOdds_100 ?_
          have e77 : V64 4 10 = 12 := hV66.one 4 10 (by decide) (by decide) rfl
          refine pm_getf (v := 12) hC 4 fl_X11_252 rfl rfl (by decide) rfl e77 dX11_gatherOdds_103 ?_
          refine pm_iload hC 6 dX11_gatherOdds_106 rfl ?_
          obtain ⟨y78, e79⟩ : ∃ y, V64 12 (x6 : Int).toNat = y := ⟨_, rfl⟩
          replace hb13 := hb13.trans (pf_let_eq e79)
          have b80 := hV66.get 12 (x6 : Int).toNat (lo := 0) (hi := 8) (by decide) (show _ < 60 by exact ow_79g_30 b21 c22) rfl
          rw [e79] at b80
          refine pm_iaload (len := 60) (v := y78) hC 12 rfl rfl (by decide) ⟨by exact ow_79g_31 b7, by exact ow_79g_32 b21 c22⟩ (by decide) e79 dX11_gatherOdds_108 ?_
          obtain ⟨y81, e82⟩ : ∃ y, V64 76 (y78 : Int).toNat = y := ⟨_, rfl⟩
          replace hb13 := hb13.trans (pf_let_eq e82)
          have b83 := hV66.get 76 (y78 : Int).toNat (lo := (-9223372036854775808)) (hi := 9223372036854775807) (by decide) (show _ < 9 by exact ow_79g_51 b80) rfl
          rw [e82] at b83
          refine pm_laload (len := 9) (v := y81) hC 76 rfl rfl (by decide) ⟨by exact ow_79g_23 b80, by exact ow_79g_52 b80⟩ (by decide) e82 dX11_gatherOdds_109 ?_
          refine pm_aload_n hC 0 (by decide) dX11_gatherOdds_110 rfl ?_
          refine pm_getf (v := 73) hC 0 fl_X11_75 rfl rfl (by decide) rfl e74 dX11_gatherOdds_111 ?_
          obtain ⟨y84, e85⟩ : ∃ y, V64 73 14 = y := ⟨_, rfl⟩
          have b86 := hV66.get 73 14 (lo := (-9223372036854775808)) (hi := 9223372036854775807) (by decide) (by decide) rfl
          rw [e85] at b86
          replace hb13 := hb13.trans (pf_let_eq e85)
          refine pm_getf (v := y84) hC 73 fl_X11_205 rfl rfl (by decide) rfl e85 dX11_gatherOdds_114 ?_
          refine pm_callV (ci := 0) (as := [(1, y81), (1, y84)]) (st := []) hC 87 (fD_X0_add_87 y81 y84 ⟨by exact ow_79g_53 b83, by exact ow_79g_54 b83⟩ ⟨by exact ow_79g_53 b86, by exact ow_79g_54 b86⟩) lm_X11_374 li_X0_add (by decide) (by decide) rfl rfl rfl (by decide) rfl rfl (Nat.le_of_ble_eq_true rfl) ⟨Nat.le_refl _, Or.inl rfl⟩ dX11_gatherOdds_117 ⟨rfl, hV66⟩ (fun r87 V88 hp89 => ?_)
          obtain ⟨rfl, hV90, hF91, hE92⟩ := hp89
          replace hb13 := hb13.trans (pf_call_eq hE92)
          change pm_J X 120 [(0, (3, 0)), (1, (3, 87)), (2, (0, a1)), (3, (0, a2)), (4, (0, a3)), (5, (0, a4)), (6, (0, x6))] [] 118 V88
          have hF93 := pm_ff.tr hF69 hF91 (by decide) (by decide)
          have e94 : V88 0 3 = 4 := by rw [hF91 0 3 (by decide) (by decide)]; exact e70
          have e95 : V88 4 6 = y19 := by rw [hF91 4 6 (by decide) (by decide)]; exact e71
          have e96 : V88 4 7 = 9 := by rw [hF91 4 7 (by decide) (by decide)]; exact e72
          have e97 : V88 4 8 = 10 := by rw [hF91 4 8 (by decide) (by decide)]; exact e73
          have e98 : V88 0 5 = 73 := by rw [hF91 0 5 (by decide) (by decide)]; exact e74
          have e99 : V88 4 9 = 11 := by rw [hF91 4 9 (by decide) (by decide)]; exact e75
          have e100 : V88 73 13 = 76 := by rw [hF91 73 13 (by decide) (by decide)]; exact e76
          have e101 : V88 4 10 = 12 := by rw [hF91 4 10 (by decide) (by decide)]; exact e77
          have e102 : V88 73 14 = y84 := by rw [hF91 73 14 (by decide) (by decide)]; exact e85
          obtain ⟨x103, ei104⟩ : ∃ y : Int, x6 + 1 = y := ⟨_, rfl⟩
          replace hb13 := hb13.trans (pf_let_eq ei104)
          refine pm_iinc (y := x103) (lv' := [(6, (0, x103)), (0, (3, 0)), (1, (3, 87)), (2, (0, a1)), (3, (0, a2)), (4, (0, a3)), (5, (0, a4))]) hC 6 dX11_gatherOdds_120 (by decide) rfl ei104 rfl ?_
          refine pm_goto (tgt := 8) hC dX11_gatherOdds_123 (by decide) ?_
          refine pm_lvsub [1, 2, 3, 4, 5, 6, 0] (lv' := [(0, (3, 0)), (1, (3, 87)), (2, (0, a1)), (3, (0, a2)), (4, (0, a3)), (5, (0, a4)), (6, (0, x103))]) rfl ?_
          exact ih17 _ (by exact ow_79g_40 hm15 b21 c22 ei104) x103 V88 ⟨by exact ow_79g_41 b7 ei104, by exact ow_79g_42 b21 c22 ei104⟩ hV90 hF93 (hT.trans (pf_val_inl hb13)) rfl
        · skip
          replace hb13 := hb13.trans (if_neg (by rw [e76]; decide))
          refine pm_getf (v := 77) hC 73 fl_X11_208 rfl rfl (by decide) rfl e76 dX11_gatherOdds_96 ?_
          refine pm_aload_n hC 0 (by decide) dX11_gatherOdds_99 rfl ?_
          refine pm_getf (v := 4) hC 0 fl_X11_24 rfl rfl (by decide) rfl e70 dX11_gatherOdds_100 ?_
          have e105 : V64 4 10 = 12 := hV66.one 4 10 (by decide) (by decide) rfl
          refine pm_getf (v := 12) hC 4 fl_X11_252 rfl rfl (by decide) rfl e105 dX11_gatherOdds_103 ?_
          refine pm_iload hC 6 dX11_gatherOdds_106 rfl ?_
          obtain ⟨y106, e107⟩ : ∃ y, V64 12 (x6 : Int).toNat = y := ⟨_, rfl⟩
          replace hb13 := hb13.trans (pf_let_eq e107)
          have b108 := hV66.get 12 (x6 : Int).toNat (lo := 0) (hi := 8) (by decide) (show _ < 60 by exact ow_79g_30 b21 c22) rfl
          rw [e107] at b108
          refine pm_iaload (len := 60) (v := y106) hC 12 rfl rfl (by decide) ⟨by exact ow_79g_31 b7, by exact ow_79g_32 b21 c22⟩ (by decide) e107 dX11_gatherOdds_108 ?_
          obtain ⟨y109, e110⟩ : ∃ y, V64 77 (y106 : Int).toNat = y := ⟨_, rfl⟩
          replace hb13 := hb13.trans (pf_let_eq e110)
          have b111 := hV66.get 77 (y106 : Int).toNat (lo := (-9223372036854775808)) (hi := 9223372036854775807) (by decide) (show _ < 9 by exact ow_79g_51 b108) rfl
          rw [e110] at b111
          refine pm_laload (len := 9) (v := y109) hC 77 rfl rfl (by decide) ⟨by exact ow_79g_23 b108, by exact ow_79g_52 b108⟩ (by decide) e110 dX11_gatherOdds_109 ?_
          refine pm_aload_n hC 0 (by decide) dX11_gatherOdds_110 rfl ?_
          refine pm_getf (v := 73) hC 0 fl_X11_75 rfl rfl (by decide) rfl e74 dX11_gatherOdds_111 ?_
          obtain ⟨y112, e113⟩ : ∃ y, V64 73 14 = y := ⟨_, rfl⟩
          have b114 := hV66.get 73 14 (lo := (-9223372036854775808)) (hi := 9223372036854775807) (by decide) (by decide) rfl
          rw [e113] at b114
          replace hb13 := hb13.trans (pf_let_eq e113)
          refine pm_getf (v := y112) hC 73 fl_X11_205 rfl rfl (by decide) rfl e113 dX11_gatherOdds_114 ?_
          refine pm_callV (ci := 0) (as := [(1, y109), (1, y112)]) (st := []) hC 87 (fD_X0_add_87 y109 y112 ⟨by exact ow_79g_53 b111, by exact ow_79g_54 b111⟩ ⟨by exact ow_79g_53 b114, by exact ow_79g_54 b114⟩) lm_X11_374 li_X0_add (by decide) (by decide) rfl rfl rfl (by decide) rfl rfl (Nat.le_of_ble_eq_true rfl) ⟨Nat.le_refl _, Or.inl rfl⟩ dX11_gatherOdds_117 ⟨rfl, hV66⟩ (fun r115 V116 hp117 => ?_)
          obtain ⟨rfl, hV118, hF119, hE120⟩ := hp117
          replace hb13 := hb13.trans (pf_call_eq hE120)
          change pm_J X 120 [(0, (3, 0)), (1, (3, 87)), (2, (0, a1)), (3, (0, a2)), (4, (0, a3)), (5, (0, a4)), (6, (0, x6))] [] 118 V116
          have hF121 := pm_ff.tr hF69 hF119 (by decide) (by decide)
          have e122 : V116 0 3 = 4 := by rw [hF119 0 3 (by decide) (by decide)]; exact e70
          have e123 : V116 4 6 = y19 := by rw [hF119 4 6 (by decide) (by decide)]; exact e71
          have e124 : V116 4 7 = 9 := by rw [hF119 4 7 (by decide) (by decide)]; exact e72
          have e125 : V116 4 8 = 10 := by rw [hF119 4 8 (by decide) (by decide)]; exact e73
          have e126 : V116 0 5 = 73 := by rw [hF119 0 5 (by decide) (by decide)]; exact e74
          have e127 : V116 4 9 = 11 := by rw [hF119 4 9 (by decide) (by decide)]; exact e75
          have e128 : V116 73 13 = 77 := by rw [hF119 73 13 (by decide) (by decide)]; exact e76
          have e129 : V116 4 10 = 12 := by rw [hF119 4 10 (by decide) (by decide)]; exact e105
          have e130 : V116 73 14 = y112 := by rw [hF119 73 14 (by decide) (by decide)]; exact e113
          obtain ⟨x131, ei132⟩ : ∃ y : Int, x6 + 1 = y := ⟨_, rfl⟩
          replace hb13 := hb13.trans (pf_let_eq ei132)
          refine pm_iinc (y := x131) (lv' := [(6, (0, x131)), (0, (3, 0)), (1, (3, 87)), (2, (0, a1)), (3, (0, a2)), (4, (0, a3)), (5, (0, a4))]) hC 6 dX11_gatherOdds_120 (by decide) rfl ei132 rfl ?_
          refine pm_goto (tgt := 8) hC dX11_gatherOdds_123 (by decide) ?_
          refine pm_lvsub [1, 2, 3, 4, 5, 6, 0] (lv' := [(0, (3, 0)), (1, (3, 87)), (2, (0, a1)), (3, (0, a2)), (4, (0, a3)), (5, (0, a4)), (6, (0, x131))]) rfl ?_
          exact ih17 _ (by exact ow_79g_40 hm15 b21 c22 ei132) x131 V116 ⟨by exact ow_79g_41 b7 ei132, by exact ow_79g_42 b21 c22 ei132⟩ hV118 hF121 (hT.trans (pf_val_inl hb13)) rfl
  refine pm_lvsub [1, 2, 3, 4, 5, 6, 0] (lv' := [(0, (3, 0)), (1, (3, 87)), (2, (0, a1)), (3, (0, a2)), (4, (0, a3)), (5, (0, a4)), (6, (0, 0))]) rfl ?_
  exact L14 _ 0 V1 ⟨by decide, by decide⟩ hV3 hF4 hT rfl
set_option maxHeartbeats 4000000 in
set_option maxRecDepth 100000 in
theorem uD_X11_trySpans_0 (a1 a2 a3 : Int) (h0 : 0 ≤ a1 ∧ a1 ≤ 9) (h1 : (-12) ≤ a2 ∧ a2 ≤ 12) (h2 : (-12) ≤ a3 ∧ a3 ≤ 12) : pm_K 6 yX11_trySpans cX11_trySpans 4 none (fun av V => av = [(3, 0), (0, a1), (0, a2), (0, a3)] ∧ pm_ok 0 90 V) (fun _ V r V' => r = none ∧ pm_ok 0 90 V' ∧ pm_ff [74, 75, 76, 77, 80, 82, 85, 86, 88, 89] [(0, 12), (0, 13), (0, 14), (0, 15), (73, 0), (73, 1), (73, 2), (73, 3), (73, 4), (73, 5), (73, 6), (73, 7), (73, 10), (73, 11), (73, 12), (73, 14), (79, 1), (81, 1), (84, 0), (87, 0)] V V') := by
  refine pm_MT.of (by decide) ⟨Nat.le_refl _, by decide⟩ (fun av V h => by rw [h.1]; exact (by decide : pm_words [(3, 0), (0, 0), (0, 0), (0, 0)] ≤ 4)) ?_
  rintro X av V0 hC - hR ⟨rfl, hV0⟩
  change pm_J X 0 [(0, (3, 0)), (1, (0, a1)), (2, (0, a2)), (3, (0, a3))] [] 118 V0
  refine pm_aload_n hC 0 (by decide) dX11_trySpans_0 rfl ?_
  refine pm_aload_n hC 0 (by decide) dX11_trySpans_1 rfl ?_
  rcases hV0.get2 0 13 (lo := 84) (hi := 87) (by decide) (by decide) rfl with e1 | e1
  · skip
    refine pm_getf (v := 84) hC 0 fl_X11_97 rfl rfl (by decide) rfl e1 dX11_trySpans_2 ?_
    refine pm_iload_n hC 1 dX11_trySpans_5 rfl ?_
    refine pm_iload_n hC 2 dX11_trySpans_6 rfl ?_
    refine pm_iload_n hC 3 dX11_trySpans_7 rfl ?_
    refine pm_aload_n hC 0 (by decide) dX11_trySpans_8 rfl ?_
    have e2 : V0 0 3 = 4 := hV0.one 0 3 (by decide) (by decide) rfl
    refine pm_getf (v := 4) hC 0 fl_X11_24 rfl rfl (by decide) rfl e2 dX11_trySpans_9 ?_
    have e3 : V0 4 4 = 7 := hV0.one 4 4 (by decide) (by decide) rfl
    refine pm_getf (v := 7) hC 4 fl_X11_192 rfl rfl (by decide) rfl e3 dX11_trySpans_12 ?_
    refine pm_iload_n hC 1 dX11_trySpans_15 rfl ?_
    obtain ⟨y4, e5⟩ : ∃ y, V0 7 (a1 : Int).toNat = y := ⟨_, rfl⟩
    have b6 := hV0.get 7 (a1 : Int).toNat (lo := 0) (hi := 16) (by decide) (show _ < 10 by exact ow_79g_55 h0) rfl
    rw [e5] at b6
    refine pm_iaload (len := 10) (v := y4) hC 7 rfl rfl (by decide) ⟨by exact ow_79g_56 h0, by exact ow_79g_57 h0⟩ (by decide) e5 dX11_trySpans_16 ?_
    refine pm_callV (ci := 11) (as := [(3, 84), (0, a1), (0, a2), (0, a3), (0, y4)]) (st := []) hC 0 (fD_X11_gatherOdds_0_84 a1 a2 a3 y4 ⟨by exact ow_79g_56 h0, by exact ow_79g_58 h0⟩ ⟨by exact ow_79g_59 h1, by exact ow_79g_60 h1⟩ ⟨by exact ow_79g_59 h2, by exact ow_79g_60 h2⟩ ⟨by exact ow_79g_61 b6, by exact ow_79g_62 b6⟩) lm_X11_377 li_X11_gatherOdds (by decide) (by decide) rfl rfl rfl (by decide) rfl rfl (Nat.le_of_ble_eq_true rfl) ⟨Nat.le_refl _, Or.inl rfl⟩ dX11_trySpans_17 ⟨rfl, hV0⟩ (fun r7 V8 hp9 => ?_)
    obtain ⟨rfl, hV10, hF11, hE12⟩ := hp9
    change pm_J X 20 [(0, (3, 0)), (1, (0, a1)), (2, (0, a2)), (3, (0, a3))] [] 118 V8
    have hF13 := pm_ff.tr (pm_ff.rf (cs := [74, 75, 76, 77, 80, 82, 85, 86, 88, 89]) (fs := [(0, 12), (0, 13), (0, 14), (0, 15), (73, 0), (73, 1), (73, 2), (73, 3), (73, 4), (73, 5), (73, 6), (73, 7), (73, 10), (73, 11), (73, 12), (73, 14), (79, 1), (81, 1), (84, 0), (87, 0)]) (V := V0)) hF11 (by decide) (by decide)
    have e14 : V8 0 13 = 84 := by rw [hF11 0 13 (by decide) (by decide)]; exact e1
    have e15 : V8 0 3 = 4 := by rw [hF11 0 3 (by decide) (by decide)]; exact e2
    have e16 : V8 4 4 = 7 := by rw [hF11 4 4 (by decide) (by decide)]; exact e3
    refine pm_aload_n hC 0 (by decide) dX11_trySpans_20 rfl ?_
    refine pm_callV (ci := 11) (as := []) (st := []) hC 0 uD_X11_keepsTried_0 lm_X11_276 li_X11_keepsTried (by decide) (by decide) rfl rfl rfl (by decide) rfl rfl (Nat.le_of_ble_eq_true rfl) ⟨Nat.le_refl _, Or.inl rfl⟩ dX11_trySpans_21 ⟨rfl, hV10⟩ (fun r17 V18 hp19 => ?_)
    obtain ⟨y20, rfl, b21, hV22, hF23⟩ := hp19
    change pm_J X 24 [(0, (3, 0)), (1, (0, a1)), (2, (0, a2)), (3, (0, a3))] [(0, y20)] 118 V18
    have hF25 := pm_ff.tr hF13 hF23 (by decide) (by decide)
    have e26 : V18 0 3 = 4 := by rw [hF23 0 3 (by decide) (by decide)]; exact e15
    have e27 : V18 4 4 = 7 := by rw [hF23 4 4 (by decide) (by decide)]; exact e16
    refine pm_if_eq (tgt := 37) hC ⟨by exact ow_79g_9 b21, by exact ow_79g_10 b21⟩ dX11_trySpans_24 (by decide) (fun c28 => ?_) (fun c28 => ?_)
    · skip
      exact pm_vret hC hR ⟨rfl, hV22, hF25⟩ dX11_trySpans_37
    · skip
      refine pm_aload_n hC 0 (by decide) dX11_trySpans_27 rfl ?_
      refine pm_iload_n hC 2 dX11_trySpans_28 rfl ?_
      refine pm_putf hC 0 fl_X11_100 rfl rfl rfl (by decide) rfl trivial dX11_trySpans_29 ?_
      refine pm_aload_n hC 0 (by decide) dX11_trySpans_32 rfl ?_
      refine pm_iload_n hC 3 dX11_trySpans_33 rfl ?_
      refine pm_putf hC 0 fl_X11_104 rfl rfl rfl (by decide) rfl trivial dX11_trySpans_34 ?_
      exact pm_vret hC hR ⟨rfl, ((hV22.put 0 14 (x := a2) (lo := (-2147483648)) (hi := 2147483647) rfl ⟨by exact ow_79g_63 h1, by exact ow_79g_64 h1⟩).put 0 15 (x := a3) (lo := (-2147483648)) (hi := 2147483647) rfl ⟨by exact ow_79g_63 h2, by exact ow_79g_64 h2⟩), ((hF25.upf 0 14 a2 rfl).upf 0 15 a3 rfl)⟩ dX11_trySpans_37
  · skip
    refine pm_getf (v := 87) hC 0 fl_X11_97 rfl rfl (by decide) rfl e1 dX11_trySpans_2 ?_
    refine pm_iload_n hC 1 dX11_trySpans_5 rfl ?_
    refine pm_iload_n hC 2 dX11_trySpans_6 rfl ?_
    refine pm_iload_n hC 3 dX11_trySpans_7 rfl ?_
    refine pm_aload_n hC 0 (by decide) dX11_trySpans_8 rfl ?_
    have e29 : V0 0 3 = 4 := hV0.one 0 3 (by decide) (by decide) rfl
    refine pm_getf (v := 4) hC 0 fl_X11_24 rfl rfl (by decide) rfl e29 dX11_trySpans_9 ?_
    have e30 : V0 4 4 = 7 := hV0.one 4 4 (by decide) (by decide) rfl
    refine pm_getf (v := 7) hC 4 fl_X11_192 rfl rfl (by decide) rfl e30 dX11_trySpans_12 ?_
    refine pm_iload_n hC 1 dX11_trySpans_15 rfl ?_
    obtain ⟨y31, e32⟩ : ∃ y, V0 7 (a1 : Int).toNat = y := ⟨_, rfl⟩
    have b33 := hV0.get 7 (a1 : Int).toNat (lo := 0) (hi := 16) (by decide) (show _ < 10 by exact ow_79g_55 h0) rfl
    rw [e32] at b33
    refine pm_iaload (len := 10) (v := y31) hC 7 rfl rfl (by decide) ⟨by exact ow_79g_56 h0, by exact ow_79g_57 h0⟩ (by decide) e32 dX11_trySpans_16 ?_
    refine pm_callV (ci := 11) (as := [(3, 87), (0, a1), (0, a2), (0, a3), (0, y31)]) (st := []) hC 0 (fD_X11_gatherOdds_0_87 a1 a2 a3 y31 ⟨by exact ow_79g_56 h0, by exact ow_79g_58 h0⟩ ⟨by exact ow_79g_59 h1, by exact ow_79g_60 h1⟩ ⟨by exact ow_79g_59 h2, by exact ow_79g_60 h2⟩ ⟨by exact ow_79g_61 b33, by exact ow_79g_62 b33⟩) lm_X11_377 li_X11_gatherOdds (by decide) (by decide) rfl rfl rfl (by decide) rfl rfl (Nat.le_of_ble_eq_true rfl) ⟨Nat.le_refl _, Or.inl rfl⟩ dX11_trySpans_17 ⟨rfl, hV0⟩ (fun r34 V35 hp36 => ?_)
    obtain ⟨rfl, hV37, hF38, hE39⟩ := hp36
    change pm_J X 20 [(0, (3, 0)), (1, (0, a1)), (2, (0, a2)), (3, (0, a3))] [] 118 V35
    have hF40 := pm_ff.tr (pm_ff.rf (cs := [74, 75, 76, 77, 80, 82, 85, 86, 88, 89]) (fs := [(0, 12), (0, 13), (0, 14), (0, 15), (73, 0), (73, 1), (73, 2), (73, 3), (73, 4), (73, 5), (73, 6), (73, 7), (73, 10), (73, 11), (73, 12), (73, 14), (79, 1), (81, 1), (84, 0), (87, 0)]) (V := V0)) hF38 (by decide) (by decide)
    have e41 : V35 0 13 = 87 := by rw [hF38 0 13 (by decide) (by decide)]; exact e1
    have e42 : V35 0 3 = 4 := by rw [hF38 0 3 (by decide) (by decide)]; exact e29
    have e43 : V35 4 4 = 7 := by rw [hF38 4 4 (by decide) (by decide)]; exact e30
    refine pm_aload_n hC 0 (by decide) dX11_trySpans_20 rfl ?_
    refine pm_callV (ci := 11) (as := []) (st := []) hC 0 uD_X11_keepsTried_0 lm_X11_276 li_X11_keepsTried (by decide) (by decide) rfl rfl rfl (by decide) rfl rfl (Nat.le_of_ble_eq_true rfl) ⟨Nat.le_refl _, Or.inl rfl⟩ dX11_trySpans_21 ⟨rfl, hV37⟩ (fun r44 V45 hp46 => ?_)
    obtain ⟨y47, rfl, b48, hV49, hF50⟩ := hp46
    change pm_J X 24 [(0, (3, 0)), (1, (0, a1)), (2, (0, a2)), (3, (0, a3))] [(0, y47)] 118 V45
    have hF52 := pm_ff.tr hF40 hF50 (by decide) (by decide)
    have e53 : V45 0 3 = 4 := by rw [hF50 0 3 (by decide) (by decide)]; exact e42
    have e54 : V45 4 4 = 7 := by rw [hF50 4 4 (by decide) (by decide)]; exact e43
    refine pm_if_eq (tgt := 37) hC ⟨by exact ow_79g_9 b48, by exact ow_79g_10 b48⟩ dX11_trySpans_24 (by decide) (fun c55 => ?_) (fun c55 => ?_)
    · skip
      exact pm_vret hC hR ⟨rfl, hV49, hF52⟩ dX11_trySpans_37
    · skip
      refine pm_aload_n hC 0 (by decide) dX11_trySpans_27 rfl ?_
      refine pm_iload_n hC 2 dX11_trySpans_28 rfl ?_
      refine pm_putf hC 0 fl_X11_100 rfl rfl rfl (by decide) rfl trivial dX11_trySpans_29 ?_
      refine pm_aload_n hC 0 (by decide) dX11_trySpans_32 rfl ?_
      refine pm_iload_n hC 3 dX11_trySpans_33 rfl ?_
      refine pm_putf hC 0 fl_X11_104 rfl rfl rfl (by decide) rfl trivial dX11_trySpans_34 ?_
      exact pm_vret hC hR ⟨rfl, ((hV49.put 0 14 (x := a2) (lo := (-2147483648)) (hi := 2147483647) rfl ⟨by exact ow_79g_63 h1, by exact ow_79g_64 h1⟩).put 0 15 (x := a3) (lo := (-2147483648)) (hi := 2147483647) rfl ⟨by exact ow_79g_63 h2, by exact ow_79g_64 h2⟩), ((hF52.upf 0 14 a2 rfl).upf 0 15 a3 rfl)⟩ dX11_trySpans_37
set_option maxHeartbeats 4000000 in
set_option maxRecDepth 100000 in
theorem uD_X11_findOwnSpans_0 (a1 : Int) (h0 : 0 ≤ a1 ∧ a1 ≤ 9) : pm_K 7 yX11_findOwnSpans cX11_findOwnSpans 5 none (fun av V => av = [(3, 0), (0, a1)] ∧ pm_ok 0 90 V) (fun _ V r V' => r = none ∧ pm_ok 0 90 V' ∧ pm_ff [74, 75, 76, 77, 80, 82, 85, 86, 88, 89] [(0, 12), (0, 13), (0, 14), (0, 15), (73, 0), (73, 1), (73, 2), (73, 3), (73, 4), (73, 5), (73, 6), (73, 7), (73, 10), (73, 11), (73, 12), (73, 14), (79, 1), (81, 1), (84, 0), (87, 0)] V V') := by
  refine pm_MT.of (by decide) ⟨Nat.le_refl _, by decide⟩ (fun av V h => by rw [h.1]; exact (by decide : pm_words [(3, 0), (0, 0)] ≤ 5)) ?_
  rintro X av V0 hC - hR ⟨rfl, hV0⟩
  change pm_J X 0 [(0, (3, 0)), (1, (0, a1))] [] 118 V0
  refine pm_aload_n hC 0 (by decide) dX11_findOwnSpans_0 rfl ?_
  refine pm_iconst (v := 0) hC dX11_findOwnSpans_1 ?_
  refine pm_putf hC 0 fl_X11_100 rfl rfl rfl (by decide) rfl trivial dX11_findOwnSpans_2 ?_
  refine pm_aload_n hC 0 (by decide) dX11_findOwnSpans_5 rfl ?_
  refine pm_iconst (v := 0) hC dX11_findOwnSpans_6 ?_
  refine pm_putf hC 0 fl_X11_104 rfl rfl rfl (by decide) rfl trivial dX11_findOwnSpans_7 ?_
  refine pm_aload_n hC 0 (by decide) dX11_findOwnSpans_10 rfl ?_
  refine pm_aload_n hC 0 (by decide) dX11_findOwnSpans_11 rfl ?_
  rcases hV0.get2 0 12 (lo := 84) (hi := 87) (by decide) (by decide) rfl with e1 | e1
  · skip
    refine pm_getf (v := 84) hC 0 fl_X11_93 rfl rfl (by decide) rfl e1 dX11_findOwnSpans_12 ?_
    refine pm_iload_n hC 1 dX11_findOwnSpans_15 rfl ?_
    refine pm_iconst (v := 0) hC dX11_findOwnSpans_16 ?_
    refine pm_iconst (v := 0) hC dX11_findOwnSpans_17 ?_
    refine pm_aload_n hC 0 (by decide) dX11_findOwnSpans_18 rfl ?_
    have e2 : V0 0 3 = 4 := hV0.one 0 3 (by decide) (by decide) rfl
    refine pm_getf (v := 4) hC 0 fl_X11_24 rfl rfl (by decide) rfl e2 dX11_findOwnSpans_19 ?_
    have e3 : V0 4 4 = 7 := hV0.one 4 4 (by decide) (by decide) rfl
    refine pm_getf (v := 7) hC 4 fl_X11_192 rfl rfl (by decide) rfl e3 dX11_findOwnSpans_22 ?_
    refine pm_iload_n hC 1 dX11_findOwnSpans_25 rfl ?_
    obtain ⟨y4, e5⟩ : ∃ y, V0 7 (a1 : Int).toNat = y := ⟨_, rfl⟩
    have b6 := hV0.get 7 (a1 : Int).toNat (lo := 0) (hi := 16) (by decide) (show _ < 10 by exact ow_79g_55 h0) rfl
    rw [e5] at b6
    refine pm_iaload (len := 10) (v := y4) hC 7 rfl rfl (by decide) ⟨by exact ow_79g_56 h0, by exact ow_79g_57 h0⟩ (by decide) e5 dX11_findOwnSpans_26 ?_
    refine pm_callV (ci := 11) (as := [(3, 84), (0, a1), (0, 0), (0, 0), (0, y4)]) (st := []) hC 0 (fD_X11_gatherOdds_0_84 a1 0 0 y4 ⟨by exact ow_79g_56 h0, by exact ow_79g_58 h0⟩ ⟨by decide, by decide⟩ ⟨by decide, by decide⟩ ⟨by exact ow_79g_61 b6, by exact ow_79g_62 b6⟩) lm_X11_377 li_X11_gatherOdds (by decide) (by decide) rfl rfl rfl (by decide) rfl rfl (Nat.le_of_ble_eq_true rfl) ⟨Nat.le_refl _, Or.inl rfl⟩ dX11_findOwnSpans_27 ⟨rfl, ((hV0.put 0 14 (x := 0) (lo := (-2147483648)) (hi := 2147483647) rfl ⟨by decide, by decide⟩).put 0 15 (x := 0) (lo := (-2147483648)) (hi := 2147483647) rfl ⟨by decide, by decide⟩)⟩ (fun r7 V8 hp9 => ?_)
    obtain ⟨rfl, hV10, hF11, hE12⟩ := hp9
    change pm_J X 30 [(0, (3, 0)), (1, (0, a1))] [] 118 V8
    have hF13 := pm_ff.tr (((pm_ff.rf (cs := [74, 75, 76, 77, 80, 82, 85, 86, 88, 89]) (fs := [(0, 12), (0, 13), (0, 14), (0, 15), (73, 0), (73, 1), (73, 2), (73, 3), (73, 4), (73, 5), (73, 6), (73, 7), (73, 10), (73, 11), (73, 12), (73, 14), (79, 1), (81, 1), (84, 0), (87, 0)]) (V := V0)).upf 0 14 0 rfl).upf 0 15 0 rfl) hF11 (by decide) (by decide)
    have e14 : V8 0 12 = 84 := by rw [hF11 0 12 (by decide) (by decide)]; exact e1
    have e15 : V8 0 3 = 4 := by rw [hF11 0 3 (by decide) (by decide)]; exact e2
    have e16 : V8 4 4 = 7 := by rw [hF11 4 4 (by decide) (by decide)]; exact e3
    have e17 : V8 0 14 = 0 := by rw [hF11 0 14 (by decide) (by decide)]; rfl
    have e18 : V8 0 15 = 0 := by rw [hF11 0 15 (by decide) (by decide)]; rfl
    refine pm_iconst (v := 1) hC dX11_findOwnSpans_30 ?_
    refine pm_istore_n (lv' := [(2, (0, 1)), (0, (3, 0)), (1, (0, a1))]) hC dX11_findOwnSpans_31 (by decide) rfl ?_
    have L29 : ∀ (N31 : Nat) (x19 : Int) (V21 : pm_M), (1 ≤ x19 ∧ x19 ≤ 60) → pm_ok 0 90 V21 → pm_ff [74, 75, 76, 77, 80, 82, 85, 86, 88, 89] [(0, 12), (0, 13), (0, 14), (0, 15), (73, 0), (73, 1), (73, 2), (73, 3), (73, 4), (73, 5), (73, 6), (73, 7), (73, 10), (73, 11), (73, 12), (73, 14), (79, 1), (81, 1), (84, 0), (87, 0)] V0 V21 → V21 0 3 = 4 → V21 4 4 = 7 → (Int.toNat (60 - x19)) = N31 → pm_J X 32 [(0, (3, 0)), (1, (0, a1)), (2, (0, x19))] [] 118 V21 := by
      intro N31
      induction N31 using Nat.strongRecOn with
      | _ N31 ih32 =>
      intro x19 V21 b20 hV22 hF23 e24 e25 hm30
      refine pm_iload_n hC 2 dX11_findOwnSpans_32 rfl ?_
      refine pm_bipush (v := 24) hC dX11_findOwnSpans_33 (by decide) ?_
      refine pm_icmp_gt (tgt := 108) hC ⟨by exact ow_79g_65 b20, by exact ow_79g_66 b20⟩ ⟨by decide, by decide⟩ dX11_findOwnSpans_35 (by decide) (fun c33 => ?_) (fun c33 => ?_)
      · skip
        exact pm_vret hC hR ⟨rfl, hV22, hF23⟩ dX11_findOwnSpans_108
      · skip
        refine pm_bipush (v := (-12)) hC dX11_findOwnSpans_38 (by decide) ?_
        refine pm_istore_n (lv' := [(3, (0, (-12))), (0, (3, 0)), (1, (0, a1)), (2, (0, x19))]) hC dX11_findOwnSpans_40 (by decide) rfl ?_
        have L44 : ∀ (N46 : Nat) (x34 : Int) (V36 : pm_M), ((-12) ≤ x34 ∧ x34 ≤ 16) → pm_ok 0 90 V36 → pm_ff [74, 75, 76, 77, 80, 82, 85, 86, 88, 89] [(0, 12), (0, 13), (0, 14), (0, 15), (73, 0), (73, 1), (73, 2), (73, 3), (73, 4), (73, 5), (73, 6), (73, 7), (73, 10), (73, 11), (73, 12), (73, 14), (79, 1), (81, 1), (84, 0), (87, 0)] V0 V36 → V36 0 3 = 4 → V36 4 4 = 7 → (Int.toNat (16 - x34)) = N46 → pm_J X 41 [(0, (3, 0)), (1, (0, a1)), (2, (0, x19)), (3, (0, x34))] [] 118 V36 := by
          intro N46
          induction N46 using Nat.strongRecOn with
          | _ N46 ih47 =>
          intro x34 V36 b35 hV37 hF38 e39 e40 hm45
          refine pm_iload_n hC 3 dX11_findOwnSpans_41 rfl ?_
          refine pm_bipush (v := 12) hC dX11_findOwnSpans_42 (by decide) ?_
          refine pm_icmp_gt (tgt := 102) hC ⟨by exact ow_79g_67 b35, by exact ow_79g_68 b35⟩ ⟨by decide, by decide⟩ dX11_findOwnSpans_44 (by decide) (fun c48 => ?_) (fun c48 => ?_)
          · skip
            obtain ⟨x49, ei50⟩ : ∃ y : Int, x19 + 1 = y := ⟨_, rfl⟩
            refine pm_iinc (y := x49) (lv' := [(2, (0, x49)), (0, (3, 0)), (1, (0, a1)), (3, (0, x34))]) hC 2 dX11_findOwnSpans_102 (by decide) rfl ei50 rfl ?_
            refine pm_goto (tgt := 32) hC dX11_findOwnSpans_105 (by decide) ?_
            refine pm_lvsub [1, 2, 0] (lv' := [(0, (3, 0)), (1, (0, a1)), (2, (0, x49))]) rfl ?_
            exact ih32 _ (by exact ow_79g_69 hm30 c33 ei50) x49 V36 ⟨by exact ow_79g_70 b20 ei50, by exact ow_79g_71 c33 ei50⟩ hV37 hF38 e39 e40 rfl
          · skip
            refine pm_iload_n hC 2 dX11_findOwnSpans_47 rfl ?_
            refine pm_iload_n hC 3 dX11_findOwnSpans_48 rfl ?_
            refine pm_mabs hC 4214 4015 1018 4016 ⟨by exact ow_79g_67 b35, by exact ow_79g_72 c48⟩ (by decide) wL_X11_366 wS_mabs wI_math wC_mabs (Nat.le_of_ble_eq_true rfl) dX11_findOwnSpans_49 (fun y51 b52 => ?_)
            have b52 := And.intro b52.1.1 (And.intro b52.1.2 b52.2)
            refine pm_isub hC dX11_findOwnSpans_52 ?_
            refine pm_istore (lv' := [(4, (0, (x19 - y51))), (0, (3, 0)), (1, (0, a1)), (2, (0, x19)), (3, (0, x34))]) hC dX11_findOwnSpans_53 (by decide) rfl ?_
            refine pm_iload hC 0 dX11_findOwnSpans_55 rfl ?_
            refine pm_if_lt (tgt := 76) hC ⟨by exact ow_79g_73 b20 b52, by exact ow_79g_74 c33 b35 b52⟩ dX11_findOwnSpans_57 (by decide) (fun c54 => ?_) (fun c54 => ?_)
            · skip
              refine pm_iload hC 0 dX11_findOwnSpans_76 rfl ?_
              refine pm_if_le (tgt := 96) hC ⟨by exact ow_79g_73 b20 b52, by exact ow_79g_75 c54⟩ dX11_findOwnSpans_78 (by decide) (fun c55 => ?_) (fun c55 => ?_)
              · skip
                obtain ⟨x56, ei57⟩ : ∃ y : Int, x34 + 1 = y := ⟨_, rfl⟩
                refine pm_iinc (y := x56) (lv' := [(3, (0, x56)), (4, (0, (x19 - y51))), (0, (3, 0)), (1, (0, a1)), (2, (0, x19))]) hC 4 dX11_findOwnSpans_96 (by decide) rfl ei57 rfl ?_
                refine pm_goto (tgt := 41) hC dX11_findOwnSpans_99 (by decide) ?_
                refine pm_lvsub [2, 3, 4, 0] (lv' := [(0, (3, 0)), (1, (0, a1)), (2, (0, x19)), (3, (0, x56))]) rfl ?_
                exact ih47 _ (by exact ow_79g_76 hm45 c48 ei57) x56 V36 ⟨by exact ow_79g_77 b35 ei57, by exact ow_79g_78 c48 ei57⟩ hV37 hF38 e39 e40 rfl
              · skip
                exfalso; exact ow_79g_79 c54 c55
            · skip
              refine pm_iload hC 0 dX11_findOwnSpans_60 rfl ?_
              refine pm_bipush (v := 12) hC dX11_findOwnSpans_62 (by decide) ?_
              refine pm_icmp_gt (tgt := 76) hC ⟨by exact ow_79g_80 c54, by exact ow_79g_74 c33 b35 b52⟩ ⟨by decide, by decide⟩ dX11_findOwnSpans_64 (by decide) (fun c58 => ?_) (fun c58 => ?_)
              · skip
                refine pm_iload hC 0 dX11_findOwnSpans_76 rfl ?_
                refine pm_if_le (tgt := 96) hC ⟨by exact ow_79g_81 c58, by exact ow_79g_74 c33 b35 b52⟩ dX11_findOwnSpans_78 (by decide) (fun c59 => ?_) (fun c59 => ?_)
                · skip
                  exfalso; exact ow_79g_82 c58 c59
                · skip
                  refine pm_iload hC 0 dX11_findOwnSpans_81 rfl ?_
                  refine pm_bipush (v := 12) hC dX11_findOwnSpans_83 (by decide) ?_
                  refine pm_icmp_gt (tgt := 96) hC ⟨by exact ow_79g_81 c58, by exact ow_79g_74 c33 b35 b52⟩ ⟨by decide, by decide⟩ dX11_findOwnSpans_85 (by decide) (fun c60 => ?_) (fun c60 => ?_)
                  · skip
                    obtain ⟨x61, ei62⟩ : ∃ y : Int, x34 + 1 = y := ⟨_, rfl⟩
                    refine pm_iinc (y := x61) (lv' := [(3, (0, x61)), (4, (0, (x19 - y51))), (0, (3, 0)), (1, (0, a1)), (2, (0, x19))]) hC 4 dX11_findOwnSpans_96 (by decide) rfl ei62 rfl ?_
                    refine pm_goto (tgt := 41) hC dX11_findOwnSpans_99 (by decide) ?_
                    refine pm_lvsub [2, 3, 4, 0] (lv' := [(0, (3, 0)), (1, (0, a1)), (2, (0, x19)), (3, (0, x61))]) rfl ?_
                    exact ih47 _ (by exact ow_79g_76 hm45 c48 ei62) x61 V36 ⟨by exact ow_79g_77 b35 ei62, by exact ow_79g_78 c48 ei62⟩ hV37 hF38 e39 e40 rfl
                  · skip
                    exfalso; exact ow_79g_83 c58 c60
              · skip
                refine pm_aload_n hC 1 (by decide) dX11_findOwnSpans_67 rfl ?_
                refine pm_iload_n hC 2 dX11_findOwnSpans_68 rfl ?_
                refine pm_iload_n hC 4 dX11_findOwnSpans_69 rfl ?_
                refine pm_iload hC 0 dX11_findOwnSpans_70 rfl ?_
                refine pm_ineg hC dX11_findOwnSpans_72 ?_
                refine pm_callV (ci := 11) (as := [(0, a1), (0, x34), (0, (-(x19 - y51)))]) (st := []) hC 0 (uD_X11_trySpans_0 a1 x34 (-(x19 - y51)) ⟨by exact ow_79g_56 h0, by exact ow_79g_58 h0⟩ ⟨by exact ow_79g_84 b35, by exact ow_79g_85 c48⟩ ⟨by exact ow_79g_86 c58, by exact ow_79g_87 c54⟩) lm_X11_381 li_X11_trySpans (by decide) (by decide) rfl rfl rfl (by decide) rfl rfl (Nat.le_of_ble_eq_true rfl) ⟨Nat.le_refl _, Or.inl rfl⟩ dX11_findOwnSpans_73 ⟨rfl, hV37⟩ (fun r63 V64 hp65 => ?_)
                obtain ⟨rfl, hV66, hF67⟩ := hp65
                change pm_J X 76 [(4, (0, (x19 - y51))), (0, (3, 0)), (1, (0, a1)), (2, (0, x19)), (3, (0, x34))] [] 118 V64
                have hF69 := pm_ff.tr hF38 hF67 (by decide) (by decide)
                have e70 : V64 0 3 = 4 := by rw [hF67 0 3 (by decide) (by decide)]; exact e39
                have e71 : V64 4 4 = 7 := by rw [hF67 4 4 (by decide) (by decide)]; exact e40
                refine pm_iload hC 0 dX11_findOwnSpans_76 rfl ?_
                refine pm_if_le (tgt := 96) hC ⟨by exact ow_79g_80 c54, by exact ow_79g_88 c58⟩ dX11_findOwnSpans_78 (by decide) (fun c72 => ?_) (fun c72 => ?_)
                · skip
                  obtain ⟨x73, ei74⟩ : ∃ y : Int, x34 + 1 = y := ⟨_, rfl⟩
                  refine pm_iinc (y := x73) (lv' := [(3, (0, x73)), (4, (0, (x19 - y51))), (0, (3, 0)), (1, (0, a1)), (2, (0, x19))]) hC 4 dX11_findOwnSpans_96 (by decide) rfl ei74 rfl ?_
                  refine pm_goto (tgt := 41) hC dX11_findOwnSpans_99 (by decide) ?_
                  refine pm_lvsub [2, 3, 4, 0] (lv' := [(0, (3, 0)), (1, (0, a1)), (2, (0, x19)), (3, (0, x73))]) rfl ?_
                  exact ih47 _ (by exact ow_79g_76 hm45 c48 ei74) x73 V64 ⟨by exact ow_79g_77 b35 ei74, by exact ow_79g_78 c48 ei74⟩ hV66 hF69 e70 e71 rfl
                · skip
                  refine pm_iload hC 0 dX11_findOwnSpans_81 rfl ?_
                  refine pm_bipush (v := 12) hC dX11_findOwnSpans_83 (by decide) ?_
                  refine pm_icmp_gt (tgt := 96) hC ⟨by exact ow_79g_89 c72, by exact ow_79g_88 c58⟩ ⟨by decide, by decide⟩ dX11_findOwnSpans_85 (by decide) (fun c75 => ?_) (fun c75 => ?_)
                  · skip
                    exfalso; exact ow_79g_90 c58 c75
                  · skip
                    refine pm_aload_n hC 1 (by decide) dX11_findOwnSpans_88 rfl ?_
                    refine pm_iload_n hC 2 dX11_findOwnSpans_89 rfl ?_
                    refine pm_iload_n hC 4 dX11_findOwnSpans_90 rfl ?_
                    refine pm_iload hC 0 dX11_findOwnSpans_91 rfl ?_
                    refine pm_callV (ci := 11) (as := [(0, a1), (0, x34), (0, (x19 - y51))]) (st := []) hC 0 (uD_X11_trySpans_0 a1 x34 (x19 - y51) ⟨by exact ow_79g_56 h0, by exact ow_79g_58 h0⟩ ⟨by exact ow_79g_84 b35, by exact ow_79g_85 c48⟩ ⟨by exact ow_79g_91 c72, by exact ow_79g_92 c58⟩) lm_X11_381 li_X11_trySpans (by decide) (by decide) rfl rfl rfl (by decide) rfl rfl (Nat.le_of_ble_eq_true rfl) ⟨Nat.le_refl _, Or.inl rfl⟩ dX11_findOwnSpans_93 ⟨rfl, hV66⟩ (fun r76 V77 hp78 => ?_)
                    obtain ⟨rfl, hV79, hF80⟩ := hp78
                    change pm_J X 96 [(4, (0, (x19 - y51))), (0, (3, 0)), (1, (0, a1)), (2, (0, x19)), (3, (0, x34))] [] 118 V77
                    have hF82 := pm_ff.tr hF69 hF80 (by decide) (by decide)
                    have e83 : V77 0 3 = 4 := by rw [hF80 0 3 (by decide) (by decide)]; exact e70
                    have e84 : V77 4 4 = 7 := by rw [hF80 4 4 (by decide) (by decide)]; exact e71
                    obtain ⟨x85, ei86⟩ : ∃ y : Int, x34 + 1 = y := ⟨_, rfl⟩
                    refine pm_iinc (y := x85) (lv' := [(3, (0, x85)), (4, (0, (x19 - y51))), (0, (3, 0)), (1, (0, a1)), (2, (0, x19))]) hC 4 dX11_findOwnSpans_96 (by decide) rfl ei86 rfl ?_
                    refine pm_goto (tgt := 41) hC dX11_findOwnSpans_99 (by decide) ?_
                    refine pm_lvsub [2, 3, 4, 0] (lv' := [(0, (3, 0)), (1, (0, a1)), (2, (0, x19)), (3, (0, x85))]) rfl ?_
                    exact ih47 _ (by exact ow_79g_76 hm45 c48 ei86) x85 V77 ⟨by exact ow_79g_77 b35 ei86, by exact ow_79g_78 c48 ei86⟩ hV79 hF82 e83 e84 rfl
        refine pm_lvsub [1, 2, 3, 0] (lv' := [(0, (3, 0)), (1, (0, a1)), (2, (0, x19)), (3, (0, (-12)))]) rfl ?_
        exact L44 _ (-12) V21 ⟨by decide, by decide⟩ hV22 hF23 e24 e25 rfl
    refine pm_lvsub [1, 2, 0] (lv' := [(0, (3, 0)), (1, (0, a1)), (2, (0, 1))]) rfl ?_
    exact L29 _ 1 V8 ⟨by decide, by decide⟩ hV10 hF13 e15 e16 rfl
  · skip
    refine pm_getf (v := 87) hC 0 fl_X11_93 rfl rfl (by decide) rfl e1 dX11_findOwnSpans_12 ?_
    refine pm_iload_n hC 1 dX11_findOwnSpans_15 rfl ?_
    refine pm_iconst (v := 0) hC dX11_findOwnSpans_16 ?_
    refine pm_iconst (v := 0) hC dX11_findOwnSpans_17 ?_
    refine pm_aload_n hC 0 (by decide) dX11_findOwnSpans_18 rfl ?_
    have e87 : V0 0 3 = 4 := hV0.one 0 3 (by decide) (by decide) rfl
    refine pm_getf (v := 4) hC 0 fl_X11_24 rfl rfl (by decide) rfl e87 dX11_findOwnSpans_19 ?_
    have e88 : V0 4 4 = 7 := hV0.one 4 4 (by decide) (by decide) rfl
    refine pm_getf (v := 7) hC 4 fl_X11_192 rfl rfl (by decide) rfl e88 dX11_findOwnSpans_22 ?_
    refine pm_iload_n hC 1 dX11_findOwnSpans_25 rfl ?_
    obtain ⟨y89, e90⟩ : ∃ y, V0 7 (a1 : Int).toNat = y := ⟨_, rfl⟩
    have b91 := hV0.get 7 (a1 : Int).toNat (lo := 0) (hi := 16) (by decide) (show _ < 10 by exact ow_79g_55 h0) rfl
    rw [e90] at b91
    refine pm_iaload (len := 10) (v := y89) hC 7 rfl rfl (by decide) ⟨by exact ow_79g_56 h0, by exact ow_79g_57 h0⟩ (by decide) e90 dX11_findOwnSpans_26 ?_
    refine pm_callV (ci := 11) (as := [(3, 87), (0, a1), (0, 0), (0, 0), (0, y89)]) (st := []) hC 0 (fD_X11_gatherOdds_0_87 a1 0 0 y89 ⟨by exact ow_79g_56 h0, by exact ow_79g_58 h0⟩ ⟨by decide, by decide⟩ ⟨by decide, by decide⟩ ⟨by exact ow_79g_61 b91, by exact ow_79g_62 b91⟩) lm_X11_377 li_X11_gatherOdds (by decide) (by decide) rfl rfl rfl (by decide) rfl rfl (Nat.le_of_ble_eq_true rfl) ⟨Nat.le_refl _, Or.inl rfl⟩ dX11_findOwnSpans_27 ⟨rfl, ((hV0.put 0 14 (x := 0) (lo := (-2147483648)) (hi := 2147483647) rfl ⟨by decide, by decide⟩).put 0 15 (x := 0) (lo := (-2147483648)) (hi := 2147483647) rfl ⟨by decide, by decide⟩)⟩ (fun r92 V93 hp94 => ?_)
    obtain ⟨rfl, hV95, hF96, hE97⟩ := hp94
    change pm_J X 30 [(0, (3, 0)), (1, (0, a1))] [] 118 V93
    have hF98 := pm_ff.tr (((pm_ff.rf (cs := [74, 75, 76, 77, 80, 82, 85, 86, 88, 89]) (fs := [(0, 12), (0, 13), (0, 14), (0, 15), (73, 0), (73, 1), (73, 2), (73, 3), (73, 4), (73, 5), (73, 6), (73, 7), (73, 10), (73, 11), (73, 12), (73, 14), (79, 1), (81, 1), (84, 0), (87, 0)]) (V := V0)).upf 0 14 0 rfl).upf 0 15 0 rfl) hF96 (by decide) (by decide)
    have e99 : V93 0 12 = 87 := by rw [hF96 0 12 (by decide) (by decide)]; exact e1
    have e100 : V93 0 3 = 4 := by rw [hF96 0 3 (by decide) (by decide)]; exact e87
    have e101 : V93 4 4 = 7 := by rw [hF96 4 4 (by decide) (by decide)]; exact e88
    have e102 : V93 0 14 = 0 := by rw [hF96 0 14 (by decide) (by decide)]; rfl
    have e103 : V93 0 15 = 0 := by rw [hF96 0 15 (by decide) (by decide)]; rfl
    refine pm_iconst (v := 1) hC dX11_findOwnSpans_30 ?_
    refine pm_istore_n (lv' := [(2, (0, 1)), (0, (3, 0)), (1, (0, a1))]) hC dX11_findOwnSpans_31 (by decide) rfl ?_
    have L114 : ∀ (N116 : Nat) (x104 : Int) (V106 : pm_M), (1 ≤ x104 ∧ x104 ≤ 60) → pm_ok 0 90 V106 → pm_ff [74, 75, 76, 77, 80, 82, 85, 86, 88, 89] [(0, 12), (0, 13), (0, 14), (0, 15), (73, 0), (73, 1), (73, 2), (73, 3), (73, 4), (73, 5), (73, 6), (73, 7), (73, 10), (73, 11), (73, 12), (73, 14), (79, 1), (81, 1), (84, 0), (87, 0)] V0 V106 → V106 0 3 = 4 → V106 4 4 = 7 → (Int.toNat (60 - x104)) = N116 → pm_J X 32 [(0, (3, 0)), (1, (0, a1)), (2, (0, x104))] [] 118 V106 := by
      intro N116
      induction N116 using Nat.strongRecOn with
      | _ N116 ih117 =>
      intro x104 V106 b105 hV107 hF108 e109 e110 hm115
      refine pm_iload_n hC 2 dX11_findOwnSpans_32 rfl ?_
      refine pm_bipush (v := 24) hC dX11_findOwnSpans_33 (by decide) ?_
      refine pm_icmp_gt (tgt := 108) hC ⟨by exact ow_79g_65 b105, by exact ow_79g_66 b105⟩ ⟨by decide, by decide⟩ dX11_findOwnSpans_35 (by decide) (fun c118 => ?_) (fun c118 => ?_)
      · skip
        exact pm_vret hC hR ⟨rfl, hV107, hF108⟩ dX11_findOwnSpans_108
      · skip
        refine pm_bipush (v := (-12)) hC dX11_findOwnSpans_38 (by decide) ?_
        refine pm_istore_n (lv' := [(3, (0, (-12))), (0, (3, 0)), (1, (0, a1)), (2, (0, x104))]) hC dX11_findOwnSpans_40 (by decide) rfl ?_
        have L129 : ∀ (N131 : Nat) (x119 : Int) (V121 : pm_M), ((-12) ≤ x119 ∧ x119 ≤ 16) → pm_ok 0 90 V121 → pm_ff [74, 75, 76, 77, 80, 82, 85, 86, 88, 89] [(0, 12), (0, 13), (0, 14), (0, 15), (73, 0), (73, 1), (73, 2), (73, 3), (73, 4), (73, 5), (73, 6), (73, 7), (73, 10), (73, 11), (73, 12), (73, 14), (79, 1), (81, 1), (84, 0), (87, 0)] V0 V121 → V121 0 3 = 4 → V121 4 4 = 7 → (Int.toNat (16 - x119)) = N131 → pm_J X 41 [(0, (3, 0)), (1, (0, a1)), (2, (0, x104)), (3, (0, x119))] [] 118 V121 := by
          intro N131
          induction N131 using Nat.strongRecOn with
          | _ N131 ih132 =>
          intro x119 V121 b120 hV122 hF123 e124 e125 hm130
          refine pm_iload_n hC 3 dX11_findOwnSpans_41 rfl ?_
          refine pm_bipush (v := 12) hC dX11_findOwnSpans_42 (by decide) ?_
          refine pm_icmp_gt (tgt := 102) hC ⟨by exact ow_79g_67 b120, by exact ow_79g_68 b120⟩ ⟨by decide, by decide⟩ dX11_findOwnSpans_44 (by decide) (fun c133 => ?_) (fun c133 => ?_)
          · skip
            obtain ⟨x134, ei135⟩ : ∃ y : Int, x104 + 1 = y := ⟨_, rfl⟩
            refine pm_iinc (y := x134) (lv' := [(2, (0, x134)), (0, (3, 0)), (1, (0, a1)), (3, (0, x119))]) hC 2 dX11_findOwnSpans_102 (by decide) rfl ei135 rfl ?_
            refine pm_goto (tgt := 32) hC dX11_findOwnSpans_105 (by decide) ?_
            refine pm_lvsub [1, 2, 0] (lv' := [(0, (3, 0)), (1, (0, a1)), (2, (0, x134))]) rfl ?_
            exact ih117 _ (by exact ow_79g_69 hm115 c118 ei135) x134 V121 ⟨by exact ow_79g_70 b105 ei135, by exact ow_79g_71 c118 ei135⟩ hV122 hF123 e124 e125 rfl
          · skip
            refine pm_iload_n hC 2 dX11_findOwnSpans_47 rfl ?_
            refine pm_iload_n hC 3 dX11_findOwnSpans_48 rfl ?_
            refine pm_mabs hC 4214 4015 1018 4016 ⟨by exact ow_79g_67 b120, by exact ow_79g_72 c133⟩ (by decide) wL_X11_366 wS_mabs wI_math wC_mabs (Nat.le_of_ble_eq_true rfl) dX11_findOwnSpans_49 (fun y136 b137 => ?_)
            have b137 := And.intro b137.1.1 (And.intro b137.1.2 b137.2)
            refine pm_isub hC dX11_findOwnSpans_52 ?_
            refine pm_istore (lv' := [(4, (0, (x104 - y136))), (0, (3, 0)), (1, (0, a1)), (2, (0, x104)), (3, (0, x119))]) hC dX11_findOwnSpans_53 (by decide) rfl ?_
            refine pm_iload hC 0 dX11_findOwnSpans_55 rfl ?_
            refine pm_if_lt (tgt := 76) hC ⟨by exact ow_79g_73 b105 b137, by exact ow_79g_74 c118 b120 b137⟩ dX11_findOwnSpans_57 (by decide) (fun c139 => ?_) (fun c139 => ?_)
            · skip
              refine pm_iload hC 0 dX11_findOwnSpans_76 rfl ?_
              refine pm_if_le (tgt := 96) hC ⟨by exact ow_79g_73 b105 b137, by exact ow_79g_75 c139⟩ dX11_findOwnSpans_78 (by decide) (fun c140 => ?_) (fun c140 => ?_)
              · skip
                obtain ⟨x141, ei142⟩ : ∃ y : Int, x119 + 1 = y := ⟨_, rfl⟩
                refine pm_iinc (y := x141) (lv' := [(3, (0, x141)), (4, (0, (x104 - y136))), (0, (3, 0)), (1, (0, a1)), (2, (0, x104))]) hC 4 dX11_findOwnSpans_96 (by decide) rfl ei142 rfl ?_
                refine pm_goto (tgt := 41) hC dX11_findOwnSpans_99 (by decide) ?_
                refine pm_lvsub [2, 3, 4, 0] (lv' := [(0, (3, 0)), (1, (0, a1)), (2, (0, x104)), (3, (0, x141))]) rfl ?_
                exact ih132 _ (by exact ow_79g_76 hm130 c133 ei142) x141 V121 ⟨by exact ow_79g_77 b120 ei142, by exact ow_79g_78 c133 ei142⟩ hV122 hF123 e124 e125 rfl
              · skip
                exfalso; exact ow_79g_79 c139 c140
            · skip
              refine pm_iload hC 0 dX11_findOwnSpans_60 rfl ?_
              refine pm_bipush (v := 12) hC dX11_findOwnSpans_62 (by decide) ?_
              refine pm_icmp_gt (tgt := 76) hC ⟨by exact ow_79g_80 c139, by exact ow_79g_74 c118 b120 b137⟩ ⟨by decide, by decide⟩ dX11_findOwnSpans_64 (by decide) (fun c143 => ?_) (fun c143 => ?_)
              · skip
                refine pm_iload hC 0 dX11_findOwnSpans_76 rfl ?_
                refine pm_if_le (tgt := 96) hC ⟨by exact ow_79g_81 c143, by exact ow_79g_74 c118 b120 b137⟩ dX11_findOwnSpans_78 (by decide) (fun c144 => ?_) (fun c144 => ?_)
                · skip
                  exfalso; exact ow_79g_82 c143 c144
                · skip
                  refine pm_iload hC 0 dX11_findOwnSpans_81 rfl ?_
                  refine pm_bipush (v := 12) hC dX11_findOwnSpans_83 (by decide) ?_
                  refine pm_icmp_gt (tgt := 96) hC ⟨by exact ow_79g_81 c143, by exact ow_79g_74 c118 b120 b137⟩ ⟨by decide, by decide⟩ dX11_findOwnSpans_85 (by decide) (fun c145 => ?_) (fun c145 => ?_)
                  · skip
                    obtain ⟨x146, ei147⟩ : ∃ y : Int, x119 + 1 = y := ⟨_, rfl⟩
                    refine pm_iinc (y := x146) (lv' := [(3, (0, x146)), (4, (0, (x104 - y136))), (0, (3, 0)), (1, (0, a1)), (2, (0, x104))]) hC 4 dX11_findOwnSpans_96 (by decide) rfl ei147 rfl ?_
                    refine pm_goto (tgt := 41) hC dX11_findOwnSpans_99 (by decide) ?_
                    refine pm_lvsub [2, 3, 4, 0] (lv' := [(0, (3, 0)), (1, (0, a1)), (2, (0, x104)), (3, (0, x146))]) rfl ?_
                    exact ih132 _ (by exact ow_79g_76 hm130 c133 ei147) x146 V121 ⟨by exact ow_79g_77 b120 ei147, by exact ow_79g_78 c133 ei147⟩ hV122 hF123 e124 e125 rfl
                  · skip
                    exfalso; exact ow_79g_83 c143 c145
              · skip
                refine pm_aload_n hC 1 (by decide) dX11_findOwnSpans_67 rfl ?_
                refine pm_iload_n hC 2 dX11_findOwnSpans_68 rfl ?_
                refine pm_iload_n hC 4 dX11_findOwnSpans_69 rfl ?_
                refine pm_iload hC 0 dX11_findOwnSpans_70 rfl ?_
                refine pm_ineg hC dX11_findOwnSpans_72 ?_
                refine pm_callV (ci := 11) (as := [(0, a1), (0, x119), (0, (-(x104 - y136)))]) (st := []) hC 0 (uD_X11_trySpans_0 a1 x119 (-(x104 - y136)) ⟨by exact ow_79g_56 h0, by exact ow_79g_58 h0⟩ ⟨by exact ow_79g_84 b120, by exact ow_79g_85 c133⟩ ⟨by exact ow_79g_86 c143, by exact ow_79g_87 c139⟩) lm_X11_381 li_X11_trySpans (by decide) (by decide) rfl rfl rfl (by decide) rfl rfl (Nat.le_of_ble_eq_true rfl) ⟨Nat.le_refl _, Or.inl rfl⟩ dX11_findOwnSpans_73 ⟨rfl, hV122⟩ (fun r148 V149 hp150 => ?_)
                obtain ⟨rfl, hV151, hF152⟩ := hp150
                change pm_J X 76 [(4, (0, (x104 - y136))), (0, (3, 0)), (1, (0, a1)), (2, (0, x104)), (3, (0, x119))] [] 118 V149
                have hF154 := pm_ff.tr hF123 hF152 (by decide) (by decide)
                have e155 : V149 0 3 = 4 := by rw [hF152 0 3 (by decide) (by decide)]; exact e124
                have e156 : V149 4 4 = 7 := by rw [hF152 4 4 (by decide) (by decide)]; exact e125
                refine pm_iload hC 0 dX11_findOwnSpans_76 rfl ?_
                refine pm_if_le (tgt := 96) hC ⟨by exact ow_79g_80 c139, by exact ow_79g_88 c143⟩ dX11_findOwnSpans_78 (by decide) (fun c157 => ?_) (fun c157 => ?_)
                · skip
                  obtain ⟨x158, ei159⟩ : ∃ y : Int, x119 + 1 = y := ⟨_, rfl⟩
                  refine pm_iinc (y := x158) (lv' := [(3, (0, x158)), (4, (0, (x104 - y136))), (0, (3, 0)), (1, (0, a1)), (2, (0, x104))]) hC 4 dX11_findOwnSpans_96 (by decide) rfl ei159 rfl ?_
                  refine pm_goto (tgt := 41) hC dX11_findOwnSpans_99 (by decide) ?_
                  refine pm_lvsub [2, 3, 4, 0] (lv' := [(0, (3, 0)), (1, (0, a1)), (2, (0, x104)), (3, (0, x158))]) rfl ?_
                  exact ih132 _ (by exact ow_79g_76 hm130 c133 ei159) x158 V149 ⟨by exact ow_79g_77 b120 ei159, by exact ow_79g_78 c133 ei159⟩ hV151 hF154 e155 e156 rfl
                · skip
                  refine pm_iload hC 0 dX11_findOwnSpans_81 rfl ?_
                  refine pm_bipush (v := 12) hC dX11_findOwnSpans_83 (by decide) ?_
                  refine pm_icmp_gt (tgt := 96) hC ⟨by exact ow_79g_89 c157, by exact ow_79g_88 c143⟩ ⟨by decide, by decide⟩ dX11_findOwnSpans_85 (by decide) (fun c160 => ?_) (fun c160 => ?_)
                  · skip
                    exfalso; exact ow_79g_90 c143 c160
                  · skip
                    refine pm_aload_n hC 1 (by decide) dX11_findOwnSpans_88 rfl ?_
                    refine pm_iload_n hC 2 dX11_findOwnSpans_89 rfl ?_
                    refine pm_iload_n hC 4 dX11_findOwnSpans_90 rfl ?_
                    refine pm_iload hC 0 dX11_findOwnSpans_91 rfl ?_
                    refine pm_callV (ci := 11) (as := [(0, a1), (0, x119), (0, (x104 - y136))]) (st := []) hC 0 (uD_X11_trySpans_0 a1 x119 (x104 - y136) ⟨by exact ow_79g_56 h0, by exact ow_79g_58 h0⟩ ⟨by exact ow_79g_84 b120, by exact ow_79g_85 c133⟩ ⟨by exact ow_79g_91 c157, by exact ow_79g_92 c143⟩) lm_X11_381 li_X11_trySpans (by decide) (by decide) rfl rfl rfl (by decide) rfl rfl (Nat.le_of_ble_eq_true rfl) ⟨Nat.le_refl _, Or.inl rfl⟩ dX11_findOwnSpans_93 ⟨rfl, hV151⟩ (fun r161 V162 hp163 => ?_)
                    obtain ⟨rfl, hV164, hF165⟩ := hp163
                    change pm_J X 96 [(4, (0, (x104 - y136))), (0, (3, 0)), (1, (0, a1)), (2, (0, x104)), (3, (0, x119))] [] 118 V162
                    have hF167 := pm_ff.tr hF154 hF165 (by decide) (by decide)
                    have e168 : V162 0 3 = 4 := by rw [hF165 0 3 (by decide) (by decide)]; exact e155
                    have e169 : V162 4 4 = 7 := by rw [hF165 4 4 (by decide) (by decide)]; exact e156
                    obtain ⟨x170, ei171⟩ : ∃ y : Int, x119 + 1 = y := ⟨_, rfl⟩
                    refine pm_iinc (y := x170) (lv' := [(3, (0, x170)), (4, (0, (x104 - y136))), (0, (3, 0)), (1, (0, a1)), (2, (0, x104))]) hC 4 dX11_findOwnSpans_96 (by decide) rfl ei171 rfl ?_
                    refine pm_goto (tgt := 41) hC dX11_findOwnSpans_99 (by decide) ?_
                    refine pm_lvsub [2, 3, 4, 0] (lv' := [(0, (3, 0)), (1, (0, a1)), (2, (0, x104)), (3, (0, x170))]) rfl ?_
                    exact ih132 _ (by exact ow_79g_76 hm130 c133 ei171) x170 V162 ⟨by exact ow_79g_77 b120 ei171, by exact ow_79g_78 c133 ei171⟩ hV164 hF167 e168 e169 rfl
        refine pm_lvsub [1, 2, 3, 0] (lv' := [(0, (3, 0)), (1, (0, a1)), (2, (0, x104)), (3, (0, (-12)))]) rfl ?_
        exact L129 _ (-12) V106 ⟨by decide, by decide⟩ hV107 hF108 e109 e110 rfl
    refine pm_lvsub [1, 2, 0] (lv' := [(0, (3, 0)), (1, (0, a1)), (2, (0, 1))]) rfl ?_
    exact L114 _ 1 V93 ⟨by decide, by decide⟩ hV95 hF98 e100 e101 rfl
set_option maxHeartbeats 4000000 in
set_option maxRecDepth 100000 in
theorem uD_X11_findOwnOdds_0 (a1 : Int) (h0 : 0 ≤ a1 ∧ a1 ≤ 9) : pm_K 6 yX11_findOwnOdds cX11_findOwnOdds 6 (some .int) (fun av V => av = [(3, 0), (0, a1)] ∧ pm_ok 0 90 V) (fun _ V r V' => ∃ y, r = some (0, y) ∧ (0 ≤ y ∧ y ≤ 16) ∧ pm_ok 0 90 V' ∧ pm_ff [74, 75, 76, 77, 80, 82, 85, 86, 88, 89] [(0, 12), (0, 13), (73, 0), (73, 1), (73, 2), (73, 3), (73, 4), (73, 5), (73, 6), (73, 7), (73, 10), (73, 11), (73, 12), (73, 14), (79, 1), (81, 1), (84, 0), (87, 0)] V V') := by
  refine pm_MT.of (by decide) ⟨Nat.le_refl _, by decide⟩ (fun av V h => by rw [h.1]; exact (by decide : pm_words [(3, 0), (0, 0)] ≤ 6)) ?_
  rintro X av V0 hC - hR ⟨rfl, hV0⟩
  change pm_J X 0 [(0, (3, 0)), (1, (0, a1))] [] 118 V0
  refine pm_aload_n hC 0 (by decide) dX11_findOwnOdds_0 rfl ?_
  have e1 : V0 0 3 = 4 := hV0.one 0 3 (by decide) (by decide) rfl
  refine pm_getf (v := 4) hC 0 fl_X11_24 rfl rfl (by decide) rfl e1 dX11_findOwnOdds_1 ?_
  have e2 : V0 4 2 = 5 := hV0.one 4 2 (by decide) (by decide) rfl
  refine pm_getf (v := 5) hC 4 fl_X11_186 rfl rfl (by decide) rfl e2 dX11_findOwnOdds_4 ?_
  refine pm_iload_n hC 1 dX11_findOwnOdds_7 rfl ?_
  obtain ⟨y3, e4⟩ : ∃ y, V0 5 (a1 : Int).toNat = y := ⟨_, rfl⟩
  have b5 := hV0.get 5 (a1 : Int).toNat (lo := (-30)) (hi := 30) (by decide) (show _ < 10 by exact ow_79g_55 h0) rfl
  rw [e4] at b5
  refine pm_iaload (len := 10) (v := y3) hC 5 rfl rfl (by decide) ⟨by exact ow_79g_56 h0, by exact ow_79g_57 h0⟩ (by decide) e4 dX11_findOwnOdds_8 ?_
  refine pm_istore_n (lv' := [(2, (0, y3)), (0, (3, 0)), (1, (0, a1))]) hC dX11_findOwnOdds_9 (by decide) rfl ?_
  refine pm_aload_n hC 1 (by decide) dX11_findOwnOdds_10 rfl ?_
  refine pm_getf (v := 4) hC 0 fl_X11_24 rfl rfl (by decide) rfl e1 dX11_findOwnOdds_11 ?_
  have e6 : V0 4 3 = 6 := hV0.one 4 3 (by decide) (by decide) rfl
  refine pm_getf (v := 6) hC 4 fl_X11_189 rfl rfl (by decide) rfl e6 dX11_findOwnOdds_14 ?_
  refine pm_iload_n hC 2 dX11_findOwnOdds_17 rfl ?_
  obtain ⟨y7, e8⟩ : ∃ y, V0 6 (a1 : Int).toNat = y := ⟨_, rfl⟩
  have b9 := hV0.get 6 (a1 : Int).toNat (lo := (-30)) (hi := 30) (by decide) (show _ < 10 by exact ow_79g_55 h0) rfl
  rw [e8] at b9
  refine pm_iaload (len := 10) (v := y7) hC 6 rfl rfl (by decide) ⟨by exact ow_79g_56 h0, by exact ow_79g_57 h0⟩ (by decide) e8 dX11_findOwnOdds_18 ?_
  refine pm_istore_n (lv' := [(3, (0, y7)), (2, (0, y3)), (0, (3, 0)), (1, (0, a1))]) hC dX11_findOwnOdds_19 (by decide) rfl ?_
  refine pm_iconst (v := 0) hC dX11_findOwnOdds_20 ?_
  refine pm_istore (lv' := [(4, (0, 0)), (3, (0, y7)), (2, (0, y3)), (0, (3, 0)), (1, (0, a1))]) hC dX11_findOwnOdds_21 (by decide) rfl ?_
  refine pm_aload_n hC 3 (by decide) dX11_findOwnOdds_23 rfl ?_
  refine pm_aload_n hC 3 (by decide) dX11_findOwnOdds_24 rfl ?_
  rcases hV0.get2 0 12 (lo := 84) (hi := 87) (by decide) (by decide) rfl with e10 | e10
  · skip
    refine pm_getf (v := 84) hC 0 fl_X11_93 rfl rfl (by decide) rfl e10 dX11_findOwnOdds_25 ?_
    refine pm_iload_n hC 4 dX11_findOwnOdds_28 rfl ?_
    refine pm_iload_n hC 2 dX11_findOwnOdds_29 rfl ?_
    refine pm_iload_n hC 1 dX11_findOwnOdds_30 rfl ?_
    refine pm_iconst (v := 0) hC dX11_findOwnOdds_31 ?_
    refine pm_callV (ci := 11) (as := [(3, 84), (0, a1), (0, y3), (0, y7), (0, 0)]) (st := []) hC 0 (fD_X11_gatherOdds_0_84 a1 y3 y7 0 ⟨by exact ow_79g_56 h0, by exact ow_79g_58 h0⟩ ⟨by exact ow_79g_46 b5, by exact ow_79g_47 b5⟩ ⟨by exact ow_79g_46 b9, by exact ow_79g_47 b9⟩ ⟨by decide, by decide⟩) lm_X11_377 li_X11_gatherOdds (by decide) (by decide) rfl rfl rfl (by decide) rfl rfl (Nat.le_of_ble_eq_true rfl) ⟨Nat.le_refl _, Or.inl rfl⟩ dX11_findOwnOdds_32 ⟨rfl, hV0⟩ (fun r11 V12 hp13 => ?_)
    obtain ⟨rfl, hV14, hF15, hE16⟩ := hp13
    change pm_J X 35 [(4, (0, 0)), (3, (0, y7)), (2, (0, y3)), (0, (3, 0)), (1, (0, a1))] [] 118 V12
    have hF17 := pm_ff.tr (pm_ff.rf (cs := [74, 75, 76, 77, 80, 82, 85, 86, 88, 89]) (fs := [(0, 12), (0, 13), (73, 0), (73, 1), (73, 2), (73, 3), (73, 4), (73, 5), (73, 6), (73, 7), (73, 10), (73, 11), (73, 12), (73, 14), (79, 1), (81, 1), (84, 0), (87, 0)]) (V := V0)) hF15 (by decide) (by decide)
    have e18 : V12 0 3 = 4 := by rw [hF15 0 3 (by decide) (by decide)]; exact e1
    have e19 : V12 4 2 = 5 := by rw [hF15 4 2 (by decide) (by decide)]; exact e2
    have e20 : V12 4 3 = 6 := by rw [hF15 4 3 (by decide) (by decide)]; exact e6
    have e21 : V12 0 12 = 84 := by rw [hF15 0 12 (by decide) (by decide)]; exact e10
    refine pm_iconst (v := 1) hC dX11_findOwnOdds_35 ?_
    refine pm_istore (lv' := [(5, (0, 1)), (4, (0, 0)), (3, (0, y7)), (2, (0, y3)), (0, (3, 0)), (1, (0, a1))]) hC dX11_findOwnOdds_36 (by decide) rfl ?_
    have L35 : ∀ (N37 : Nat) (x22 : Int) (x24 : Int) (V26 : pm_M), (0 ≤ x22 ∧ x22 ≤ 16) → (1 ≤ x24 ∧ x24 ≤ 60) → pm_ok 0 90 V26 → pm_ff [74, 75, 76, 77, 80, 82, 85, 86, 88, 89] [(0, 12), (0, 13), (73, 0), (73, 1), (73, 2), (73, 3), (73, 4), (73, 5), (73, 6), (73, 7), (73, 10), (73, 11), (73, 12), (73, 14), (79, 1), (81, 1), (84, 0), (87, 0)] V0 V26 → V26 0 3 = 4 → V26 4 2 = 5 → V26 4 3 = 6 → (Int.toNat (60 - x24)) = N37 → pm_J X 38 [(0, (3, 0)), (1, (0, a1)), (2, (0, y3)), (3, (0, y7)), (4, (0, x22)), (5, (0, x24))] [] 118 V26 := by
      intro N37
      induction N37 using Nat.strongRecOn with
      | _ N37 ih38 =>
      intro x22 x24 V26 b23 b25 hV27 hF28 e29 e30 e31 hm36
      refine pm_iload hC 5 dX11_findOwnOdds_38 rfl ?_
      refine pm_bipush (v := 16) hC dX11_findOwnOdds_40 (by decide) ?_
      refine pm_icmp_gt (tgt := 75) hC ⟨by exact ow_79g_65 b25, by exact ow_79g_66 b25⟩ ⟨by decide, by decide⟩ dX11_findOwnOdds_42 (by decide) (fun c39 => ?_) (fun c39 => ?_)
      · skip
        refine pm_iload hC 4 dX11_findOwnOdds_75 rfl ?_
        exact pm_iret hC hR pm_nar0 ⟨x22, rfl, ⟨by exact ow_79g_93 b23, by exact ow_79g_94 b23⟩, hV27, hF28⟩ dX11_findOwnOdds_77
      · skip
        refine pm_aload_n hC 0 (by decide) dX11_findOwnOdds_45 rfl ?_
        refine pm_aload_n hC 0 (by decide) dX11_findOwnOdds_46 rfl ?_
        rcases hV27.get2 0 13 (lo := 84) (hi := 87) (by decide) (by decide) rfl with e40 | e40
        · skip
          refine pm_getf (v := 84) hC 0 fl_X11_97 rfl rfl (by decide) rfl e40 dX11_findOwnOdds_47 ?_
          refine pm_iload_n hC 1 dX11_findOwnOdds_50 rfl ?_
          refine pm_iload_n hC 2 dX11_findOwnOdds_51 rfl ?_
          refine pm_iload_n hC 3 dX11_findOwnOdds_52 rfl ?_
          refine pm_iload hC 5 dX11_findOwnOdds_53 rfl ?_
          refine pm_callV (ci := 11) (as := [(3, 84), (0, a1), (0, y3), (0, y7), (0, x24)]) (st := []) hC 0 (fD_X11_gatherOdds_0_84 a1 y3 y7 x24 ⟨by exact ow_79g_56 h0, by exact ow_79g_58 h0⟩ ⟨by exact ow_79g_46 b5, by exact ow_79g_47 b5⟩ ⟨by exact ow_79g_46 b9, by exact ow_79g_47 b9⟩ ⟨by exact ow_79g_65 b25, by exact ow_79g_95 c39⟩) lm_X11_377 li_X11_gatherOdds (by decide) (by decide) rfl rfl rfl (by decide) rfl rfl (Nat.le_of_ble_eq_true rfl) ⟨Nat.le_refl _, Or.inl rfl⟩ dX11_findOwnOdds_55 ⟨rfl, hV27⟩ (fun r41 V42 hp43 => ?_)
          obtain ⟨rfl, hV44, hF45, hE46⟩ := hp43
          change pm_J X 58 [(0, (3, 0)), (1, (0, a1)), (2, (0, y3)), (3, (0, y7)), (4, (0, x22)), (5, (0, x24))] [] 118 V42
          have hF47 := pm_ff.tr hF28 hF45 (by decide) (by decide)
          have e48 : V42 0 3 = 4 := by rw [hF45 0 3 (by decide) (by decide)]; exact e29
          have e49 : V42 4 2 = 5 := by rw [hF45 4 2 (by decide) (by decide)]; exact e30
          have e50 : V42 4 3 = 6 := by rw [hF45 4 3 (by decide) (by decide)]; exact e31
          have e51 : V42 0 13 = 84 := by rw [hF45 0 13 (by decide) (by decide)]; exact e40
          refine pm_aload_n hC 0 (by decide) dX11_findOwnOdds_58 rfl ?_
          refine pm_callV (ci := 11) (as := []) (st := []) hC 0 uD_X11_keepsTried_0 lm_X11_276 li_X11_keepsTried (by decide) (by decide) rfl rfl rfl (by decide) rfl rfl (Nat.le_of_ble_eq_true rfl) ⟨Nat.le_refl _, Or.inl rfl⟩ dX11_findOwnOdds_59 ⟨rfl, hV44⟩ (fun r52 V53 hp54 => ?_)
          obtain ⟨y55, rfl, b56, hV57, hF58⟩ := hp54
          change pm_J X 62 [(0, (3, 0)), (1, (0, a1)), (2, (0, y3)), (3, (0, y7)), (4, (0, x22)), (5, (0, x24))] [(0, y55)] 118 V53
          have hF60 := pm_ff.tr hF47 hF58 (by decide) (by decide)
          have e61 : V53 0 3 = 4 := by rw [hF58 0 3 (by decide) (by decide)]; exact e48
          have e62 : V53 4 2 = 5 := by rw [hF58 4 2 (by decide) (by decide)]; exact e49
          have e63 : V53 4 3 = 6 := by rw [hF58 4 3 (by decide) (by decide)]; exact e50
          refine pm_if_eq (tgt := 69) hC ⟨by exact ow_79g_9 b56, by exact ow_79g_10 b56⟩ dX11_findOwnOdds_62 (by decide) (fun c64 => ?_) (fun c64 => ?_)
          · skip
            obtain ⟨x65, ei66⟩ : ∃ y : Int, x24 + 1 = y := ⟨_, rfl⟩
            refine pm_iinc (y := x65) (lv' := [(5, (0, x65)), (0, (3, 0)), (1, (0, a1)), (2, (0, y3)), (3, (0, y7)), (4, (0, x22))]) hC 5 dX11_findOwnOdds_69 (by decide) rfl ei66 rfl ?_
            refine pm_goto (tgt := 38) hC dX11_findOwnOdds_72 (by decide) ?_
            refine pm_lvsub [1, 2, 3, 4, 5, 0] (lv' := [(0, (3, 0)), (1, (0, a1)), (2, (0, y3)), (3, (0, y7)), (4, (0, x22)), (5, (0, x65))]) rfl ?_
            exact ih38 _ (by exact ow_79g_96 hm36 c39 ei66) x22 x65 V53 ⟨by exact ow_79g_93 b23, by exact ow_79g_94 b23⟩ ⟨by exact ow_79g_70 b25 ei66, by exact ow_79g_97 c39 ei66⟩ hV57 hF60 e61 e62 e63 rfl
          · skip
            refine pm_iload hC 5 dX11_findOwnOdds_65 rfl ?_
            refine pm_istore (lv' := [(4, (0, x24)), (0, (3, 0)), (1, (0, a1)), (2, (0, y3)), (3, (0, y7)), (5, (0, x24))]) hC dX11_findOwnOdds_67 (by decide) rfl ?_
            obtain ⟨x67, ei68⟩ : ∃ y : Int, x24 + 1 = y := ⟨_, rfl⟩
            refine pm_iinc (y := x67) (lv' := [(5, (0, x67)), (4, (0, x24)), (0, (3, 0)), (1, (0, a1)), (2, (0, y3)), (3, (0, y7))]) hC 5 dX11_findOwnOdds_69 (by decide) rfl ei68 rfl ?_
            refine pm_goto (tgt := 38) hC dX11_findOwnOdds_72 (by decide) ?_
            refine pm_lvsub [2, 3, 4, 5, 1, 0] (lv' := [(0, (3, 0)), (1, (0, a1)), (2, (0, y3)), (3, (0, y7)), (4, (0, x24)), (5, (0, x67))]) rfl ?_
            exact ih38 _ (by exact ow_79g_96 hm36 c39 ei68) x24 x67 V53 ⟨by exact ow_79g_98 b25, by exact ow_79g_99 c39⟩ ⟨by exact ow_79g_70 b25 ei68, by exact ow_79g_97 c39 ei68⟩ hV57 hF60 e61 e62 e63 rfl
        · skip
          refine pm_getf (v := 87) hC 0 fl_X11_97 rfl rfl (by decide) rfl e40 dX11_findOwnOdds_47 ?_
          refine pm_iload_n hC 1 dX11_findOwnOdds_50 rfl ?_
          refine pm_iload_n hC 2 dX11_findOwnOdds_51 rfl ?_
          refine pm_iload_n hC 3 dX11_findOwnOdds_52 rfl ?_
          refine pm_iload hC 5 dX11_findOwnOdds_53 rfl ?_
          refine pm_callV (ci := 11) (as := [(3, 87), (0, a1), (0, y3), (0, y7), (0, x24)]) (st := []) hC 0 (fD_X11_gatherOdds_0_87 a1 y3 y7 x24 ⟨by exact ow_79g_56 h0, by exact ow_79g_58 h0⟩ ⟨by exact ow_79g_46 b5, by exact ow_79g_47 b5⟩ ⟨by exact ow_79g_46 b9, by exact ow_79g_47 b9⟩ ⟨by exact ow_79g_65 b25, by exact ow_79g_95 c39⟩) lm_X11_377 li_X11_gatherOdds (by decide) (by decide) rfl rfl rfl (by decide) rfl rfl (Nat.le_of_ble_eq_true rfl) ⟨Nat.le_refl _, Or.inl rfl⟩ dX11_findOwnOdds_55 ⟨rfl, hV27⟩ (fun r69 V70 hp71 => ?_)
          obtain ⟨rfl, hV72, hF73, hE74⟩ := hp71
          change pm_J X 58 [(0, (3, 0)), (1, (0, a1)), (2, (0, y3)), (3, (0, y7)), (4, (0, x22)), (5, (0, x24))] [] 118 V70
          have hF75 := pm_ff.tr hF28 hF73 (by decide) (by decide)
          have e76 : V70 0 3 = 4 := by rw [hF73 0 3 (by decide) (by decide)]; exact e29
          have e77 : V70 4 2 = 5 := by rw [hF73 4 2 (by decide) (by decide)]; exact e30
          have e78 : V70 4 3 = 6 := by rw [hF73 4 3 (by decide) (by decide)]; exact e31
          have e79 : V70 0 13 = 87 := by rw [hF73 0 13 (by decide) (by decide)]; exact e40
          refine pm_aload_n hC 0 (by decide) dX11_findOwnOdds_58 rfl ?_
          refine pm_callV (ci := 11) (as := []) (st := []) hC 0 uD_X11_keepsTried_0 lm_X11_276 li_X11_keepsTried (by decide) (by decide) rfl rfl rfl (by decide) rfl rfl (Nat.le_of_ble_eq_true rfl) ⟨Nat.le_refl _, Or.inl rfl⟩ dX11_findOwnOdds_59 ⟨rfl, hV72⟩ (fun r80 V81 hp82 => ?_)
          obtain ⟨y83, rfl, b84, hV85, hF86⟩ := hp82
          change pm_J X 62 [(0, (3, 0)), (1, (0, a1)), (2, (0, y3)), (3, (0, y7)), (4, (0, x22)), (5, (0, x24))] [(0, y83)] 118 V81
          have hF88 := pm_ff.tr hF75 hF86 (by decide) (by decide)
          have e89 : V81 0 3 = 4 := by rw [hF86 0 3 (by decide) (by decide)]; exact e76
          have e90 : V81 4 2 = 5 := by rw [hF86 4 2 (by decide) (by decide)]; exact e77
          have e91 : V81 4 3 = 6 := by rw [hF86 4 3 (by decide) (by decide)]; exact e78
          refine pm_if_eq (tgt := 69) hC ⟨by exact ow_79g_9 b84, by exact ow_79g_10 b84⟩ dX11_findOwnOdds_62 (by decide) (fun c92 => ?_) (fun c92 => ?_)
          · skip
            obtain ⟨x93, ei94⟩ : ∃ y : Int, x24 + 1 = y := ⟨_, rfl⟩
            refine pm_iinc (y := x93) (lv' := [(5, (0, x93)), (0, (3, 0)), (1, (0, a1)), (2, (0, y3)), (3, (0, y7)), (4, (0, x22))]) hC 5 dX11_findOwnOdds_69 (by decide) rfl ei94 rfl ?_
            refine pm_goto (tgt := 38) hC dX11_findOwnOdds_72 (by decide) ?_
            refine pm_lvsub [1, 2, 3, 4, 5, 0] (lv' := [(0, (3, 0)), (1, (0, a1)), (2, (0, y3)), (3, (0, y7)), (4, (0, x22)), (5, (0, x93))]) rfl ?_
            exact ih38 _ (by exact ow_79g_96 hm36 c39 ei94) x22 x93 V81 ⟨by exact ow_79g_93 b23, by exact ow_79g_94 b23⟩ ⟨by exact ow_79g_70 b25 ei94, by exact ow_79g_97 c39 ei94⟩ hV85 hF88 e89 e90 e91 rfl
          · skip
            refine pm_iload hC 5 dX11_findOwnOdds_65 rfl ?_
            refine pm_istore (lv' := [(4, (0, x24)), (0, (3, 0)), (1, (0, a1)), (2, (0, y3)), (3, (0, y7)), (5, (0, x24))]) hC dX11_findOwnOdds_67 (by decide) rfl ?_
            obtain ⟨x95, ei96⟩ : ∃ y : Int, x24 + 1 = y := ⟨_, rfl⟩
            refine pm_iinc (y := x95) (lv' := [(5, (0, x95)), (4, (0, x24)), (0, (3, 0)), (1, (0, a1)), (2, (0, y3)), (3, (0, y7))]) hC 5 dX11_findOwnOdds_69 (by decide) rfl ei96 rfl ?_
            refine pm_goto (tgt := 38) hC dX11_findOwnOdds_72 (by decide) ?_
            refine pm_lvsub [2, 3, 4, 5, 1, 0] (lv' := [(0, (3, 0)), (1, (0, a1)), (2, (0, y3)), (3, (0, y7)), (4, (0, x24)), (5, (0, x95))]) rfl ?_
            exact ih38 _ (by exact ow_79g_96 hm36 c39 ei96) x24 x95 V81 ⟨by exact ow_79g_98 b25, by exact ow_79g_99 c39⟩ ⟨by exact ow_79g_70 b25 ei96, by exact ow_79g_97 c39 ei96⟩ hV85 hF88 e89 e90 e91 rfl
    refine pm_lvsub [4, 5, 3, 2, 1, 0] (lv' := [(0, (3, 0)), (1, (0, a1)), (2, (0, y3)), (3, (0, y7)), (4, (0, 0)), (5, (0, 1))]) rfl ?_
    exact L35 _ 0 1 V12 ⟨by decide, by decide⟩ ⟨by decide, by decide⟩ hV14 hF17 e18 e19 e20 rfl
  · skip
    refine pm_getf (v := 87) hC 0 fl_X11_93 rfl rfl (by decide) rfl e10 dX11_findOwnOdds_25 ?_
    refine pm_iload_n hC 4 dX11_findOwnOdds_28 rfl ?_
    refine pm_iload_n hC 2 dX11_findOwnOdds_29 rfl ?_
    refine pm_iload_n hC 1 dX11_findOwnOdds_30 rfl ?_
    refine pm_iconst (v := 0) hC dX11_findOwnOdds_31 ?_
    refine pm_callV (ci := 11) (as := [(3, 87), (0, a1), (0, y3), (0, y7), (0, 0)]) (st := []) hC 0 (fD_X11_gatherOdds_0_87 a1 y3 y7 0 ⟨by exact ow_79g_56 h0, by exact ow_79g_58 h0⟩ ⟨by exact ow_79g_46 b5, by exact ow_79g_47 b5⟩ ⟨by exact ow_79g_46 b9, by exact ow_79g_47 b9⟩ ⟨by decide, by decide⟩) lm_X11_377 li_X11_gatherOdds (by decide) (by decide) rfl rfl rfl (by decide) rfl rfl (Nat.le_of_ble_eq_true rfl) ⟨Nat.le_refl _, Or.inl rfl⟩ dX11_findOwnOdds_32 ⟨rfl, hV0⟩ (fun r97 V98 hp99 => ?_)
    obtain ⟨rfl, hV100, hF101, hE102⟩ := hp99
    change pm_J X 35 [(4, (0, 0)), (3, (0, y7)), (2, (0, y3)), (0, (3, 0)), (1, (0, a1))] [] 118 V98
    have hF103 := pm_ff.tr (pm_ff.rf (cs := [74, 75, 76, 77, 80, 82, 85, 86, 88, 89]) (fs := [(0, 12), (0, 13), (73, 0), (73, 1), (73, 2), (73, 3), (73, 4), (73, 5), (73, 6), (73, 7), (73, 10), (73, 11), (73, 12), (73, 14), (79, 1), (81, 1), (84, 0), (87, 0)]) (V := V0)) hF101 (by decide) (by decide)
    have e104 : V98 0 3 = 4 := by rw [hF101 0 3 (by decide) (by decide)]; exact e1
    have e105 : V98 4 2 = 5 := by rw [hF101 4 2 (by decide) (by decide)]; exact e2
    have e106 : V98 4 3 = 6 := by rw [hF101 4 3 (by decide) (by decide)]; exact e6
    have e107 : V98 0 12 = 87 := by rw [hF101 0 12 (by decide) (by decide)]; exact e10
    refine pm_iconst (v := 1) hC dX11_findOwnOdds_35 ?_
    refine pm_istore (lv' := [(5, (0, 1)), (4, (0, 0)), (3, (0, y7)), (2, (0, y3)), (0, (3, 0)), (1, (0, a1))]) hC dX11_findOwnOdds_36 (by decide) rfl ?_
    have L121 : ∀ (N123 : Nat) (x108 : Int) (x110 : Int) (V112 : pm_M), (0 ≤ x108 ∧ x108 ≤ 16) → (1 ≤ x110 ∧ x110 ≤ 60) → pm_ok 0 90 V112 → pm_ff [74, 75, 76, 77, 80, 82, 85, 86, 88, 89] [(0, 12), (0, 13), (73, 0), (73, 1), (73, 2), (73, 3), (73, 4), (73, 5), (73, 6), (73, 7), (73, 10), (73, 11), (73, 12), (73, 14), (79, 1), (81, 1), (84, 0), (87, 0)] V0 V112 → V112 0 3 = 4 → V112 4 2 = 5 → V112 4 3 = 6 → (Int.toNat (60 - x110)) = N123 → pm_J X 38 [(0, (3, 0)), (1, (0, a1)), (2, (0, y3)), (3, (0, y7)), (4, (0, x108)), (5, (0, x110))] [] 118 V112 := by
      intro N123
      induction N123 using Nat.strongRecOn with
      | _ N123 ih124 =>
      intro x108 x110 V112 b109 b111 hV113 hF114 e115 e116 e117 hm122
      refine pm_iload hC 5 dX11_findOwnOdds_38 rfl ?_
      refine pm_bipush (v := 16) hC dX11_findOwnOdds_40 (by decide) ?_
      refine pm_icmp_gt (tgt := 75) hC ⟨by exact ow_79g_65 b111, by exact ow_79g_66 b111⟩ ⟨by decide, by decide⟩ dX11_findOwnOdds_42 (by decide) (fun c125 => ?_) (fun c125 => ?_)
      · skip
        refine pm_iload hC 4 dX11_findOwnOdds_75 rfl ?_
        exact pm_iret hC hR pm_nar0 ⟨x108, rfl, ⟨by exact ow_79g_93 b109, by exact ow_79g_94 b109⟩, hV113, hF114⟩ dX11_findOwnOdds_77
      · skip
        refine pm_aload_n hC 0 (by decide) dX11_findOwnOdds_45 rfl ?_
        refine pm_aload_n hC 0 (by decide) dX11_findOwnOdds_46 rfl ?_
        rcases hV113.get2 0 13 (lo := 84) (hi := 87) (by decide) (by decide) rfl with e126 | e126
        · skip
          refine pm_getf (v := 84) hC 0 fl_X11_97 rfl rfl (by decide) rfl e126 dX11_findOwnOdds_47 ?_
          refine pm_iload_n hC 1 dX11_findOwnOdds_50 rfl ?_
          refine pm_iload_n hC 2 dX11_findOwnOdds_51 rfl ?_
          refine pm_iload_n hC 3 dX11_findOwnOdds_52 rfl ?_
          refine pm_iload hC 5 dX11_findOwnOdds_53 rfl ?_
          refine pm_callV (ci := 11) (as := [(3, 84), (0, a1), (0, y3), (0, y7), (0, x110)]) (st := []) hC 0 (fD_X11_gatherOdds_0_84 a1 y3 y7 x110 ⟨by exact ow_79g_56 h0, by exact ow_79g_58 h0⟩ ⟨by exact ow_79g_46 b5, by exact ow_79g_47 b5⟩ ⟨by exact ow_79g_46 b9, by exact ow_79g_47 b9⟩ ⟨by exact ow_79g_65 b111, by exact ow_79g_95 c125⟩) lm_X11_377 li_X11_gatherOdds (by decide) (by decide) rfl rfl rfl (by decide) rfl rfl (Nat.le_of_ble_eq_true rfl) ⟨Nat.le_refl _, Or.inl rfl⟩ dX11_findOwnOdds_55 ⟨rfl, hV113⟩ (fun r127 V128 hp129 => ?_)
          obtain ⟨rfl, hV130, hF131, hE132⟩ := hp129
          change pm_J X 58 [(0, (3, 0)), (1, (0, a1)), (2, (0, y3)), (3, (0, y7)), (4, (0, x108)), (5, (0, x110))] [] 118 V128
          have hF133 := pm_ff.tr hF114 hF131 (by decide) (by decide)
          have e134 : V128 0 3 = 4 := by rw [hF131 0 3 (by decide) (by decide)]; exact e115
          have e135 : V128 4 2 = 5 := by rw [hF131 4 2 (by decide) (by decide)]; exact e116
          have e136 : V128 4 3 = 6 := by rw [hF131 4 3 (by decide) (by decide)]; exact e117
          have e137 : V128 0 13 = 84 := by rw [hF131 0 13 (by decide) (by decide)]; exact e126
          refine pm_aload_n hC 0 (by decide) dX11_findOwnOdds_58 rfl ?_
          refine pm_callV (ci := 11) (as := []) (st := []) hC 0 uD_X11_keepsTried_0 lm_X11_276 li_X11_keepsTried (by decide) (by decide) rfl rfl rfl (by decide) rfl rfl (Nat.le_of_ble_eq_true rfl) ⟨Nat.le_refl _, Or.inl rfl⟩ dX11_findOwnOdds_59 ⟨rfl, hV130⟩ (fun r138 V139 hp140 => ?_)
          obtain ⟨y141, rfl, b142, hV143, hF144⟩ := hp140
          change pm_J X 62 [(0, (3, 0)), (1, (0, a1)), (2, (0, y3)), (3, (0, y7)), (4, (0, x108)), (5, (0, x110))] [(0, y141)] 118 V139
          have hF146 := pm_ff.tr hF133 hF144 (by decide) (by decide)
          have e147 : V139 0 3 = 4 := by rw [hF144 0 3 (by decide) (by decide)]; exact e134
          have e148 : V139 4 2 = 5 := by rw [hF144 4 2 (by decide) (by decide)]; exact e135
          have e149 : V139 4 3 = 6 := by rw [hF144 4 3 (by decide) (by decide)]; exact e136
          refine pm_if_eq (tgt := 69) hC ⟨by exact ow_79g_9 b142, by exact ow_79g_10 b142⟩ dX11_findOwnOdds_62 (by decide) (fun c150 => ?_) (fun c150 => ?_)
          · skip
            obtain ⟨x151, ei152⟩ : ∃ y : Int, x110 + 1 = y := ⟨_, rfl⟩
            refine pm_iinc (y := x151) (lv' := [(5, (0, x151)), (0, (3, 0)), (1, (0, a1)), (2, (0, y3)), (3, (0, y7)), (4, (0, x108))]) hC 5 dX11_findOwnOdds_69 (by decide) rfl ei152 rfl ?_
            refine pm_goto (tgt := 38) hC dX11_findOwnOdds_72 (by decide) ?_
            refine pm_lvsub [1, 2, 3, 4, 5, 0] (lv' := [(0, (3, 0)), (1, (0, a1)), (2, (0, y3)), (3, (0, y7)), (4, (0, x108)), (5, (0, x151))]) rfl ?_
            exact ih124 _ (by exact ow_79g_96 hm122 c125 ei152) x108 x151 V139 ⟨by exact ow_79g_93 b109, by exact ow_79g_94 b109⟩ ⟨by exact ow_79g_70 b111 ei152, by exact ow_79g_97 c125 ei152⟩ hV143 hF146 e147 e148 e149 rfl
          · skip
            refine pm_iload hC 5 dX11_findOwnOdds_65 rfl ?_
            refine pm_istore (lv' := [(4, (0, x110)), (0, (3, 0)), (1, (0, a1)), (2, (0, y3)), (3, (0, y7)), (5, (0, x110))]) hC dX11_findOwnOdds_67 (by decide) rfl ?_
            obtain ⟨x153, ei154⟩ : ∃ y : Int, x110 + 1 = y := ⟨_, rfl⟩
            refine pm_iinc (y := x153) (lv' := [(5, (0, x153)), (4, (0, x110)), (0, (3, 0)), (1, (0, a1)), (2, (0, y3)), (3, (0, y7))]) hC 5 dX11_findOwnOdds_69 (by decide) rfl ei154 rfl ?_
            refine pm_goto (tgt := 38) hC dX11_findOwnOdds_72 (by decide) ?_
            refine pm_lvsub [2, 3, 4, 5, 1, 0] (lv' := [(0, (3, 0)), (1, (0, a1)), (2, (0, y3)), (3, (0, y7)), (4, (0, x110)), (5, (0, x153))]) rfl ?_
            exact ih124 _ (by exact ow_79g_96 hm122 c125 ei154) x110 x153 V139 ⟨by exact ow_79g_98 b111, by exact ow_79g_99 c125⟩ ⟨by exact ow_79g_70 b111 ei154, by exact ow_79g_97 c125 ei154⟩ hV143 hF146 e147 e148 e149 rfl
        · skip
          refine pm_getf (v := 87) hC 0 fl_X11_97 rfl rfl (by decide) rfl e126 dX11_findOwnOdds_47 ?_
          refine pm_iload_n hC 1 dX11_findOwnOdds_50 rfl ?_
          refine pm_iload_n hC 2 dX11_findOwnOdds_51 rfl ?_
          refine pm_iload_n hC 3 dX11_findOwnOdds_52 rfl ?_
          refine pm_iload hC 5 dX11_findOwnOdds_53 rfl ?_
          refine pm_callV (ci := 11) (as := [(3, 87), (0, a1), (0, y3), (0, y7), (0, x110)]) (st := []) hC 0 (fD_X11_gatherOdds_0_87 a1 y3 y7 x110 ⟨by exact ow_79g_56 h0, by exact ow_79g_58 h0⟩ ⟨by exact ow_79g_46 b5, by exact ow_79g_47 b5⟩ ⟨by exact ow_79g_46 b9, by exact ow_79g_47 b9⟩ ⟨by exact ow_79g_65 b111, by exact ow_79g_95 c125⟩) lm_X11_377 li_X11_gatherOdds (by decide) (by decide) rfl rfl rfl (by decide) rfl rfl (Nat.le_of_ble_eq_true rfl) ⟨Nat.le_refl _, Or.inl rfl⟩ dX11_findOwnOdds_55 ⟨rfl, hV113⟩ (fun r155 V156 hp157 => ?_)
          obtain ⟨rfl, hV158, hF159, hE160⟩ := hp157
          change pm_J X 58 [(0, (3, 0)), (1, (0, a1)), (2, (0, y3)), (3, (0, y7)), (4, (0, x108)), (5, (0, x110))] [] 118 V156
          have hF161 := pm_ff.tr hF114 hF159 (by decide) (by decide)
          have e162 : V156 0 3 = 4 := by rw [hF159 0 3 (by decide) (by decide)]; exact e115
          have e163 : V156 4 2 = 5 := by rw [hF159 4 2 (by decide) (by decide)]; exact e116
          have e164 : V156 4 3 = 6 := by rw [hF159 4 3 (by decide) (by decide)]; exact e117
          have e165 : V156 0 13 = 87 := by rw [hF159 0 13 (by decide) (by decide)]; exact e126
          refine pm_aload_n hC 0 (by decide) dX11_findOwnOdds_58 rfl ?_
          refine pm_callV (ci := 11) (as := []) (st := []) hC 0 uD_X11_keepsTried_0 lm_X11_276 li_X11_keepsTried (by decide) (by decide) rfl rfl rfl (by decide) rfl rfl (Nat.le_of_ble_eq_true rfl) ⟨Nat.le_refl _, Or.inl rfl⟩ dX11_findOwnOdds_59 ⟨rfl, hV158⟩ (fun r166 V167 hp168 => ?_)
          obtain ⟨y169, rfl, b170, hV171, hF172⟩ := hp168
          change pm_J X 62 [(0, (3, 0)), (1, (0, a1)), (2, (0, y3)), (3, (0, y7)), (4, (0, x108)), (5, (0, x110))] [(0, y169)] 118 V167
          have hF174 := pm_ff.tr hF161 hF172 (by decide) (by decide)
          have e175 : V167 0 3 = 4 := by rw [hF172 0 3 (by decide) (by decide)]; exact e162
          have e176 : V167 4 2 = 5 := by rw [hF172 4 2 (by decide) (by decide)]; exact e163
          have e177 : V167 4 3 = 6 := by rw [hF172 4 3 (by decide) (by decide)]; exact e164
          refine pm_if_eq (tgt := 69) hC ⟨by exact ow_79g_9 b170, by exact ow_79g_10 b170⟩ dX11_findOwnOdds_62 (by decide) (fun c178 => ?_) (fun c178 => ?_)
          · skip
            obtain ⟨x179, ei180⟩ : ∃ y : Int, x110 + 1 = y := ⟨_, rfl⟩
            refine pm_iinc (y := x179) (lv' := [(5, (0, x179)), (0, (3, 0)), (1, (0, a1)), (2, (0, y3)), (3, (0, y7)), (4, (0, x108))]) hC 5 dX11_findOwnOdds_69 (by decide) rfl ei180 rfl ?_
            refine pm_goto (tgt := 38) hC dX11_findOwnOdds_72 (by decide) ?_
            refine pm_lvsub [1, 2, 3, 4, 5, 0] (lv' := [(0, (3, 0)), (1, (0, a1)), (2, (0, y3)), (3, (0, y7)), (4, (0, x108)), (5, (0, x179))]) rfl ?_
            exact ih124 _ (by exact ow_79g_96 hm122 c125 ei180) x108 x179 V167 ⟨by exact ow_79g_93 b109, by exact ow_79g_94 b109⟩ ⟨by exact ow_79g_70 b111 ei180, by exact ow_79g_97 c125 ei180⟩ hV171 hF174 e175 e176 e177 rfl
          · skip
            refine pm_iload hC 5 dX11_findOwnOdds_65 rfl ?_
            refine pm_istore (lv' := [(4, (0, x110)), (0, (3, 0)), (1, (0, a1)), (2, (0, y3)), (3, (0, y7)), (5, (0, x110))]) hC dX11_findOwnOdds_67 (by decide) rfl ?_
            obtain ⟨x181, ei182⟩ : ∃ y : Int, x110 + 1 = y := ⟨_, rfl⟩
            refine pm_iinc (y := x181) (lv' := [(5, (0, x181)), (4, (0, x110)), (0, (3, 0)), (1, (0, a1)), (2, (0, y3)), (3, (0, y7))]) hC 5 dX11_findOwnOdds_69 (by decide) rfl ei182 rfl ?_
            refine pm_goto (tgt := 38) hC dX11_findOwnOdds_72 (by decide) ?_
            refine pm_lvsub [2, 3, 4, 5, 1, 0] (lv' := [(0, (3, 0)), (1, (0, a1)), (2, (0, y3)), (3, (0, y7)), (4, (0, x110)), (5, (0, x181))]) rfl ?_
            exact ih124 _ (by exact ow_79g_96 hm122 c125 ei182) x110 x181 V167 ⟨by exact ow_79g_98 b111, by exact ow_79g_99 c125⟩ ⟨by exact ow_79g_70 b111 ei182, by exact ow_79g_97 c125 ei182⟩ hV171 hF174 e175 e176 e177 rfl
    refine pm_lvsub [4, 5, 3, 2, 1, 0] (lv' := [(0, (3, 0)), (1, (0, a1)), (2, (0, y3)), (3, (0, y7)), (4, (0, 0)), (5, (0, 1))]) rfl ?_
    exact L121 _ 0 1 V98 ⟨by decide, by decide⟩ ⟨by decide, by decide⟩ hV100 hF103 e104 e105 e106 rfl
set_option maxHeartbeats 4000000 in
set_option maxRecDepth 100000 in
theorem uD_X11_own_0 (a1 a2 : Int) (h0 : (-2147483648) ≤ a1 ∧ a1 ≤ 2147483647) (h1 : (-2147483648) ≤ a2 ∧ a2 ≤ 2147483647) : pm_K 8 yX11_own cX11_own 3 (some .int) (fun av V => av = [(3, 0), (0, a1), (0, a2)] ∧ pm_ok 0 90 V) (fun _ V r V' => ∃ y, r = some (0, y) ∧ ((-2147483648) ≤ y ∧ y ≤ 2147483647) ∧ pm_ok 0 90 V' ∧ pm_ff [74, 75, 76, 77, 80, 82, 85, 86, 88, 89] [(0, 12), (0, 13), (0, 14), (0, 15), (73, 0), (73, 1), (73, 2), (73, 3), (73, 4), (73, 5), (73, 6), (73, 7), (73, 10), (73, 11), (73, 12), (73, 14), (79, 1), (81, 1), (84, 0), (87, 0)] V V') := by
  refine pm_MT.of (by decide) ⟨Nat.le_refl _, by decide⟩ (fun av V h => by rw [h.1]; exact (by decide : pm_words [(3, 0), (0, 0), (0, 0)] ≤ 3)) ?_
  rintro X av V0 hC - hR ⟨rfl, hV0⟩
  change pm_J X 0 [(0, (3, 0)), (1, (0, a1)), (2, (0, a2))] [] 118 V0
  refine pm_aload_n hC 0 (by decide) dX11_own_0 rfl ?_
  refine pm_iload_n hC 1 dX11_own_1 rfl ?_
  refine pm_callV (ci := 11) (as := [(0, a1)]) (st := []) hC 0 (fD_X11_isPerson_0 a1 ⟨by exact ow_79g_13 h0, by exact ow_79g_14 h0⟩) lm_X11_183 li_X11_isPerson (by decide) (by decide) rfl rfl rfl (by decide) rfl rfl (Nat.le_of_ble_eq_true rfl) ⟨Nat.le_refl _, Or.inl rfl⟩ dX11_own_2 ⟨rfl, hV0⟩ (fun r1 V2 hp3 => ?_)
  obtain ⟨y4, rfl, b5, rfl, hE6⟩ := hp3
  change pm_J X 5 [(0, (3, 0)), (1, (0, a1)), (2, (0, a2))] [(0, y4)] 118 V0
  refine pm_if_eq (tgt := 17) hC ⟨by exact ow_79g_100 b5, by exact ow_79g_101 b5⟩ dX11_own_5 (by decide) (fun c7 => ?_) (fun c7 => ?_)
  · skip
    refine pm_ldc (v := (-2147483648)) hC 3153 dX11_own_17 (by decide +kernel) ?_
    exact pm_iret hC hR pm_nar0 ⟨(-2147483648), rfl, ⟨by exact ow_79g_102, by exact ow_79g_103⟩, hV0, (pm_ff.rf (cs := [74, 75, 76, 77, 80, 82, 85, 86, 88, 89]) (fs := [(0, 12), (0, 13), (0, 14), (0, 15), (73, 0), (73, 1), (73, 2), (73, 3), (73, 4), (73, 5), (73, 6), (73, 7), (73, 10), (73, 11), (73, 12), (73, 14), (79, 1), (81, 1), (84, 0), (87, 0)]) (V := V0))⟩ dX11_own_19
  · skip
    refine pm_iload_n hC 2 dX11_own_8 rfl ?_
    refine pm_if_lt (tgt := 17) hC ⟨by exact ow_79g_13 h1, by exact ow_79g_14 h1⟩ dX11_own_9 (by decide) (fun c8 => ?_) (fun c8 => ?_)
    · skip
      refine pm_ldc (v := (-2147483648)) hC 3153 dX11_own_17 (by decide +kernel) ?_
      exact pm_iret hC hR pm_nar0 ⟨(-2147483648), rfl, ⟨by exact ow_79g_102, by exact ow_79g_103⟩, hV0, (pm_ff.rf (cs := [74, 75, 76, 77, 80, 82, 85, 86, 88, 89]) (fs := [(0, 12), (0, 13), (0, 14), (0, 15), (73, 0), (73, 1), (73, 2), (73, 3), (73, 4), (73, 5), (73, 6), (73, 7), (73, 10), (73, 11), (73, 12), (73, 14), (79, 1), (81, 1), (84, 0), (87, 0)]) (V := V0))⟩ dX11_own_19
    · skip
      refine pm_iload_n hC 2 dX11_own_12 rfl ?_
      refine pm_iconst (v := 2) hC dX11_own_13 ?_
      refine pm_icmp_le (tgt := 20) hC ⟨by exact ow_79g_104 c8, by exact ow_79g_14 h1⟩ ⟨by decide, by decide⟩ dX11_own_14 (by decide) (fun c9 => ?_) (fun c9 => ?_)
      · skip
        refine pm_iload_n hC 2 dX11_own_20 rfl ?_
        refine pm_iconst (v := 2) hC dX11_own_21 ?_
        refine pm_icmp_ne (tgt := 31) hC ⟨by exact ow_79g_104 c8, by exact ow_79g_105 c9⟩ ⟨by decide, by decide⟩ dX11_own_22 (by decide) (fun c10 => ?_) (fun c10 => ?_)
        · skip
          refine pm_aload_n hC 0 (by decide) dX11_own_31 rfl ?_
          refine pm_iload_n hC 1 dX11_own_32 rfl ?_
          refine pm_callV (ci := 11) (as := [(0, a1)]) (st := []) hC 0 (uD_X11_findOwnSpans_0 a1 ⟨by exact ow_79g_106 b5 c7, by exact ow_79g_107 b5 c7⟩) lm_X11_282 li_X11_findOwnSpans (by decide) (by decide) rfl rfl rfl (by decide) rfl rfl (Nat.le_of_ble_eq_true rfl) ⟨Nat.le_refl _, Or.inl rfl⟩ dX11_own_33 ⟨rfl, hV0⟩ (fun r11 V12 hp13 => ?_)
          obtain ⟨rfl, hV14, hF15⟩ := hp13
          change pm_J X 36 [(0, (3, 0)), (1, (0, a1)), (2, (0, a2))] [] 118 V12
          have hF17 := pm_ff.tr (pm_ff.rf (cs := [74, 75, 76, 77, 80, 82, 85, 86, 88, 89]) (fs := [(0, 12), (0, 13), (0, 14), (0, 15), (73, 0), (73, 1), (73, 2), (73, 3), (73, 4), (73, 5), (73, 6), (73, 7), (73, 10), (73, 11), (73, 12), (73, 14), (79, 1), (81, 1), (84, 0), (87, 0)]) (V := V0)) hF15 (by decide) (by decide)
          refine pm_iload_n hC 2 dX11_own_36 rfl ?_
          refine pm_if_ne (tgt := 47) hC ⟨by exact ow_79g_104 c8, by exact ow_79g_105 c9⟩ dX11_own_37 (by decide) (fun c18 => ?_) (fun c18 => ?_)
          · skip
            refine pm_aload_n hC 0 (by decide) dX11_own_47 rfl ?_
            obtain ⟨y19, e20⟩ : ∃ y, V12 0 15 = y := ⟨_, rfl⟩
            have b21 := hV14.get 0 15 (lo := (-2147483648)) (hi := 2147483647) (by decide) (by decide) rfl
            rw [e20] at b21
            refine pm_getf (v := y19) hC 0 fl_X11_104 rfl rfl (by decide) rfl e20 dX11_own_48 ?_
            exact pm_iret hC hR pm_nar0 ⟨y19, rfl, ⟨by exact ow_79g_13 b21, by exact ow_79g_14 b21⟩, hV14, hF17⟩ dX11_own_51
          · skip
            refine pm_aload_n hC 0 (by decide) dX11_own_40 rfl ?_
            obtain ⟨y22, e23⟩ : ∃ y, V12 0 14 = y := ⟨_, rfl⟩
            have b24 := hV14.get 0 14 (lo := (-2147483648)) (hi := 2147483647) (by decide) (by decide) rfl
            rw [e23] at b24
            refine pm_getf (v := y22) hC 0 fl_X11_100 rfl rfl (by decide) rfl e23 dX11_own_41 ?_
            refine pm_goto (tgt := 51) hC dX11_own_44 (by decide) ?_
            exact pm_iret hC hR pm_nar0 ⟨y22, rfl, ⟨by exact ow_79g_13 b24, by exact ow_79g_14 b24⟩, hV14, hF17⟩ dX11_own_51
        · skip
          refine pm_aload_n hC 0 (by decide) dX11_own_25 rfl ?_
          refine pm_iload_n hC 1 dX11_own_26 rfl ?_
          refine pm_callV (ci := 11) (as := [(0, a1)]) (st := []) hC 0 (uD_X11_findOwnOdds_0 a1 ⟨by exact ow_79g_106 b5 c7, by exact ow_79g_107 b5 c7⟩) lm_X11_279 li_X11_findOwnOdds (by decide) (by decide) rfl rfl rfl (by decide) rfl rfl (Nat.le_of_ble_eq_true rfl) ⟨Nat.le_refl _, Or.inl rfl⟩ dX11_own_27 ⟨rfl, hV0⟩ (fun r25 V26 hp27 => ?_)
          obtain ⟨y28, rfl, b29, hV30, hF31⟩ := hp27
          change pm_J X 30 [(0, (3, 0)), (1, (0, a1)), (2, (0, a2))] [(0, y28)] 118 V26
          have hF33 := pm_ff.tr (pm_ff.rf (cs := [74, 75, 76, 77, 80, 82, 85, 86, 88, 89]) (fs := [(0, 12), (0, 13), (0, 14), (0, 15), (73, 0), (73, 1), (73, 2), (73, 3), (73, 4), (73, 5), (73, 6), (73, 7), (73, 10), (73, 11), (73, 12), (73, 14), (79, 1), (81, 1), (84, 0), (87, 0)]) (V := V0)) hF31 (by decide) (by decide)
          exact pm_iret hC hR pm_nar0 ⟨y28, rfl, ⟨by exact ow_79g_61 b29, by exact ow_79g_62 b29⟩, hV30, hF33⟩ dX11_own_30
      · skip
        refine pm_ldc (v := (-2147483648)) hC 3153 dX11_own_17 (by decide +kernel) ?_
        exact pm_iret hC hR pm_nar0 ⟨(-2147483648), rfl, ⟨by exact ow_79g_102, by exact ow_79g_103⟩, hV0, (pm_ff.rf (cs := [74, 75, 76, 77, 80, 82, 85, 86, 88, 89]) (fs := [(0, 12), (0, 13), (0, 14), (0, 15), (73, 0), (73, 1), (73, 2), (73, 3), (73, 4), (73, 5), (73, 6), (73, 7), (73, 10), (73, 11), (73, 12), (73, 14), (79, 1), (81, 1), (84, 0), (87, 0)]) (V := V0))⟩ dX11_own_19
set_option maxHeartbeats 4000000 in
set_option maxRecDepth 100000 in
theorem fD_X11_isLandOrAll (a1 : Int) (h0 : (-2147483648) ≤ a1 ∧ a1 ≤ 2147483647) : pm_K 1 yX11_isLandOrAll cX11_isLandOrAll 1 (some .boolean) (fun av V => av = [(0, a1)] ∧ pm_ok 0 90 V) (fun _ V r V' => ∃ y, r = some (0, y) ∧ (0 ≤ y ∧ y ≤ 1 ∧ (y = 1 → ((-1) ≤ a1 ∧ a1 ≤ 3))) ∧ V = V' ∧ F_X11_isLandOrAll a1 V = (y, V)) := by
  refine pm_MT.of (by decide) ⟨Nat.le_refl _, by decide⟩ (fun av V h => by rw [h.1]; exact (by decide : pm_words [(0, 0)] ≤ 1)) ?_
  rintro X av V0 hC - hR ⟨rfl, hV0⟩
  change pm_J X 0 [(0, (0, a1))] [] 118 V0
  have hT := F_X11_isLandOrAll_eq a1 V0
  refine pm_iload_n hC 0 dX11_isLandOrAll_0 rfl ?_
  refine pm_iconst (v := (-1)) hC dX11_isLandOrAll_1 ?_
  refine pm_icmp_lt (tgt := 14) hC ⟨by exact ow_79g_13 h0, by exact ow_79g_14 h0⟩ ⟨by decide, by decide⟩ dX11_isLandOrAll_2 (by decide) (fun c1 => ?_) (fun c1 => ?_)
  · skip
    replace hT := hT.trans (if_pos c1)
    refine pm_iconst (v := 0) hC dX11_isLandOrAll_14 ?_
    exact pm_iret hC hR (pm_narZ (by exact ow_79g_6)) ⟨0, rfl, ⟨by exact ow_79g_7, by exact ow_79g_3, by exact ow_79g_108⟩, rfl, hT⟩ dX11_isLandOrAll_15
  · skip
    replace hT := hT.trans (if_neg (Int.not_lt.mpr c1))
    refine pm_iload_n hC 0 dX11_isLandOrAll_5 rfl ?_
    refine pm_iconst (v := 3) hC dX11_isLandOrAll_6 ?_
    refine pm_icmp_gt (tgt := 14) hC ⟨by exact ow_79g_109 c1, by exact ow_79g_14 h0⟩ ⟨by decide, by decide⟩ dX11_isLandOrAll_7 (by decide) (fun c2 => ?_) (fun c2 => ?_)
    · skip
      replace hT := hT.trans (if_pos c2)
      refine pm_iconst (v := 0) hC dX11_isLandOrAll_14 ?_
      exact pm_iret hC hR (pm_narZ (by exact ow_79g_6)) ⟨0, rfl, ⟨by exact ow_79g_7, by exact ow_79g_3, by exact ow_79g_108⟩, rfl, hT⟩ dX11_isLandOrAll_15
    · skip
      replace hT := hT.trans (if_neg (Int.not_lt.mpr c2))
      refine pm_iconst (v := 1) hC dX11_isLandOrAll_10 ?_
      refine pm_goto (tgt := 15) hC dX11_isLandOrAll_11 (by decide) ?_
      exact pm_iret hC hR (pm_narZ (by exact ow_79g_2)) ⟨1, rfl, ⟨by exact ow_79g_3, by exact ow_79g_4, by exact ow_79g_110 c1 c2⟩, rfl, hT⟩ dX11_isLandOrAll_15
set_option maxHeartbeats 4000000 in
set_option maxRecDepth 100000 in
theorem fD_X11_isOfLand_0 (a1 a2 : Int) (h0 : 0 ≤ a1 ∧ a1 ≤ 59) (h1 : (-2147483648) ≤ a2 ∧ a2 ≤ 2147483647) : pm_K 1 yX11_isOfLand cX11_isOfLand 3 (some .boolean) (fun av V => av = [(3, 0), (0, a1), (0, a2)] ∧ pm_ok 0 90 V) (fun _ V r V' => ∃ y, r = some (0, y) ∧ (0 ≤ y ∧ y ≤ 1) ∧ V = V' ∧ F_X11_isOfLand a1 a2 V = (y, V)) := by
  refine pm_MT.of (by decide) ⟨Nat.le_refl _, by decide⟩ (fun av V h => by rw [h.1]; exact (by decide : pm_words [(3, 0), (0, 0), (0, 0)] ≤ 3)) ?_
  rintro X av V0 hC - hR ⟨rfl, hV0⟩
  change pm_J X 0 [(0, (3, 0)), (1, (0, a1)), (2, (0, a2))] [] 118 V0
  have hT := F_X11_isOfLand_eq a1 a2 V0
  refine pm_iload_n hC 2 dX11_isOfLand_0 rfl ?_
  refine pm_iconst (v := (-1)) hC dX11_isOfLand_1 ?_
  refine pm_icmp_eq (tgt := 29) hC ⟨by exact ow_79g_13 h1, by exact ow_79g_14 h1⟩ ⟨by decide, by decide⟩ dX11_isOfLand_2 (by decide) (fun c1 => ?_) (fun c1 => ?_)
  · skip
    replace hT := hT.trans (if_pos c1)
    refine pm_iconst (v := 1) hC dX11_isOfLand_29 ?_
    refine pm_goto (tgt := 34) hC dX11_isOfLand_30 (by decide) ?_
    exact pm_iret hC hR (pm_narZ (by exact ow_79g_2)) ⟨1, rfl, ⟨by exact ow_79g_3, by exact ow_79g_4⟩, rfl, hT⟩ dX11_isOfLand_34
  · skip
    replace hT := hT.trans (if_neg c1)
    refine pm_aload_n hC 0 (by decide) dX11_isOfLand_5 rfl ?_
    have e2 : V0 0 3 = 4 := hV0.one 0 3 (by decide) (by decide) rfl
    refine pm_getf (v := 4) hC 0 fl_X11_24 rfl rfl (by decide) rfl e2 dX11_isOfLand_6 ?_
    have e3 : V0 4 5 = 8 := hV0.one 4 5 (by decide) (by decide) rfl
    refine pm_getf (v := 8) hC 4 fl_X11_194 rfl rfl (by decide) rfl e3 dX11_isOfLand_9 ?_
    refine pm_aload_n hC 0 (by decide) dX11_isOfLand_12 rfl ?_
    refine pm_getf (v := 4) hC 0 fl_X11_24 rfl rfl (by decide) rfl e2 dX11_isOfLand_13 ?_
    have e4 : V0 4 7 = 9 := hV0.one 4 7 (by decide) (by decide) rfl
    refine pm_getf (v := 9) hC 4 fl_X11_243 rfl rfl (by decide) rfl e4 dX11_isOfLand_16 ?_
    refine pm_iload_n hC 1 dX11_isOfLand_19 rfl ?_
    obtain ⟨y5, e6⟩ : ∃ y, V0 9 (a1 : Int).toNat = y := ⟨_, rfl⟩
    replace hT := hT.trans (pf_let_eq e6)
    have b7 := hV0.get1 9 (a1 : Int).toNat (lo := 0) (hi := 999) (by decide) (show _ < 60 by exact ow_79g_111 h0) rfl
    rw [e6] at b7
    refine pm_iaload (len := 60) (v := y5) hC 9 rfl rfl (by decide) ⟨by exact ow_79g_112 h0, by exact ow_79g_113 h0⟩ (by decide) e6 dX11_isOfLand_20 ?_
    refine pm_bipush (v := 100) hC dX11_isOfLand_21 (by decide) ?_
    refine pm_idiv hC ⟨by exact ow_79g_33 b7, by exact ow_79g_34 b7, by exact ow_79g_35 b7⟩ ⟨by decide, by decide, by decide⟩ dX11_isOfLand_23 ?_
    obtain ⟨y8, e9⟩ : ∃ y, V0 8 ((y5 / 100) : Int).toNat = y := ⟨_, rfl⟩
    replace hT := hT.trans (pf_let_eq e9)
    have b10 := hV0.get 8 ((y5 / 100) : Int).toNat (lo := 0) (hi := 3) (by decide) (show _ < 10 by exact ow_79g_114 b7) rfl
    rw [e9] at b10
    refine pm_iaload (len := 10) (v := y8) hC 8 rfl rfl (by decide) ⟨by exact ow_79g_115 b7, by exact ow_79g_116 b7⟩ (by decide) e9 dX11_isOfLand_24 ?_
    refine pm_iload_n hC 2 dX11_isOfLand_25 rfl ?_
    refine pm_icmp_ne (tgt := 33) hC ⟨by exact ow_79g_117 b10, by exact ow_79g_118 b10⟩ ⟨by exact ow_79g_13 h1, by exact ow_79g_14 h1⟩ dX11_isOfLand_26 (by decide) (fun c11 => ?_) (fun c11 => ?_)
    · skip
      replace hT := hT.trans (if_pos c11)
      refine pm_iconst (v := 0) hC dX11_isOfLand_33 ?_
      exact pm_iret hC hR (pm_narZ (by exact ow_79g_6)) ⟨0, rfl, ⟨by exact ow_79g_7, by exact ow_79g_3⟩, rfl, hT⟩ dX11_isOfLand_34
    · skip
      replace hT := hT.trans (if_neg (fun q => q c11))
      refine pm_iconst (v := 1) hC dX11_isOfLand_29 ?_
      refine pm_goto (tgt := 34) hC dX11_isOfLand_30 (by decide) ?_
      exact pm_iret hC hR (pm_narZ (by exact ow_79g_2)) ⟨1, rfl, ⟨by exact ow_79g_3, by exact ow_79g_4⟩, rfl, hT⟩ dX11_isOfLand_34
set_option maxHeartbeats 4000000 in
set_option maxRecDepth 100000 in
theorem fD_X11_countOfLand_0 (a1 : Int) (h0 : (-2147483648) ≤ a1 ∧ a1 ≤ 2147483647) : pm_K 2 yX11_countOfLand cX11_countOfLand 4 (some .int) (fun av V => av = [(3, 0), (0, a1)] ∧ pm_ok 0 90 V) (fun _ V r V' => ∃ y, r = some (0, y) ∧ (0 ≤ y ∧ y ≤ 60) ∧ V = V' ∧ F_X11_countOfLand a1 V = (y, V)) := by
  refine pm_MT.of (by decide) ⟨Nat.le_refl _, by decide⟩ (fun av V h => by rw [h.1]; exact (by decide : pm_words [(3, 0), (0, 0)] ≤ 4)) ?_
  rintro X av V0 hC - hR ⟨rfl, hV0⟩
  change pm_J X 0 [(0, (3, 0)), (1, (0, a1))] [] 118 V0
  have hT := F_X11_countOfLand_eq a1 V0
  refine pm_iconst (v := 0) hC dX11_countOfLand_0 ?_
  refine pm_istore_n (lv' := [(2, (0, 0)), (0, (3, 0)), (1, (0, a1))]) hC dX11_countOfLand_1 (by decide) rfl ?_
  refine pm_iconst (v := 0) hC dX11_countOfLand_2 ?_
  refine pm_istore_n (lv' := [(3, (0, 0)), (2, (0, 0)), (0, (3, 0)), (1, (0, a1))]) hC dX11_countOfLand_3 (by decide) rfl ?_
  obtain ⟨B6, hB7, hT⟩ := pf_loop hT
  have L9 : ∀ (N11 : Nat) (x1 : Int) (x3 : Int), (0 ≤ x1 ∧ x1 ≤ 60) → (0 ≤ x3 ∧ x3 ≤ 60) → (x1 ≤ x3) → F_X11_countOfLand a1 V0 = pf_val ((0 : Int), V0) B6 (x1, x3) → (Int.toNat (60 - x3)) = N11 → pm_J X 4 [(0, (3, 0)), (1, (0, a1)), (2, (0, x1)), (3, (0, x3))] [] 118 V0 := by
    intro N11
    induction N11 using Nat.strongRecOn with
    | _ N11 ih12 =>
    intro x1 x3 b2 b4 b5 hT hm10
    have hb8 := congrFun hB7 (x1, x3)
    refine pm_iload_n hC 3 dX11_countOfLand_4 rfl ?_
    refine pm_aload_n hC 0 (by decide) dX11_countOfLand_5 rfl ?_
    have e13 : V0 0 3 = 4 := hV0.one 0 3 (by decide) (by decide) rfl
    refine pm_getf (v := 4) hC 0 fl_X11_24 rfl rfl (by decide) rfl e13 dX11_countOfLand_6 ?_
    obtain ⟨y14, e15⟩ : ∃ y, V0 4 6 = y := ⟨_, rfl⟩
    have b16 := hV0.get 4 6 (lo := 0) (hi := 60) (by decide) (by decide) rfl
    rw [e15] at b16
    replace hb8 := hb8.trans (pf_let_eq e15)
    refine pm_getf (v := y14) hC 4 fl_X11_162 rfl rfl (by decide) rfl e15 dX11_countOfLand_9 ?_
    refine pm_icmp_ge (tgt := 33) hC ⟨by exact ow_79g_28 b4, by exact ow_79g_29 b4⟩ ⟨by exact ow_79g_28 b16, by exact ow_79g_29 b16⟩ dX11_countOfLand_12 (by decide) (fun c17 => ?_) (fun c17 => ?_)
    · skip
      replace hb8 := hb8.trans (if_pos c17)
      refine pm_iload_n hC 2 dX11_countOfLand_33 rfl ?_
      replace hT := hT.trans (pf_val_inr hb8)
      exact pm_iret hC hR pm_nar0 ⟨x1, rfl, ⟨by exact ow_79g_31 b2, by exact ow_79g_119 b2⟩, rfl, hT⟩ dX11_countOfLand_34
    · skip
      replace hb8 := hb8.trans (if_neg (Int.not_le.mpr c17))
      refine pm_aload_n hC 0 (by decide) dX11_countOfLand_15 rfl ?_
      refine pm_iload_n hC 3 dX11_countOfLand_16 rfl ?_
      refine pm_iload_n hC 1 dX11_countOfLand_17 rfl ?_
      refine pm_callV (ci := 11) (as := [(0, x3), (0, a1)]) (st := []) hC 0 (fD_X11_isOfLand_0 x3 a1 ⟨by exact ow_79g_31 b4, by exact ow_79g_120 b16 c17⟩ ⟨by exact ow_79g_13 h0, by exact ow_79g_14 h0⟩) lm_X11_291 li_X11_isOfLand (by decide) (by decide) rfl rfl rfl (by decide) rfl rfl (Nat.le_of_ble_eq_true rfl) ⟨Nat.le_refl _, Or.inl rfl⟩ dX11_countOfLand_18 ⟨rfl, hV0⟩ (fun r18 V19 hp20 => ?_)
      obtain ⟨y21, rfl, b22, rfl, hE23⟩ := hp20
      replace hb8 := hb8.trans (pf_call_eq hE23)
      change pm_J X 21 [(0, (3, 0)), (1, (0, a1)), (2, (0, x1)), (3, (0, x3))] [(0, y21)] 118 V0
      refine pm_if_eq (tgt := 27) hC ⟨by exact ow_79g_9 b22, by exact ow_79g_10 b22⟩ dX11_countOfLand_21 (by decide) (fun c24 => ?_) (fun c24 => ?_)
      · skip
        replace hb8 := hb8.trans (if_pos c24)
        obtain ⟨x25, ei26⟩ : ∃ y : Int, x3 + 1 = y := ⟨_, rfl⟩
        replace hb8 := hb8.trans (pf_let_eq ei26)
        refine pm_iinc (y := x25) (lv' := [(3, (0, x25)), (0, (3, 0)), (1, (0, a1)), (2, (0, x1))]) hC 3 dX11_countOfLand_27 (by decide) rfl ei26 rfl ?_
        refine pm_goto (tgt := 4) hC dX11_countOfLand_30 (by decide) ?_
        refine pm_lvsub [1, 2, 3, 0] (lv' := [(0, (3, 0)), (1, (0, a1)), (2, (0, x1)), (3, (0, x25))]) rfl ?_
        exact ih12 _ (by exact ow_79g_40 hm10 b16 c17 ei26) x1 x25 ⟨by exact ow_79g_31 b2, by exact ow_79g_119 b2⟩ ⟨by exact ow_79g_41 b4 ei26, by exact ow_79g_42 b16 c17 ei26⟩ (by exact ow_79g_121 b5 ei26) (hT.trans (pf_val_inl hb8)) rfl
      · skip
        replace hb8 := hb8.trans (if_neg c24)
        obtain ⟨x27, ei28⟩ : ∃ y : Int, x1 + 1 = y := ⟨_, rfl⟩
        replace hb8 := hb8.trans (pf_let_eq ei28)
        refine pm_iinc (y := x27) (lv' := [(2, (0, x27)), (0, (3, 0)), (1, (0, a1)), (3, (0, x3))]) hC 2 dX11_countOfLand_24 (by decide) rfl ei28 rfl ?_
        obtain ⟨x29, ei30⟩ : ∃ y : Int, x3 + 1 = y := ⟨_, rfl⟩
        replace hb8 := hb8.trans (pf_let_eq ei30)
        refine pm_iinc (y := x29) (lv' := [(3, (0, x29)), (2, (0, x27)), (0, (3, 0)), (1, (0, a1))]) hC 3 dX11_countOfLand_27 (by decide) rfl ei30 rfl ?_
        refine pm_goto (tgt := 4) hC dX11_countOfLand_30 (by decide) ?_
        refine pm_lvsub [2, 3, 1, 0] (lv' := [(0, (3, 0)), (1, (0, a1)), (2, (0, x27)), (3, (0, x29))]) rfl ?_
        exact ih12 _ (by exact ow_79g_40 hm10 b16 c17 ei30) x27 x29 ⟨by exact ow_79g_41 b2 ei28, by exact ow_79g_122 b5 b16 c17 ei28⟩ ⟨by exact ow_79g_41 b4 ei30, by exact ow_79g_42 b16 c17 ei30⟩ (by exact ow_79g_123 b5 ei28 ei30) (hT.trans (pf_val_inl hb8)) rfl
  refine pm_lvsub [2, 3, 1, 0] (lv' := [(0, (3, 0)), (1, (0, a1)), (2, (0, 0)), (3, (0, 0))]) rfl ?_
  exact L9 _ 0 0 ⟨by decide, by decide⟩ ⟨by decide, by decide⟩ (by exact ow_79g_7) hT rfl
set_option maxHeartbeats 4000000 in
set_option maxRecDepth 100000 in
theorem fD_X11_share_0 (a1 a2 : Int) (h0 : (-2147483648) ≤ a1 ∧ a1 ≤ 2147483647) (h1 : (-2147483648) ≤ a2 ∧ a2 ≤ 2147483647) : pm_K 3 yX11_share cX11_share 8 (some .int) (fun av V => av = [(3, 0), (0, a1), (0, a2)] ∧ pm_ok 0 90 V) (fun _ V r V' => ∃ y, r = some (0, y) ∧ ((-1) ≤ y ∧ y ≤ 60000) ∧ V = V' ∧ F_X11_share a1 a2 V = (y, V)) := by
  refine pm_MT.of (by decide) ⟨Nat.le_refl _, by decide⟩ (fun av V h => by rw [h.1]; exact (by decide : pm_words [(3, 0), (0, 0), (0, 0)] ≤ 8)) ?_
  rintro X av V0 hC - hR ⟨rfl, hV0⟩
  change pm_J X 0 [(0, (3, 0)), (1, (0, a1)), (2, (0, a2))] [] 118 V0
  have hT := F_X11_share_eq a1 a2 V0
  refine pm_iload_n hC 1 dX11_share_0 rfl ?_
  refine pm_callS (as := [(0, a1)]) (st := []) hC (fD_X11_isLandOrAll a1 ⟨by exact ow_79g_13 h0, by exact ow_79g_14 h0⟩) lm_X11_285 ls_X11_isLandOrAll (by decide) (by decide) rfl rfl (Nat.le_of_ble_eq_true rfl) ⟨Nat.le_refl _, Or.inl rfl⟩ dX11_share_1 ⟨rfl, hV0⟩ (fun r1 V2 hp3 => ?_)
  obtain ⟨y4, rfl, b5, rfl, hE6⟩ := hp3
  replace hT := hT.trans (pf_call_eq hE6)
  change pm_J X 4 [(0, (3, 0)), (1, (0, a1)), (2, (0, a2))] [(0, y4)] 118 V0
  refine pm_if_eq (tgt := 23) hC ⟨by exact ow_79g_124 b5, by exact ow_79g_125 b5⟩ dX11_share_4 (by decide) (fun c7 => ?_) (fun c7 => ?_)
  · skip
    replace hT := hT.trans (if_pos c7)
    refine pm_iconst (v := 0) hC dX11_share_23 ?_
    refine pm_istore_n (lv' := [(3, (0, 0)), (0, (3, 0)), (1, (0, a1)), (2, (0, a2))]) hC dX11_share_24 (by decide) rfl ?_
    refine pm_iload_n hC 0 dX11_share_25 rfl ?_
    refine pm_if_eq (tgt := 37) hC ⟨by decide, by decide⟩ dX11_share_26 (by decide) (fun c8 => ?_) (fun c8 => ?_)
    · skip
      refine pm_iconst (v := 0) hC dX11_share_37 ?_
      refine pm_istore (lv' := [(4, (0, 0)), (3, (0, 0)), (0, (3, 0)), (1, (0, a1)), (2, (0, a2))]) hC dX11_share_38 (by decide) rfl ?_
      refine pm_iload hC 0 dX11_share_40 rfl ?_
      refine pm_if_gt (tgt := 47) hC ⟨by decide, by decide⟩ dX11_share_42 (by decide) (fun c9 => ?_) (fun c9 => ?_)
      · skip
        exfalso; exact ow_79g_126 c9
      · skip
        refine pm_iconst (v := (-1)) hC dX11_share_45 ?_
        exact pm_iret hC hR pm_nar0 ⟨(-1), rfl, ⟨by exact ow_79g_11, by exact ow_79g_127⟩, rfl, hT⟩ dX11_share_46
    · skip
      exfalso; exact ow_79g_128 c8
  · skip
    replace hT := hT.trans (if_neg c7)
    refine pm_iload_n hC 2 dX11_share_7 rfl ?_
    refine pm_callS (as := [(0, a2)]) (st := []) hC (fD_X11_isKind a2 ⟨by exact ow_79g_13 h1, by exact ow_79g_14 h1⟩) lm_X11_215 ls_X11_isKind (by decide) (by decide) rfl rfl (Nat.le_of_ble_eq_true rfl) ⟨Nat.le_refl _, Or.inl rfl⟩ dX11_share_8 ⟨rfl, hV0⟩ (fun r10 V11 hp12 => ?_)
    obtain ⟨y13, rfl, b14, rfl, hE15⟩ := hp12
    replace hT := hT.trans (pf_call_eq hE15)
    change pm_J X 11 [(0, (3, 0)), (1, (0, a1)), (2, (0, a2))] [(0, y13)] 118 V0
    refine pm_if_ne (tgt := 19) hC ⟨by exact ow_79g_129 b14, by exact ow_79g_130 b14⟩ dX11_share_11 (by decide) (fun c16 => ?_) (fun c16 => ?_)
    · skip
      replace hT := hT.trans (if_pos c16)
      refine pm_iconst (v := 1) hC dX11_share_19 ?_
      refine pm_goto (tgt := 24) hC dX11_share_20 (by decide) ?_
      refine pm_istore_n (lv' := [(3, (0, 1)), (0, (3, 0)), (1, (0, a1)), (2, (0, a2))]) hC dX11_share_24 (by decide) rfl ?_
      refine pm_iload_n hC 0 dX11_share_25 rfl ?_
      refine pm_if_eq (tgt := 37) hC ⟨by decide, by decide⟩ dX11_share_26 (by decide) (fun c17 => ?_) (fun c17 => ?_)
      · skip
        exfalso; exact ow_79g_131 c17
      · skip
        refine pm_aload_n hC 1 (by decide) dX11_share_29 rfl ?_
        refine pm_iload_n hC 2 dX11_share_30 rfl ?_
        refine pm_callV (ci := 11) (as := [(0, a1)]) (st := []) hC 0 (fD_X11_countOfLand_0 a1 ⟨by exact ow_79g_13 h0, by exact ow_79g_14 h0⟩) lm_X11_288 li_X11_countOfLand (by decide) (by decide) rfl rfl rfl (by decide) rfl rfl (Nat.le_of_ble_eq_true rfl) ⟨Nat.le_refl _, Or.inl rfl⟩ dX11_share_31 ⟨rfl, hV0⟩ (fun r18 V19 hp20 => ?_)
        obtain ⟨y21, rfl, b22, rfl, hE23⟩ := hp20
        replace hT := hT.trans (pf_call_eq hE23)
        change pm_J X 34 [(3, (0, 1)), (0, (3, 0)), (1, (0, a1)), (2, (0, a2))] [(0, y21)] 118 V0
        refine pm_goto (tgt := 38) hC dX11_share_34 (by decide) ?_
        refine pm_istore (lv' := [(4, (0, y21)), (3, (0, 1)), (0, (3, 0)), (1, (0, a1)), (2, (0, a2))]) hC dX11_share_38 (by decide) rfl ?_
        refine pm_iload hC 0 dX11_share_40 rfl ?_
        refine pm_if_gt (tgt := 47) hC ⟨by exact ow_79g_28 b22, by exact ow_79g_29 b22⟩ dX11_share_42 (by decide) (fun c24 => ?_) (fun c24 => ?_)
        · skip
          replace hT := hT.trans (if_pos c24)
          refine pm_iconst (v := 0) hC dX11_share_47 ?_
          refine pm_istore (lv' := [(5, (0, 0)), (4, (0, y21)), (3, (0, 1)), (0, (3, 0)), (1, (0, a1)), (2, (0, a2))]) hC dX11_share_48 (by decide) rfl ?_
          refine pm_iconst (v := 0) hC dX11_share_50 ?_
          refine pm_istore (lv' := [(6, (0, 0)), (5, (0, 0)), (4, (0, y21)), (3, (0, 1)), (0, (3, 0)), (1, (0, a1)), (2, (0, a2))]) hC dX11_share_51 (by decide) rfl ?_
          obtain ⟨B30, hB31, hT⟩ := pf_loop hT
          have L33 : ∀ (N35 : Nat) (x25 : Int) (x27 : Int), (0 ≤ x25 ∧ x25 ≤ 60) → (0 ≤ x27 ∧ x27 ≤ 60) → (x25 ≤ x27) → F_X11_share a1 a2 V0 = pf_val ((0 : Int), V0) B30 (x25, x27) → (Int.toNat (60 - x27)) = N35 → pm_J X 53 [(0, (3, 0)), (1, (0, a1)), (2, (0, a2)), (3, (0, 1)), (4, (0, y21)), (5, (0, x25)), (6, (0, x27))] [] 118 V0 := by
            intro N35
            induction N35 using Nat.strongRecOn with
            | _ N35 ih36 =>
            intro x25 x27 b26 b28 b29 hT hm34
            have hb32 := congrFun hB31 (x25, x27)
            refine pm_iload hC 6 dX11_share_53 rfl ?_
            refine pm_aload_n hC 0 (by decide) dX11_share_55 rfl ?_
            have e37 : V0 0 3 = 4 := hV0.one 0 3 (by decide) (by decide) rfl
            refine pm_getf (v := 4) hC 0 fl_X11_24 rfl rfl (by decide) rfl e37 dX11_share_56 ?_
            obtain ⟨y38, e39⟩ : ∃ y, V0 4 6 = y := ⟨_, rfl⟩
            have b40 := hV0.get 4 6 (lo := 0) (hi := 60) (by decide) (by decide) rfl
            rw [e39] at b40
            replace hb32 := hb32.trans (pf_let_eq e39)
            refine pm_getf (v := y38) hC 4 fl_X11_162 rfl rfl (by decide) rfl e39 dX11_share_59 ?_
            refine pm_icmp_ge (tgt := 127) hC ⟨by exact ow_79g_28 b28, by exact ow_79g_29 b28⟩ ⟨by exact ow_79g_28 b40, by exact ow_79g_29 b40⟩ dX11_share_62 (by decide) (fun c41 => ?_) (fun c41 => ?_)
            · skip
              replace hb32 := hb32.trans (if_pos c41)
              refine pm_iload hC 5 dX11_share_127 rfl ?_
              refine pm_sipush (v := 1000) hC dX11_share_129 (by decide) ?_
              refine pm_imul hC dX11_share_132 ?_
              refine pm_iload hC 4 dX11_share_133 rfl ?_
              refine pm_idiv hC ⟨by exact ow_79g_132 b26, by exact ow_79g_133 b26, by exact ow_79g_134 b26⟩ ⟨by exact ow_79g_135 c24, by exact ow_79g_136 c24, by exact ow_79g_29 b22⟩ dX11_share_135 ?_
              have b43 := pm_divb (x := (x25 * 1000)) (y := y21) (by exact ow_79g_132 b26) (by exact ow_79g_135 c24)
              obtain ⟨y42, hey42⟩ : ∃ z, ((x25 * 1000) / y21) = z := ⟨_, rfl⟩
              rw [hey42] at b43 ⊢
              replace hb32 := hb32.trans (pf_let_eq hey42)
              replace hT := hT.trans (pf_val_inr hb32)
              exact pm_iret hC hR pm_nar0 ⟨y42, rfl, ⟨by exact ow_79g_137 b43, by exact ow_79g_138 b26 b43⟩, rfl, hT⟩ dX11_share_136
            · skip
              replace hb32 := hb32.trans (if_neg (Int.not_le.mpr c41))
              refine pm_iload_n hC 2 dX11_share_65 rfl ?_
              refine pm_iconst (v := 4) hC dX11_share_66 ?_
              refine pm_icmp_ne (tgt := 83) hC ⟨by exact ow_79g_13 h1, by exact ow_79g_14 h1⟩ ⟨by decide, by decide⟩ dX11_share_67 (by decide) (fun c44 => ?_) (fun c44 => ?_)
              · skip
                replace hb32 := hb32.trans (if_pos c44)
                refine pm_aload_n hC 0 (by decide) dX11_share_83 rfl ?_
                refine pm_getf (v := 4) hC 0 fl_X11_24 rfl rfl (by decide) rfl e37 dX11_share_84 ?_
                refine pm_iload hC 6 dX11_share_87 rfl ?_
                refine pm_callV (ci := 7) (as := [(0, x27)]) (st := []) hC 4 (fD_X7_kindOfAnswer_4 x27 ⟨by exact ow_79g_31 b28, by exact ow_79g_120 b40 c41⟩) lm_X11_259 li_X7_kindOfAnswer (by decide) (by decide) rfl rfl rfl (by decide) rfl rfl (Nat.le_of_ble_eq_true rfl) ⟨Nat.le_refl _, Or.inl rfl⟩ dX11_share_89 ⟨rfl, hV0⟩ (fun r45 V46 hp47 => ?_)
                obtain ⟨y48, rfl, b49, rfl, hE50⟩ := hp47
                replace hb32 := hb32.trans (pf_call_eq hE50)
                change pm_J X 92 [(0, (3, 0)), (1, (0, a1)), (2, (0, a2)), (3, (0, 1)), (4, (0, y21)), (5, (0, x25)), (6, (0, x27))] [(0, y48)] 118 V0
                refine pm_iload_n hC 2 dX11_share_92 rfl ?_
                refine pm_icmp_ne (tgt := 100) hC ⟨by exact ow_79g_117 b49, by exact ow_79g_118 b49⟩ ⟨by exact ow_79g_13 h1, by exact ow_79g_14 h1⟩ dX11_share_93 (by decide) (fun c51 => ?_) (fun c51 => ?_)
                · skip
                  replace hb32 := hb32.trans (if_pos c51)
                  refine pm_iconst (v := 0) hC dX11_share_100 ?_
                  refine pm_istore (lv' := [(7, (0, 0)), (0, (3, 0)), (1, (0, a1)), (2, (0, a2)), (3, (0, 1)), (4, (0, y21)), (5, (0, x25)), (6, (0, x27))]) hC dX11_share_101 (by decide) rfl ?_
                  refine pm_aload_n hC 1 (by decide) dX11_share_103 rfl ?_
                  refine pm_iload hC 7 dX11_share_104 rfl ?_
                  refine pm_iload_n hC 2 dX11_share_106 rfl ?_
                  refine pm_callV (ci := 11) (as := [(0, x27), (0, a1)]) (st := []) hC 0 (fD_X11_isOfLand_0 x27 a1 ⟨by exact ow_79g_31 b28, by exact ow_79g_120 b40 c41⟩ ⟨by exact ow_79g_13 h0, by exact ow_79g_14 h0⟩) lm_X11_291 li_X11_isOfLand (by decide) (by decide) rfl rfl rfl (by decide) rfl rfl (Nat.le_of_ble_eq_true rfl) ⟨Nat.le_refl _, Or.inl rfl⟩ dX11_share_107 ⟨rfl, hV0⟩ (fun r52 V53 hp54 => ?_)
                  obtain ⟨y55, rfl, b56, rfl, hE57⟩ := hp54
                  replace hb32 := hb32.trans (pf_call_eq hE57)
                  change pm_J X 110 [(7, (0, 0)), (0, (3, 0)), (1, (0, a1)), (2, (0, a2)), (3, (0, 1)), (4, (0, y21)), (5, (0, x25)), (6, (0, x27))] [(0, y55)] 118 V0
                  refine pm_if_eq (tgt := 121) hC ⟨by exact ow_79g_9 b56, by exact ow_79g_10 b56⟩ dX11_share_110 (by decide) (fun c58 => ?_) (fun c58 => ?_)
                  · skip
                    replace hb32 := hb32.trans (if_pos c58)
                    obtain ⟨x59, ei60⟩ : ∃ y : Int, x27 + 1 = y := ⟨_, rfl⟩
                    replace hb32 := hb32.trans (pf_let_eq ei60)
                    refine pm_iinc (y := x59) (lv' := [(6, (0, x59)), (7, (0, 0)), (0, (3, 0)), (1, (0, a1)), (2, (0, a2)), (3, (0, 1)), (4, (0, y21)), (5, (0, x25))]) hC 7 dX11_share_121 (by decide) rfl ei60 rfl ?_
                    refine pm_goto (tgt := 53) hC dX11_share_124 (by decide) ?_
                    refine pm_lvsub [2, 3, 4, 5, 6, 7, 0] (lv' := [(0, (3, 0)), (1, (0, a1)), (2, (0, a2)), (3, (0, 1)), (4, (0, y21)), (5, (0, x25)), (6, (0, x59))]) rfl ?_
                    exact ih36 _ (by exact ow_79g_40 hm34 b40 c41 ei60) x25 x59 ⟨by exact ow_79g_31 b26, by exact ow_79g_119 b26⟩ ⟨by exact ow_79g_41 b28 ei60, by exact ow_79g_42 b40 c41 ei60⟩ (by exact ow_79g_121 b29 ei60) (hT.trans (pf_val_inl hb32)) rfl
                  · skip
                    replace hb32 := hb32.trans (if_neg c58)
                    refine pm_iload hC 0 dX11_share_113 rfl ?_
                    refine pm_if_eq (tgt := 121) hC ⟨by decide, by decide⟩ dX11_share_115 (by decide) (fun c61 => ?_) (fun c61 => ?_)
                    · skip
                      obtain ⟨x62, ei63⟩ : ∃ y : Int, x27 + 1 = y := ⟨_, rfl⟩
                      replace hb32 := hb32.trans (pf_let_eq ei63)
                      refine pm_iinc (y := x62) (lv' := [(6, (0, x62)), (7, (0, 0)), (0, (3, 0)), (1, (0, a1)), (2, (0, a2)), (3, (0, 1)), (4, (0, y21)), (5, (0, x25))]) hC 7 dX11_share_121 (by decide) rfl ei63 rfl ?_
                      refine pm_goto (tgt := 53) hC dX11_share_124 (by decide) ?_
                      refine pm_lvsub [2, 3, 4, 5, 6, 7, 0] (lv' := [(0, (3, 0)), (1, (0, a1)), (2, (0, a2)), (3, (0, 1)), (4, (0, y21)), (5, (0, x25)), (6, (0, x62))]) rfl ?_
                      exact ih36 _ (by exact ow_79g_40 hm34 b40 c41 ei63) x25 x62 ⟨by exact ow_79g_31 b26, by exact ow_79g_119 b26⟩ ⟨by exact ow_79g_41 b28 ei63, by exact ow_79g_42 b40 c41 ei63⟩ (by exact ow_79g_121 b29 ei63) (hT.trans (pf_val_inl hb32)) rfl
                    · skip
                      exfalso; exact ow_79g_128 c61
                · skip
                  replace hb32 := hb32.trans (if_neg (fun q => q c51))
                  refine pm_iconst (v := 1) hC dX11_share_96 ?_
                  refine pm_goto (tgt := 101) hC dX11_share_97 (by decide) ?_
                  refine pm_istore (lv' := [(7, (0, 1)), (0, (3, 0)), (1, (0, a1)), (2, (0, a2)), (3, (0, 1)), (4, (0, y21)), (5, (0, x25)), (6, (0, x27))]) hC dX11_share_101 (by decide) rfl ?_
                  refine pm_aload_n hC 1 (by decide) dX11_share_103 rfl ?_
                  refine pm_iload hC 7 dX11_share_104 rfl ?_
                  refine pm_iload_n hC 2 dX11_share_106 rfl ?_
                  refine pm_callV (ci := 11) (as := [(0, x27), (0, a1)]) (st := []) hC 0 (fD_X11_isOfLand_0 x27 a1 ⟨by exact ow_79g_31 b28, by exact ow_79g_120 b40 c41⟩ ⟨by exact ow_79g_13 h0, by exact ow_79g_14 h0⟩) lm_X11_291 li_X11_isOfLand (by decide) (by decide) rfl rfl rfl (by decide) rfl rfl (Nat.le_of_ble_eq_true rfl) ⟨Nat.le_refl _, Or.inl rfl⟩ dX11_share_107 ⟨rfl, hV0⟩ (fun r64 V65 hp66 => ?_)
                  obtain ⟨y67, rfl, b68, rfl, hE69⟩ := hp66
                  replace hb32 := hb32.trans (pf_call_eq hE69)
                  change pm_J X 110 [(7, (0, 1)), (0, (3, 0)), (1, (0, a1)), (2, (0, a2)), (3, (0, 1)), (4, (0, y21)), (5, (0, x25)), (6, (0, x27))] [(0, y67)] 118 V0
                  refine pm_if_eq (tgt := 121) hC ⟨by exact ow_79g_9 b68, by exact ow_79g_10 b68⟩ dX11_share_110 (by decide) (fun c70 => ?_) (fun c70 => ?_)
                  · skip
                    replace hb32 := hb32.trans (if_pos c70)
                    obtain ⟨x71, ei72⟩ : ∃ y : Int, x27 + 1 = y := ⟨_, rfl⟩
                    replace hb32 := hb32.trans (pf_let_eq ei72)
                    refine pm_iinc (y := x71) (lv' := [(6, (0, x71)), (7, (0, 1)), (0, (3, 0)), (1, (0, a1)), (2, (0, a2)), (3, (0, 1)), (4, (0, y21)), (5, (0, x25))]) hC 7 dX11_share_121 (by decide) rfl ei72 rfl ?_
                    refine pm_goto (tgt := 53) hC dX11_share_124 (by decide) ?_
                    refine pm_lvsub [2, 3, 4, 5, 6, 7, 0] (lv' := [(0, (3, 0)), (1, (0, a1)), (2, (0, a2)), (3, (0, 1)), (4, (0, y21)), (5, (0, x25)), (6, (0, x71))]) rfl ?_
                    exact ih36 _ (by exact ow_79g_40 hm34 b40 c41 ei72) x25 x71 ⟨by exact ow_79g_31 b26, by exact ow_79g_119 b26⟩ ⟨by exact ow_79g_41 b28 ei72, by exact ow_79g_42 b40 c41 ei72⟩ (by exact ow_79g_121 b29 ei72) (hT.trans (pf_val_inl hb32)) rfl
                  · skip
                    replace hb32 := hb32.trans (if_neg c70)
                    refine pm_iload hC 0 dX11_share_113 rfl ?_
                    refine pm_if_eq (tgt := 121) hC ⟨by decide, by decide⟩ dX11_share_115 (by decide) (fun c73 => ?_) (fun c73 => ?_)
                    · skip
                      exfalso; exact ow_79g_131 c73
                    · skip
                      obtain ⟨x74, ei75⟩ : ∃ y : Int, x25 + 1 = y := ⟨_, rfl⟩
                      replace hb32 := hb32.trans (pf_let_eq ei75)
                      refine pm_iinc (y := x74) (lv' := [(5, (0, x74)), (7, (0, 1)), (0, (3, 0)), (1, (0, a1)), (2, (0, a2)), (3, (0, 1)), (4, (0, y21)), (6, (0, x27))]) hC 6 dX11_share_118 (by decide) rfl ei75 rfl ?_
                      obtain ⟨x76, ei77⟩ : ∃ y : Int, x27 + 1 = y := ⟨_, rfl⟩
                      replace hb32 := hb32.trans (pf_let_eq ei77)
                      refine pm_iinc (y := x76) (lv' := [(6, (0, x76)), (5, (0, x74)), (7, (0, 1)), (0, (3, 0)), (1, (0, a1)), (2, (0, a2)), (3, (0, 1)), (4, (0, y21))]) hC 7 dX11_share_121 (by decide) rfl ei77 rfl ?_
                      refine pm_goto (tgt := 53) hC dX11_share_124 (by decide) ?_
                      refine pm_lvsub [3, 4, 5, 6, 7, 1, 0] (lv' := [(0, (3, 0)), (1, (0, a1)), (2, (0, a2)), (3, (0, 1)), (4, (0, y21)), (5, (0, x74)), (6, (0, x76))]) rfl ?_
                      exact ih36 _ (by exact ow_79g_40 hm34 b40 c41 ei77) x74 x76 ⟨by exact ow_79g_41 b26 ei75, by exact ow_79g_122 b29 b40 c41 ei75⟩ ⟨by exact ow_79g_41 b28 ei77, by exact ow_79g_42 b40 c41 ei77⟩ (by exact ow_79g_123 b29 ei75 ei77) (hT.trans (pf_val_inl hb32)) rfl
              · skip
                replace hb32 := hb32.trans (if_neg (fun q => q c44))
                exfalso; exact ow_79g_139 b14 c16 c44
          refine pm_lvsub [4, 5, 6, 3, 2, 1, 0] (lv' := [(0, (3, 0)), (1, (0, a1)), (2, (0, a2)), (3, (0, 1)), (4, (0, y21)), (5, (0, 0)), (6, (0, 0))]) rfl ?_
          exact L33 _ 0 0 ⟨by decide, by decide⟩ ⟨by decide, by decide⟩ (by exact ow_79g_7) hT rfl
        · skip
          replace hT := hT.trans (if_neg (Int.not_lt.mpr c24))
          refine pm_iconst (v := (-1)) hC dX11_share_45 ?_
          exact pm_iret hC hR pm_nar0 ⟨(-1), rfl, ⟨by exact ow_79g_11, by exact ow_79g_127⟩, rfl, hT⟩ dX11_share_46
    · skip
      replace hT := hT.trans (if_neg (fun q => q c16))
      refine pm_iload_n hC 2 dX11_share_14 rfl ?_
      refine pm_iconst (v := 4) hC dX11_share_15 ?_
      refine pm_icmp_ne (tgt := 23) hC ⟨by exact ow_79g_13 h1, by exact ow_79g_14 h1⟩ ⟨by decide, by decide⟩ dX11_share_16 (by decide) (fun c78 => ?_) (fun c78 => ?_)
      · skip
        replace hT := hT.trans (if_pos c78)
        refine pm_iconst (v := 0) hC dX11_share_23 ?_
        refine pm_istore_n (lv' := [(3, (0, 0)), (0, (3, 0)), (1, (0, a1)), (2, (0, a2))]) hC dX11_share_24 (by decide) rfl ?_
        refine pm_iload_n hC 0 dX11_share_25 rfl ?_
        refine pm_if_eq (tgt := 37) hC ⟨by decide, by decide⟩ dX11_share_26 (by decide) (fun c79 => ?_) (fun c79 => ?_)
        · skip
          refine pm_iconst (v := 0) hC dX11_share_37 ?_
          refine pm_istore (lv' := [(4, (0, 0)), (3, (0, 0)), (0, (3, 0)), (1, (0, a1)), (2, (0, a2))]) hC dX11_share_38 (by decide) rfl ?_
          refine pm_iload hC 0 dX11_share_40 rfl ?_
          refine pm_if_gt (tgt := 47) hC ⟨by decide, by decide⟩ dX11_share_42 (by decide) (fun c80 => ?_) (fun c80 => ?_)
          · skip
            exfalso; exact ow_79g_126 c80
          · skip
            refine pm_iconst (v := (-1)) hC dX11_share_45 ?_
            exact pm_iret hC hR pm_nar0 ⟨(-1), rfl, ⟨by exact ow_79g_11, by exact ow_79g_127⟩, rfl, hT⟩ dX11_share_46
        · skip
          exfalso; exact ow_79g_128 c79
      · skip
        replace hT := hT.trans (if_neg (fun q => q c78))
        refine pm_iconst (v := 1) hC dX11_share_19 ?_
        refine pm_goto (tgt := 24) hC dX11_share_20 (by decide) ?_
        refine pm_istore_n (lv' := [(3, (0, 1)), (0, (3, 0)), (1, (0, a1)), (2, (0, a2))]) hC dX11_share_24 (by decide) rfl ?_
        refine pm_iload_n hC 0 dX11_share_25 rfl ?_
        refine pm_if_eq (tgt := 37) hC ⟨by decide, by decide⟩ dX11_share_26 (by decide) (fun c81 => ?_) (fun c81 => ?_)
        · skip
          exfalso; exact ow_79g_131 c81
        · skip
          refine pm_aload_n hC 1 (by decide) dX11_share_29 rfl ?_
          refine pm_iload_n hC 2 dX11_share_30 rfl ?_
          refine pm_callV (ci := 11) (as := [(0, a1)]) (st := []) hC 0 (fD_X11_countOfLand_0 a1 ⟨by exact ow_79g_13 h0, by exact ow_79g_14 h0⟩) lm_X11_288 li_X11_countOfLand (by decide) (by decide) rfl rfl rfl (by decide) rfl rfl (Nat.le_of_ble_eq_true rfl) ⟨Nat.le_refl _, Or.inl rfl⟩ dX11_share_31 ⟨rfl, hV0⟩ (fun r82 V83 hp84 => ?_)
          obtain ⟨y85, rfl, b86, rfl, hE87⟩ := hp84
          replace hT := hT.trans (pf_call_eq hE87)
          change pm_J X 34 [(3, (0, 1)), (0, (3, 0)), (1, (0, a1)), (2, (0, a2))] [(0, y85)] 118 V0
          refine pm_goto (tgt := 38) hC dX11_share_34 (by decide) ?_
          refine pm_istore (lv' := [(4, (0, y85)), (3, (0, 1)), (0, (3, 0)), (1, (0, a1)), (2, (0, a2))]) hC dX11_share_38 (by decide) rfl ?_
          refine pm_iload hC 0 dX11_share_40 rfl ?_
          refine pm_if_gt (tgt := 47) hC ⟨by exact ow_79g_28 b86, by exact ow_79g_29 b86⟩ dX11_share_42 (by decide) (fun c88 => ?_) (fun c88 => ?_)
          · skip
            replace hT := hT.trans (if_pos c88)
            refine pm_iconst (v := 0) hC dX11_share_47 ?_
            refine pm_istore (lv' := [(5, (0, 0)), (4, (0, y85)), (3, (0, 1)), (0, (3, 0)), (1, (0, a1)), (2, (0, a2))]) hC dX11_share_48 (by decide) rfl ?_
            refine pm_iconst (v := 0) hC dX11_share_50 ?_
            refine pm_istore (lv' := [(6, (0, 0)), (5, (0, 0)), (4, (0, y85)), (3, (0, 1)), (0, (3, 0)), (1, (0, a1)), (2, (0, a2))]) hC dX11_share_51 (by decide) rfl ?_
            obtain ⟨B94, hB95, hT⟩ := pf_loop hT
            have L97 : ∀ (N99 : Nat) (x89 : Int) (x91 : Int), (0 ≤ x89 ∧ x89 ≤ 60) → (0 ≤ x91 ∧ x91 ≤ 60) → (x89 ≤ x91) → F_X11_share a1 a2 V0 = pf_val ((0 : Int), V0) B94 (x89, x91) → (Int.toNat (60 - x91)) = N99 → pm_J X 53 [(0, (3, 0)), (1, (0, a1)), (2, (0, a2)), (3, (0, 1)), (4, (0, y85)), (5, (0, x89)), (6, (0, x91))] [] 118 V0 := by
              intro N99
              induction N99 using Nat.strongRecOn with
              | _ N99 ih100 =>
              intro x89 x91 b90 b92 b93 hT hm98
              have hb96 := congrFun hB95 (x89, x91)
              refine pm_iload hC 6 dX11_share_53 rfl ?_
              refine pm_aload_n hC 0 (by decide) dX11_share_55 rfl ?_
              have e101 : V0 0 3 = 4 := hV0.one 0 3 (by decide) (by decide) rfl
              refine pm_getf (v := 4) hC 0 fl_X11_24 rfl rfl (by decide) rfl e101 dX11_share_56 ?_
              obtain ⟨y102, e103⟩ : ∃ y, V0 4 6 = y := ⟨_, rfl⟩
              have b104 := hV0.get 4 6 (lo := 0) (hi := 60) (by decide) (by decide) rfl
              rw [e103] at b104
              replace hb96 := hb96.trans (pf_let_eq e103)
              refine pm_getf (v := y102) hC 4 fl_X11_162 rfl rfl (by decide) rfl e103 dX11_share_59 ?_
              refine pm_icmp_ge (tgt := 127) hC ⟨by exact ow_79g_28 b92, by exact ow_79g_29 b92⟩ ⟨by exact ow_79g_28 b104, by exact ow_79g_29 b104⟩ dX11_share_62 (by decide) (fun c105 => ?_) (fun c105 => ?_)
              · skip
                replace hb96 := hb96.trans (if_pos c105)
                refine pm_iload hC 5 dX11_share_127 rfl ?_
                refine pm_sipush (v := 1000) hC dX11_share_129 (by decide) ?_
                refine pm_imul hC dX11_share_132 ?_
                refine pm_iload hC 4 dX11_share_133 rfl ?_
                refine pm_idiv hC ⟨by exact ow_79g_132 b90, by exact ow_79g_133 b90, by exact ow_79g_134 b90⟩ ⟨by exact ow_79g_135 c88, by exact ow_79g_136 c88, by exact ow_79g_29 b86⟩ dX11_share_135 ?_
                have b107 := pm_divb (x := (x89 * 1000)) (y := y85) (by exact ow_79g_132 b90) (by exact ow_79g_135 c88)
                obtain ⟨y106, hey106⟩ : ∃ z, ((x89 * 1000) / y85) = z := ⟨_, rfl⟩
                rw [hey106] at b107 ⊢
                replace hb96 := hb96.trans (pf_let_eq hey106)
                replace hT := hT.trans (pf_val_inr hb96)
                exact pm_iret hC hR pm_nar0 ⟨y106, rfl, ⟨by exact ow_79g_137 b107, by exact ow_79g_138 b90 b107⟩, rfl, hT⟩ dX11_share_136
              · skip
                replace hb96 := hb96.trans (if_neg (Int.not_le.mpr c105))
                refine pm_iload_n hC 2 dX11_share_65 rfl ?_
                refine pm_iconst (v := 4) hC dX11_share_66 ?_
                refine pm_icmp_ne (tgt := 83) hC ⟨by exact ow_79g_140 c78, by exact ow_79g_141 c78⟩ ⟨by decide, by decide⟩ dX11_share_67 (by decide) (fun c108 => ?_) (fun c108 => ?_)
                · skip
                  replace hb96 := hb96.trans (if_pos c108)
                  exfalso; exact ow_79g_142 c78 c108
                · skip
                  replace hb96 := hb96.trans (if_neg (fun q => q c108))
                  refine pm_aload_n hC 0 (by decide) dX11_share_70 rfl ?_
                  refine pm_getf (v := 4) hC 0 fl_X11_24 rfl rfl (by decide) rfl e101 dX11_share_71 ?_
                  have e109 : V0 4 11 = 13 := hV0.one 4 11 (by decide) (by decide) rfl
                  refine pm_getf (v := 13) hC 4 fl_X11_255 rfl rfl (by decide) rfl e109 dX11_share_74 ?_
                  refine pm_iload hC 6 dX11_share_77 rfl ?_
                  obtain ⟨y110, e111⟩ : ∃ y, V0 13 (x91 : Int).toNat = y := ⟨_, rfl⟩
                  replace hb96 := hb96.trans (pf_let_eq e111)
                  have b112 := hV0.get 13 (x91 : Int).toNat (lo := 0) (hi := 1) (by decide) (show _ < 60 by exact ow_79g_30 b104 c105) rfl
                  rw [e111] at b112
                  refine pm_zaload (len := 60) (v := y110) hC 13 rfl rfl (by decide) ⟨by exact ow_79g_31 b92, by exact ow_79g_32 b104 c105⟩ (by decide) e111 dX11_share_79 ?_
                  refine pm_goto (tgt := 101) hC dX11_share_80 (by decide) ?_
                  refine pm_istore (lv' := [(7, (0, y110)), (0, (3, 0)), (1, (0, a1)), (2, (0, a2)), (3, (0, 1)), (4, (0, y85)), (5, (0, x89)), (6, (0, x91))]) hC dX11_share_101 (by decide) rfl ?_
                  refine pm_aload_n hC 1 (by decide) dX11_share_103 rfl ?_
                  refine pm_iload hC 7 dX11_share_104 rfl ?_
                  refine pm_iload_n hC 2 dX11_share_106 rfl ?_
                  refine pm_callV (ci := 11) (as := [(0, x91), (0, a1)]) (st := []) hC 0 (fD_X11_isOfLand_0 x91 a1 ⟨by exact ow_79g_31 b92, by exact ow_79g_120 b104 c105⟩ ⟨by exact ow_79g_13 h0, by exact ow_79g_14 h0⟩) lm_X11_291 li_X11_isOfLand (by decide) (by decide) rfl rfl rfl (by decide) rfl rfl (Nat.le_of_ble_eq_true rfl) ⟨Nat.le_refl _, Or.inl rfl⟩ dX11_share_107 ⟨rfl, hV0⟩ (fun r113 V114 hp115 => ?_)
                  obtain ⟨y116, rfl, b117, rfl, hE118⟩ := hp115
                  replace hb96 := hb96.trans (pf_call_eq hE118)
                  change pm_J X 110 [(7, (0, y110)), (0, (3, 0)), (1, (0, a1)), (2, (0, a2)), (3, (0, 1)), (4, (0, y85)), (5, (0, x89)), (6, (0, x91))] [(0, y116)] 118 V0
                  refine pm_if_eq (tgt := 121) hC ⟨by exact ow_79g_9 b117, by exact ow_79g_10 b117⟩ dX11_share_110 (by decide) (fun c119 => ?_) (fun c119 => ?_)
                  · skip
                    replace hb96 := hb96.trans (if_pos c119)
                    obtain ⟨x120, ei121⟩ : ∃ y : Int, x91 + 1 = y := ⟨_, rfl⟩
                    replace hb96 := hb96.trans (pf_let_eq ei121)
                    refine pm_iinc (y := x120) (lv' := [(6, (0, x120)), (7, (0, y110)), (0, (3, 0)), (1, (0, a1)), (2, (0, a2)), (3, (0, 1)), (4, (0, y85)), (5, (0, x89))]) hC 7 dX11_share_121 (by decide) rfl ei121 rfl ?_
                    refine pm_goto (tgt := 53) hC dX11_share_124 (by decide) ?_
                    refine pm_lvsub [2, 3, 4, 5, 6, 7, 0] (lv' := [(0, (3, 0)), (1, (0, a1)), (2, (0, a2)), (3, (0, 1)), (4, (0, y85)), (5, (0, x89)), (6, (0, x120))]) rfl ?_
                    exact ih100 _ (by exact ow_79g_40 hm98 b104 c105 ei121) x89 x120 ⟨by exact ow_79g_31 b90, by exact ow_79g_119 b90⟩ ⟨by exact ow_79g_41 b92 ei121, by exact ow_79g_42 b104 c105 ei121⟩ (by exact ow_79g_121 b93 ei121) (hT.trans (pf_val_inl hb96)) rfl
                  · skip
                    replace hb96 := hb96.trans (if_neg c119)
                    refine pm_iload hC 0 dX11_share_113 rfl ?_
                    refine pm_if_eq (tgt := 121) hC ⟨by exact ow_79g_9 b112, by exact ow_79g_10 b112⟩ dX11_share_115 (by decide) (fun c122 => ?_) (fun c122 => ?_)
                    · skip
                      replace hb96 := hb96.trans (if_pos c122)
                      obtain ⟨x123, ei124⟩ : ∃ y : Int, x91 + 1 = y := ⟨_, rfl⟩
                      replace hb96 := hb96.trans (pf_let_eq ei124)
                      refine pm_iinc (y := x123) (lv' := [(6, (0, x123)), (7, (0, y110)), (0, (3, 0)), (1, (0, a1)), (2, (0, a2)), (3, (0, 1)), (4, (0, y85)), (5, (0, x89))]) hC 7 dX11_share_121 (by decide) rfl ei124 rfl ?_
                      refine pm_goto (tgt := 53) hC dX11_share_124 (by decide) ?_
                      refine pm_lvsub [2, 3, 4, 5, 6, 7, 0] (lv' := [(0, (3, 0)), (1, (0, a1)), (2, (0, a2)), (3, (0, 1)), (4, (0, y85)), (5, (0, x89)), (6, (0, x123))]) rfl ?_
                      exact ih100 _ (by exact ow_79g_40 hm98 b104 c105 ei124) x89 x123 ⟨by exact ow_79g_31 b90, by exact ow_79g_119 b90⟩ ⟨by exact ow_79g_41 b92 ei124, by exact ow_79g_42 b104 c105 ei124⟩ (by exact ow_79g_121 b93 ei124) (hT.trans (pf_val_inl hb96)) rfl
                    · skip
                      replace hb96 := hb96.trans (if_neg c122)
                      obtain ⟨x125, ei126⟩ : ∃ y : Int, x89 + 1 = y := ⟨_, rfl⟩
                      replace hb96 := hb96.trans (pf_let_eq ei126)
                      refine pm_iinc (y := x125) (lv' := [(5, (0, x125)), (7, (0, y110)), (0, (3, 0)), (1, (0, a1)), (2, (0, a2)), (3, (0, 1)), (4, (0, y85)), (6, (0, x91))]) hC 6 dX11_share_118 (by decide) rfl ei126 rfl ?_
                      obtain ⟨x127, ei128⟩ : ∃ y : Int, x91 + 1 = y := ⟨_, rfl⟩
                      replace hb96 := hb96.trans (pf_let_eq ei128)
                      refine pm_iinc (y := x127) (lv' := [(6, (0, x127)), (5, (0, x125)), (7, (0, y110)), (0, (3, 0)), (1, (0, a1)), (2, (0, a2)), (3, (0, 1)), (4, (0, y85))]) hC 7 dX11_share_121 (by decide) rfl ei128 rfl ?_
                      refine pm_goto (tgt := 53) hC dX11_share_124 (by decide) ?_
                      refine pm_lvsub [3, 4, 5, 6, 7, 1, 0] (lv' := [(0, (3, 0)), (1, (0, a1)), (2, (0, a2)), (3, (0, 1)), (4, (0, y85)), (5, (0, x125)), (6, (0, x127))]) rfl ?_
                      exact ih100 _ (by exact ow_79g_40 hm98 b104 c105 ei128) x125 x127 ⟨by exact ow_79g_41 b90 ei126, by exact ow_79g_122 b93 b104 c105 ei126⟩ ⟨by exact ow_79g_41 b92 ei128, by exact ow_79g_42 b104 c105 ei128⟩ (by exact ow_79g_123 b93 ei126 ei128) (hT.trans (pf_val_inl hb96)) rfl
            refine pm_lvsub [4, 5, 6, 3, 2, 1, 0] (lv' := [(0, (3, 0)), (1, (0, a1)), (2, (0, a2)), (3, (0, 1)), (4, (0, y85)), (5, (0, 0)), (6, (0, 0))]) rfl ?_
            exact L97 _ 0 0 ⟨by decide, by decide⟩ ⟨by decide, by decide⟩ (by exact ow_79g_7) hT rfl
          · skip
            replace hT := hT.trans (if_neg (Int.not_lt.mpr c88))
            refine pm_iconst (v := (-1)) hC dX11_share_45 ?_
            exact pm_iret hC hR pm_nar0 ⟨(-1), rfl, ⟨by exact ow_79g_11, by exact ow_79g_127⟩, rfl, hT⟩ dX11_share_46
