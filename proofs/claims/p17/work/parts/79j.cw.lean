theorem ow_79j_0 {a0 : Int} (h0 : (((-2147483648) ≤ (a0 : Int)) ∧ (a0 ≤ (2147483647 : Int)))) : ((-2147483648) ≤ (a0 : Int)) := by omega
theorem ow_79j_1 {a0 : Int} (h0 : (((-2147483648) ≤ (a0 : Int)) ∧ (a0 ≤ (2147483647 : Int)))) : (a0 ≤ (2147483647 : Int)) := by omega
theorem ow_79j_2 {a0 : Int} (h0 : ((a0 ≠ (42 : Int)) ∧ ((a0 ≠ (43 : Int)) ∧ ((a0 ≠ (45 : Int)) ∧ (a0 ≠ (60 : Int)))))) : ¬((42 = (a0 : Int))) := by omega
theorem ow_79j_3 {a0 : Int} (h0 : ((a0 ≠ (42 : Int)) ∧ ((a0 ≠ (43 : Int)) ∧ ((a0 ≠ (45 : Int)) ∧ (a0 ≠ (60 : Int)))))) : ¬((43 = (a0 : Int))) := by omega
theorem ow_79j_4 {a0 : Int} (h0 : ((a0 ≠ (42 : Int)) ∧ ((a0 ≠ (43 : Int)) ∧ ((a0 ≠ (45 : Int)) ∧ (a0 ≠ (60 : Int)))))) : ¬((45 = (a0 : Int))) := by omega
theorem ow_79j_5 {a0 : Int} (h0 : ((a0 ≠ (42 : Int)) ∧ ((a0 ≠ (43 : Int)) ∧ ((a0 ≠ (45 : Int)) ∧ (a0 ≠ (60 : Int)))))) : ¬((60 = (a0 : Int))) := by omega
theorem ow_79j_6 {a0 : Int} (h0 : (((-9223372036854775808) ≤ (a0 : Int)) ∧ (a0 ≤ (9223372036854775807 : Int)))) : ((-9223372036854775808) ≤ (a0 : Int)) := by omega
theorem ow_79j_7 {a0 : Int} (h0 : (((-9223372036854775808) ≤ (a0 : Int)) ∧ (a0 ≤ (9223372036854775807 : Int)))) : (a0 ≤ (9223372036854775807 : Int)) := by omega
theorem ow_79j_8 {a0 a1 a2 : Int} (h0 : (((a0 = (1 : Int)) ∧ (a1 < (a2 : Int))) ∨ (((a0 = (0 : Int)) ∧ (a2 = (a1 : Int))) ∨ ((a0 = ((-1) : Int)) ∧ (a2 < (a1 : Int)))))) : ((-2147483648) ≤ (a0 : Int)) := by omega
theorem ow_79j_9 {a0 a1 a2 : Int} (h0 : (((a0 = (1 : Int)) ∧ (a1 < (a2 : Int))) ∨ (((a0 = (0 : Int)) ∧ (a2 = (a1 : Int))) ∨ ((a0 = ((-1) : Int)) ∧ (a2 < (a1 : Int)))))) : (a0 ≤ (2147483647 : Int)) := by omega
theorem ow_79j_10 : ((0 = (0 : Int)) ∨ (0 = (1 : Int))) := by omega
theorem ow_79j_11 : (0 ≤ (0 : Int)) := by omega
theorem ow_79j_12 : (0 ≤ (1 : Int)) := by omega
theorem ow_79j_13 : ((1 = (0 : Int)) ∨ (1 = (1 : Int))) := by omega
theorem ow_79j_14 : (1 ≤ (1 : Int)) := by omega
theorem ow_79j_15 {a0 : Int} (h0 : (a0 = (42 : Int))) : ((-2147483648) ≤ (a0 : Int)) := by omega
theorem ow_79j_16 {a0 : Int} (h0 : (a0 = (42 : Int))) : (a0 ≤ (2147483647 : Int)) := by omega
theorem ow_79j_17 {a0 : Int} (h0 : (a0 = (42 : Int))) : ¬(((a0 ≠ (42 : Int)) ∧ ((a0 ≠ (43 : Int)) ∧ ((a0 ≠ (45 : Int)) ∧ (a0 ≠ (60 : Int)))))) := by omega
theorem ow_79j_18 {a0 : Int} (h0 : (((-1000000) ≤ (a0 : Int)) ∧ (a0 ≤ (1000000 : Int)))) : ((-9223372036854775808) ≤ (a0 : Int)) := by omega
theorem ow_79j_19 {a0 : Int} (h0 : (((-1000000) ≤ (a0 : Int)) ∧ (a0 ≤ (1000000 : Int)))) : (a0 ≤ (9223372036854775807 : Int)) := by omega
theorem ow_79j_20 {a0 : Int} (h0 : (a0 = (43 : Int))) : ((-2147483648) ≤ (a0 : Int)) := by omega
theorem ow_79j_21 {a0 : Int} (h0 : (a0 = (43 : Int))) : (a0 ≤ (2147483647 : Int)) := by omega
theorem ow_79j_22 {a0 : Int} (h0 : (a0 = (43 : Int))) : ¬(((a0 ≠ (42 : Int)) ∧ ((a0 ≠ (43 : Int)) ∧ ((a0 ≠ (45 : Int)) ∧ (a0 ≠ (60 : Int)))))) := by omega
theorem ow_79j_23 {a0 : Int} (h0 : (a0 = (43 : Int))) : ¬((a0 = (42 : Int))) := by omega
theorem ow_79j_24 {a0 : Int} (h0 : (a0 = (45 : Int))) : ((-2147483648) ≤ (a0 : Int)) := by omega
theorem ow_79j_25 {a0 : Int} (h0 : (a0 = (45 : Int))) : (a0 ≤ (2147483647 : Int)) := by omega
theorem ow_79j_26 {a0 : Int} (h0 : (a0 = (45 : Int))) : ¬(((a0 ≠ (42 : Int)) ∧ ((a0 ≠ (43 : Int)) ∧ ((a0 ≠ (45 : Int)) ∧ (a0 ≠ (60 : Int)))))) := by omega
theorem ow_79j_27 {a0 : Int} (h0 : (a0 = (45 : Int))) : ¬((a0 = (42 : Int))) := by omega
theorem ow_79j_28 {a0 : Int} (h0 : (a0 = (45 : Int))) : ¬((a0 = (43 : Int))) := by omega
theorem ow_79j_29 {a0 : Int} (h0 : (a0 = (60 : Int))) : ((-2147483648) ≤ (a0 : Int)) := by omega
theorem ow_79j_30 {a0 : Int} (h0 : (a0 = (60 : Int))) : (a0 ≤ (2147483647 : Int)) := by omega
theorem ow_79j_31 {a0 : Int} (h0 : (a0 = (60 : Int))) : ¬(((a0 ≠ (42 : Int)) ∧ ((a0 ≠ (43 : Int)) ∧ ((a0 ≠ (45 : Int)) ∧ (a0 ≠ (60 : Int)))))) := by omega
theorem ow_79j_32 {a0 : Int} (h0 : (a0 = (60 : Int))) : ¬((a0 = (42 : Int))) := by omega
theorem ow_79j_33 {a0 : Int} (h0 : (a0 = (60 : Int))) : ¬((a0 = (43 : Int))) := by omega
theorem ow_79j_34 {a0 : Int} (h0 : (a0 = (60 : Int))) : ¬((a0 = (45 : Int))) := by omega
theorem ow_79j_35 {a0 : Int} (h0 : ((0 ≤ (a0 : Int)) ∧ (a0 ≤ (9 : Int)))) : ((a0 : Int).toNat < (10 : Nat)) := by omega
theorem ow_79j_36 {a0 : Int} (h0 : ((0 ≤ (a0 : Int)) ∧ (a0 ≤ (9 : Int)))) : (0 ≤ (a0 : Int)) := by omega
theorem ow_79j_37 {a0 : Int} (h0 : ((0 ≤ (a0 : Int)) ∧ (a0 ≤ (9 : Int)))) : (a0 < (((10 : Nat) : Int) : Int)) := by omega
theorem ow_79j_38 {a0 : Int} (h0 : ((0 ≤ (a0 : Int)) ∧ (a0 ≤ (500 : Int)))) : ((-2147483648) ≤ (a0 : Int)) := by omega
theorem ow_79j_39 {a0 : Int} (h0 : ((0 ≤ (a0 : Int)) ∧ (a0 ≤ (500 : Int)))) : (a0 ≤ (2147483647 : Int)) := by omega
theorem ow_79j_40 {a0 a1 : Int} (h0 : ((0 ≤ (a0 : Int)) ∧ (a0 ≤ (500 : Int)))) (h1 : (a1 < (a0 : Int))) : ((a1 : Int).toNat < (500 : Nat)) := by omega
theorem ow_79j_41 {a0 : Int} (h0 : ((0 ≤ (a0 : Int)) ∧ (a0 ≤ (500 : Int)))) : (0 ≤ (a0 : Int)) := by omega
theorem ow_79j_42 {a0 a1 : Int} (h0 : ((0 ≤ (a0 : Int)) ∧ (a0 ≤ (500 : Int)))) (h1 : (a1 < (a0 : Int))) : (a1 < (((500 : Nat) : Int) : Int)) := by omega
theorem ow_79j_43 {a0 : Int} (h0 : ((0 ≤ (a0 : Int)) ∧ (a0 ≤ (30000 : Int)))) : ((-2147483648) ≤ (a0 : Int)) := by omega
theorem ow_79j_44 {a0 : Int} (h0 : ((0 ≤ (a0 : Int)) ∧ (a0 ≤ (30000 : Int)))) : (a0 ≤ (2147483647 : Int)) := by omega
theorem ow_79j_45 {a0 : Int} (h0 : (10000 ≤ (a0 : Int))) : ((-2147483648) ≤ (a0 : Int)) := by omega
theorem ow_79j_46 {a0 : Int} (h0 : (20000 ≤ (a0 : Int))) : ((-2147483648) ≤ ((a0 - 20000) : Int)) := by omega
theorem ow_79j_47 {a0 : Int} (h0 : ((0 ≤ (a0 : Int)) ∧ (a0 ≤ (30000 : Int)))) : ((a0 - 20000) ≤ (2147483647 : Int)) := by omega
theorem ow_79j_48 {a0 : Int} (h0 : ((0 ≤ (a0 : Int)) ∧ (a0 ≤ (1 : Int)))) : ((-2147483648) ≤ (a0 : Int)) := by omega
theorem ow_79j_49 {a0 : Int} (h0 : ((0 ≤ (a0 : Int)) ∧ (a0 ≤ (1 : Int)))) : (a0 ≤ (2147483647 : Int)) := by omega
theorem ow_79j_50 {a0 a2 a3 : Int} {k1 : Nat} (h0 : (((500 - a0) : Int).toNat = (k1 : Nat))) (h1 : ((0 ≤ (a2 : Int)) ∧ (a2 ≤ (500 : Int)))) (h2 : (a0 < (a2 : Int))) (h3 : ((a0 + 1) = (a3 : Int))) : (((500 - a3) : Int).toNat < (k1 : Nat)) := by omega
theorem ow_79j_51 {a0 a1 : Int} (h0 : ((0 ≤ (a0 : Int)) ∧ (a0 ≤ (500 : Int)))) (h1 : ((a0 + 1) = (a1 : Int))) : (0 ≤ (a1 : Int)) := by omega
theorem ow_79j_52 {a0 a1 a2 : Int} (h0 : ((0 ≤ (a0 : Int)) ∧ (a0 ≤ (500 : Int)))) (h1 : (a1 < (a0 : Int))) (h2 : ((a1 + 1) = (a2 : Int))) : (a2 ≤ (500 : Int)) := by omega
theorem ow_79j_53 {a0 : Int} (h0 : (10000 ≤ (a0 : Int))) : ((-2147483648) ≤ ((a0 - 10000) : Int)) := by omega
theorem ow_79j_54 {a0 : Int} (h0 : (a0 < (20000 : Int))) : ((a0 - 10000) ≤ (2147483647 : Int)) := by omega
theorem ow_79j_55 {a0 : Int} (h0 : ((a0 - 10000) < (7 : Int))) : (((a0 - 10000) : Int).toNat < (7 : Nat)) := by omega
theorem ow_79j_56 {a0 : Int} (h0 : (10000 ≤ (a0 : Int))) : (0 ≤ ((a0 - 10000) : Int)) := by omega
theorem ow_79j_57 {a0 : Int} (h0 : ((a0 - 10000) < (7 : Int))) : ((a0 - 10000) < (((7 : Nat) : Int) : Int)) := by omega
theorem ow_79j_58 {a0 : Int} (h0 : (a0 < (10000 : Int))) : (a0 ≤ (2147483647 : Int)) := by omega
theorem ow_79j_59 {a0 : Int} (h0 : ((0 ≤ (a0 : Int)) ∧ (a0 ≤ (30000 : Int)))) : ((-9223372036854775808) ≤ (a0 : Int)) := by omega
theorem ow_79j_60 {a0 : Int} (h0 : (a0 < (10000 : Int))) : (a0 ≤ (9223372036854775807 : Int)) := by omega
theorem ow_79j_61 {a0 : Int} (h0 : ((0 ≤ (a0 : Int)) ∧ (a0 ≤ (500 : Int)))) : (a0 ≤ (500 : Int)) := by omega
theorem ow_79j_62 {a0 : Int} (h0 : ((0 ≤ (a0 : Int)) ∧ (a0 ≤ (64 : Int)))) : ((-2147483648) ≤ (a0 : Int)) := by omega
theorem ow_79j_63 {a0 : Int} (h0 : ((0 ≤ (a0 : Int)) ∧ (a0 ≤ (64 : Int)))) : (a0 ≤ (2147483647 : Int)) := by omega
theorem ow_79j_64 {a0 : Int} (h0 : ((0 ≤ (a0 : Int)) ∧ (a0 ≤ (64 : Int)))) : (((a0 - 1) : Int).toNat < (64 : Nat)) := by omega
theorem ow_79j_65 {a0 : Int} (h0 : (0 < (a0 : Int))) : (0 ≤ ((a0 - 1) : Int)) := by omega
theorem ow_79j_66 {a0 : Int} (h0 : ((0 ≤ (a0 : Int)) ∧ (a0 ≤ (64 : Int)))) : ((a0 - 1) < (((64 : Nat) : Int) : Int)) := by omega
theorem ow_79j_67 {a0 : Int} (h0 : ((0 ≤ (a0 : Int)) ∧ (a0 ≤ (64 : Int)))) : ((a0 - 1) ≤ (64 : Int)) := by omega
theorem ow_79j_68 : ((-9223372036854775808) ≤ (0 : Int)) := by omega
theorem ow_79j_69 : (0 ≤ (9223372036854775807 : Int)) := by omega
theorem ow_79j_70 {a0 : Int} (h0 : ((0 ≤ (a0 : Int)) ∧ (a0 ≤ (64 : Int)))) : (0 ≤ (a0 : Int)) := by omega
theorem ow_79j_71 {a0 : Int} (h0 : (a0 < (64 : Int))) : (a0 < (((64 : Nat) : Int) : Int)) := by omega
theorem ow_79j_72 {a0 : Int} (h0 : ((0 ≤ (a0 : Int)) ∧ (a0 ≤ (64 : Int)))) : (0 ≤ ((a0 + 1) : Int)) := by omega
theorem ow_79j_73 {a0 : Int} (h0 : (a0 < (64 : Int))) : ((a0 + 1) ≤ (64 : Int)) := by omega
theorem ow_79j_74 {a0 a1 a2 a3 : Int} (h0 : ((0 ≤ (a0 : Int)) ∧ ((a0 ≤ (1 : Int)) ∧ ((a0 = (1 : Int)) → ((0 ≤ (a1 : Int)) ∧ ((a1 ≤ (999 : Int)) ∧ ((0 ≤ (a2 : Int)) ∧ ((a2 ≤ (99 : Int)) ∧ (((-99) ≤ (a3 : Int)) ∧ ((a3 ≤ (99 : Int)) ∧ (((a1 % 10) ≤ (8 : Int)) ∧ (((a1 / 10) % 10) ≤ (8 : Int))))))))))))) : ((-2147483648) ≤ (a0 : Int)) := by omega
theorem ow_79j_75 {a0 a1 a2 a3 : Int} (h0 : ((0 ≤ (a0 : Int)) ∧ ((a0 ≤ (1 : Int)) ∧ ((a0 = (1 : Int)) → ((0 ≤ (a1 : Int)) ∧ ((a1 ≤ (999 : Int)) ∧ ((0 ≤ (a2 : Int)) ∧ ((a2 ≤ (99 : Int)) ∧ (((-99) ≤ (a3 : Int)) ∧ ((a3 ≤ (99 : Int)) ∧ (((a1 % 10) ≤ (8 : Int)) ∧ (((a1 / 10) % 10) ≤ (8 : Int))))))))))))) : (a0 ≤ (2147483647 : Int)) := by omega
theorem ow_79j_76 {a0 a1 a2 a3 : Int} (h0 : ((0 ≤ (a0 : Int)) ∧ ((a0 ≤ (1 : Int)) ∧ ((a0 = (1 : Int)) → ((0 ≤ (a1 : Int)) ∧ ((a1 ≤ (999 : Int)) ∧ ((0 ≤ (a2 : Int)) ∧ ((a2 ≤ (99 : Int)) ∧ (((-99) ≤ (a3 : Int)) ∧ ((a3 ≤ (99 : Int)) ∧ (((a1 % 10) ≤ (8 : Int)) ∧ (((a1 / 10) % 10) ≤ (8 : Int))))))))))))) (h1 : ¬((a0 = (0 : Int)))) : (0 ≤ (a1 : Int)) := by omega
theorem ow_79j_77 {a0 a1 a2 a3 : Int} (h0 : ((0 ≤ (a0 : Int)) ∧ ((a0 ≤ (1 : Int)) ∧ ((a0 = (1 : Int)) → ((0 ≤ (a1 : Int)) ∧ ((a1 ≤ (999 : Int)) ∧ ((0 ≤ (a2 : Int)) ∧ ((a2 ≤ (99 : Int)) ∧ (((-99) ≤ (a3 : Int)) ∧ ((a3 ≤ (99 : Int)) ∧ (((a1 % 10) ≤ (8 : Int)) ∧ (((a1 / 10) % 10) ≤ (8 : Int))))))))))))) (h1 : ¬((a0 = (0 : Int)))) : (a1 ≤ (999 : Int)) := by omega
theorem ow_79j_78 {a0 a1 a2 a3 : Int} (h0 : ((0 ≤ (a0 : Int)) ∧ ((a0 ≤ (1 : Int)) ∧ ((a0 = (1 : Int)) → ((0 ≤ (a1 : Int)) ∧ ((a1 ≤ (999 : Int)) ∧ ((0 ≤ (a2 : Int)) ∧ ((a2 ≤ (99 : Int)) ∧ (((-99) ≤ (a3 : Int)) ∧ ((a3 ≤ (99 : Int)) ∧ (((a1 % 10) ≤ (8 : Int)) ∧ (((a1 / 10) % 10) ≤ (8 : Int))))))))))))) (h1 : ¬((a0 = (0 : Int)))) : (0 ≤ (a2 : Int)) := by omega
theorem ow_79j_79 {a0 a1 a2 a3 : Int} (h0 : ((0 ≤ (a0 : Int)) ∧ ((a0 ≤ (1 : Int)) ∧ ((a0 = (1 : Int)) → ((0 ≤ (a1 : Int)) ∧ ((a1 ≤ (999 : Int)) ∧ ((0 ≤ (a2 : Int)) ∧ ((a2 ≤ (99 : Int)) ∧ (((-99) ≤ (a3 : Int)) ∧ ((a3 ≤ (99 : Int)) ∧ (((a1 % 10) ≤ (8 : Int)) ∧ (((a1 / 10) % 10) ≤ (8 : Int))))))))))))) (h1 : ¬((a0 = (0 : Int)))) : (a2 ≤ (99 : Int)) := by omega
theorem ow_79j_80 {a0 a1 a2 a3 : Int} (h0 : ((0 ≤ (a0 : Int)) ∧ ((a0 ≤ (1 : Int)) ∧ ((a0 = (1 : Int)) → ((0 ≤ (a1 : Int)) ∧ ((a1 ≤ (999 : Int)) ∧ ((0 ≤ (a2 : Int)) ∧ ((a2 ≤ (99 : Int)) ∧ (((-99) ≤ (a3 : Int)) ∧ ((a3 ≤ (99 : Int)) ∧ (((a1 % 10) ≤ (8 : Int)) ∧ (((a1 / 10) % 10) ≤ (8 : Int))))))))))))) (h1 : ¬((a0 = (0 : Int)))) : ((-99) ≤ (a3 : Int)) := by omega
theorem ow_79j_81 {a0 a1 a2 a3 : Int} (h0 : ((0 ≤ (a0 : Int)) ∧ ((a0 ≤ (1 : Int)) ∧ ((a0 = (1 : Int)) → ((0 ≤ (a1 : Int)) ∧ ((a1 ≤ (999 : Int)) ∧ ((0 ≤ (a2 : Int)) ∧ ((a2 ≤ (99 : Int)) ∧ (((-99) ≤ (a3 : Int)) ∧ ((a3 ≤ (99 : Int)) ∧ (((a1 % 10) ≤ (8 : Int)) ∧ (((a1 / 10) % 10) ≤ (8 : Int))))))))))))) (h1 : ¬((a0 = (0 : Int)))) : (a3 ≤ (99 : Int)) := by omega
theorem ow_79j_82 {a0 a1 a2 a3 : Int} (h0 : ((0 ≤ (a0 : Int)) ∧ ((a0 ≤ (1 : Int)) ∧ ((a0 = (1 : Int)) → ((0 ≤ (a1 : Int)) ∧ ((a1 ≤ (999 : Int)) ∧ ((0 ≤ (a2 : Int)) ∧ ((a2 ≤ (99 : Int)) ∧ (((-99) ≤ (a3 : Int)) ∧ ((a3 ≤ (99 : Int)) ∧ (((a1 % 10) ≤ (8 : Int)) ∧ (((a1 / 10) % 10) ≤ (8 : Int))))))))))))) (h1 : ¬((a0 = (0 : Int)))) : (((a1 % 10) ≤ (8 : Int)) ∧ (((a1 / 10) % 10) ≤ (8 : Int))) := by omega
theorem ow_79j_83 {a0 : Int} (h0 : ((0 ≤ (a0 : Int)) ∧ (a0 ≤ (16 : Int)))) : ((-2147483648) ≤ (a0 : Int)) := by omega
theorem ow_79j_84 {a0 : Int} (h0 : ((0 ≤ (a0 : Int)) ∧ (a0 ≤ (16 : Int)))) : (a0 ≤ (2147483647 : Int)) := by omega
theorem ow_79j_85 {a0 : Int} (h0 : ((0 ≤ (a0 : Int)) ∧ (a0 ≤ (10 : Int)))) : ((-2147483648) ≤ (a0 : Int)) := by omega
theorem ow_79j_86 {a0 : Int} (h0 : ((0 ≤ (a0 : Int)) ∧ (a0 ≤ (10 : Int)))) : (a0 ≤ (2147483647 : Int)) := by omega
theorem ow_79j_87 : ((-1) ≤ ((-1) : Int)) := by omega
theorem ow_79j_88 : ((-1) ≤ (9 : Int)) := by omega
theorem ow_79j_89 {a0 : Int} (h0 : ((0 ≤ (a0 : Int)) ∧ (a0 ≤ (16 : Int)))) : (0 ≤ (a0 : Int)) := by omega
theorem ow_79j_90 {a0 a1 : Int} (h0 : ((0 ≤ (a0 : Int)) ∧ (a0 ≤ (10 : Int)))) (h1 : (a1 < (a0 : Int))) : (a1 ≤ (9 : Int)) := by omega
theorem ow_79j_91 {a0 a2 a3 : Int} {k1 : Nat} (h0 : (((16 - a0) : Int).toNat = (k1 : Nat))) (h1 : ((0 ≤ (a2 : Int)) ∧ (a2 ≤ (10 : Int)))) (h2 : (a0 < (a2 : Int))) (h3 : ((a0 + 1) = (a3 : Int))) : (((16 - a3) : Int).toNat < (k1 : Nat)) := by omega
theorem ow_79j_92 {a0 a1 : Int} (h0 : ((0 ≤ (a0 : Int)) ∧ (a0 ≤ (16 : Int)))) (h1 : ((a0 + 1) = (a1 : Int))) : (0 ≤ (a1 : Int)) := by omega
theorem ow_79j_93 {a0 a1 a2 : Int} (h0 : ((0 ≤ (a0 : Int)) ∧ (a0 ≤ (10 : Int)))) (h1 : (a1 < (a0 : Int))) (h2 : ((a1 + 1) = (a2 : Int))) : (a2 ≤ (16 : Int)) := by omega
theorem ow_79j_94 {a0 : Int} (h0 : (a0 = (0 : Int))) : ((-2147483648) ≤ (a0 : Int)) := by omega
theorem ow_79j_95 {a0 : Int} (h0 : (a0 = (0 : Int))) : (a0 ≤ (2147483647 : Int)) := by omega
theorem ow_79j_96 {a0 : Int} (h0 : (a0 = (0 : Int))) (h1 : ¬((a0 = (0 : Int)))) : False := by omega
theorem ow_79j_97 {a0 a1 : Int} (h0 : ((0 ≤ (a0 : Int)) ∧ (a0 ≤ (10 : Int)))) (h1 : (a1 < (a0 : Int))) : ((a1 : Int).toNat < (10 : Nat)) := by omega
theorem ow_79j_98 {a0 a1 : Int} (h0 : ((0 ≤ (a0 : Int)) ∧ (a0 ≤ (10 : Int)))) (h1 : (a1 < (a0 : Int))) : (a1 < (((10 : Nat) : Int) : Int)) := by omega
theorem ow_79j_99 {a0 : Int} (h0 : ((0 ≤ (a0 : Int)) ∧ (a0 ≤ (3 : Int)))) : ((-1) ≤ (a0 : Int)) := by omega
theorem ow_79j_100 {a0 : Int} (h0 : ((0 ≤ (a0 : Int)) ∧ (a0 ≤ (3 : Int)))) : (a0 ≤ (9 : Int)) := by omega
theorem ow_79j_101 {a0 : Int} (h0 : (a0 = (1 : Int))) : ((-2147483648) ≤ (a0 : Int)) := by omega
theorem ow_79j_102 {a0 : Int} (h0 : (a0 = (1 : Int))) : (a0 ≤ (2147483647 : Int)) := by omega
theorem ow_79j_103 {a0 : Int} (h0 : ((0 ≤ (a0 : Int)) ∧ (a0 ≤ (16 : Int)))) : ((-1) ≤ (a0 : Int)) := by omega
theorem ow_79j_104 {a0 : Int} (h0 : (a0 = (1 : Int))) (h1 : (a0 = (0 : Int))) : False := by omega
theorem ow_79j_105 {a0 a1 : Int} (h0 : (((a0 = (1 : Int)) ∧ (0 < (a1 : Int))) ∨ (((a0 = (0 : Int)) ∧ (a1 = (0 : Int))) ∨ ((a0 = ((-1) : Int)) ∧ (a1 < (0 : Int)))))) : ((-2147483648) ≤ (a0 : Int)) := by omega
theorem ow_79j_106 {a0 a1 : Int} (h0 : (((a0 = (1 : Int)) ∧ (0 < (a1 : Int))) ∨ (((a0 = (0 : Int)) ∧ (a1 = (0 : Int))) ∨ ((a0 = ((-1) : Int)) ∧ (a1 < (0 : Int)))))) : (a0 ≤ (2147483647 : Int)) := by omega
theorem ow_79j_107 {a0 : Int} (h0 : ((0 ≤ (a0 : Int)) ∧ (a0 ≤ (2147483647 : Int)))) : (0 ≤ (a0 : Int)) := by omega
theorem ow_79j_108 {a0 : Int} (h0 : ((0 ≤ (a0 : Int)) ∧ (a0 ≤ (2147483647 : Int)))) : ((-9223372036854775808) ≤ (a0 : Int)) := by omega
theorem ow_79j_109 {a0 : Int} (h0 : ((0 ≤ (a0 : Int)) ∧ (a0 ≤ (2147483647 : Int)))) : (a0 ≤ (9223372036854775807 : Int)) := by omega
theorem ow_79j_110 {a0 : Int} (h0 : ((0 ≤ (a0 : Int)) ∧ (a0 ≤ (2147483647 : Int)))) : (0 ≤ ((a0 / 256) : Int)) := by omega
theorem ow_79j_111 {a0 : Int} (h0 : ((0 ≤ (a0 : Int)) ∧ (a0 ≤ (2147483647 : Int)))) : ((-9223372036854775808) ≤ ((a0 / 256) : Int)) := by omega
theorem ow_79j_112 {a0 : Int} (h0 : ((0 ≤ (a0 : Int)) ∧ (a0 ≤ (2147483647 : Int)))) : ((a0 / 256) ≤ (9223372036854775807 : Int)) := by omega
theorem ow_79j_113 {a0 a1 : Int} (h0 : (((a0 = (1 : Int)) ∧ (0 < (a1 : Int))) ∨ (((a0 = (0 : Int)) ∧ (a1 = (0 : Int))) ∨ ((a0 = ((-1) : Int)) ∧ (a1 < (0 : Int)))))) (h1 : (0 < (a0 : Int))) : (0 < (a1 : Int)) := by omega
theorem ow_79j_114 {a0 a1 a2 : Int} (h0 : ((0 ≤ (a0 : Int)) ∧ ((a0 < (a1 : Int)) ∧ (a0 ≤ ((a2 / 256) : Int))))) : (0 ≤ (a0 : Int)) := by omega
theorem ow_79j_115 {a0 a1 a2 : Int} (h0 : ((0 ≤ (a0 : Int)) ∧ (a0 ≤ (2147483647 : Int)))) (h1 : ((0 ≤ (a1 : Int)) ∧ ((a1 < (a2 : Int)) ∧ (a1 ≤ ((a0 / 256) : Int))))) : (a1 ≤ (8388607 : Int)) := by omega
theorem ow_79j_116 {a0 a1 a2 : Int} (h0 : ((0 ≤ (a0 : Int)) ∧ ((a0 < (a1 : Int)) ∧ (a0 ≤ ((a2 / 256) : Int))))) : ((0 < (a1 : Int)) → (a0 < (a1 : Int))) := by omega
theorem ow_79j_117 {a0 a1 a2 : Int} (h0 : ((0 ≤ (a0 : Int)) ∧ ((a0 < (a1 : Int)) ∧ (a0 ≤ ((a2 / 256) : Int))))) : ((a1 ≤ (0 : Int)) → (a0 = (0 : Int))) := by omega
theorem ow_79j_118 : (0 ≤ (8388607 : Int)) := by omega
theorem ow_79j_119 {a0 : Int} : ((0 < (a0 : Int)) → (0 < (a0 : Int))) := by omega
theorem ow_79j_120 {a0 : Int} : ((a0 ≤ (0 : Int)) → (0 = (0 : Int))) := by omega
theorem ow_79j_121 {a0 : Int} (h0 : ((0 ≤ (a0 : Int)) ∧ (a0 ≤ (9 : Int)))) : ((-2147483648) ≤ (a0 : Int)) := by omega
theorem ow_79j_122 {a0 : Int} (h0 : ((0 ≤ (a0 : Int)) ∧ (a0 ≤ (9 : Int)))) : (a0 ≤ (2147483647 : Int)) := by omega
theorem ow_79j_123 : (0 ≤ (8 : Int)) := by omega
theorem ow_79j_124 {a0 a1 : Int} (h0 : ((0 ≤ (a0 : Int)) ∧ (a0 ≤ (9 : Int)))) (h1 : (a1 < (a0 : Int))) : ((a1 : Int).toNat < (9 : Nat)) := by omega
theorem ow_79j_125 {a0 a1 : Int} (h0 : ((0 ≤ (a0 : Int)) ∧ (a0 ≤ (9 : Int)))) (h1 : (a1 < (a0 : Int))) : (a1 < (((9 : Nat) : Int) : Int)) := by omega
theorem ow_79j_126 {a0 a2 a3 : Int} {k1 : Nat} (h0 : (((9 - a0) : Int).toNat = (k1 : Nat))) (h1 : ((0 ≤ (a2 : Int)) ∧ (a2 ≤ (9 : Int)))) (h2 : (a0 < (a2 : Int))) (h3 : ((a0 + 1) = (a3 : Int))) : (((9 - a3) : Int).toNat < (k1 : Nat)) := by omega
theorem ow_79j_127 {a0 a1 : Int} (h0 : ((0 ≤ (a0 : Int)) ∧ (a0 ≤ (9 : Int)))) (h1 : ((a0 + 1) = (a1 : Int))) : (0 ≤ (a1 : Int)) := by omega
theorem ow_79j_128 {a0 a1 a2 : Int} (h0 : ((0 ≤ (a0 : Int)) ∧ (a0 ≤ (9 : Int)))) (h1 : (a1 < (a0 : Int))) (h2 : ((a1 + 1) = (a2 : Int))) : (a2 ≤ (9 : Int)) := by omega
theorem ow_79j_129 {a0 a1 : Int} (h0 : ((0 ≤ (a0 : Int)) ∧ (a0 ≤ (9 : Int)))) (h1 : (a1 < (a0 : Int))) : (a1 ≤ (8 : Int)) := by omega
theorem ow_79j_130 {a0 : Int} (h0 : ((0 ≤ (a0 : Int)) ∧ (a0 ≤ (9 : Int)))) : ((-9223372036854775808) ≤ (a0 : Int)) := by omega
theorem ow_79j_131 {a0 : Int} (h0 : ((0 ≤ (a0 : Int)) ∧ (a0 ≤ (9 : Int)))) : (a0 ≤ (9223372036854775807 : Int)) := by omega
theorem ow_79j_132 {a0 : Int} (h0 : ((0 ≤ (a0 : Int)) ∧ (a0 ≤ (9 : Int)))) : (a0 ≤ (9 : Int)) := by omega
theorem ow_79j_133 {a0 a1 : Int} (h0 : ((0 ≤ (a0 : Int)) ∧ ((a0 ≤ (8388607 : Int)) ∧ ((0 ≤ (a0 : Int)) ∧ (((0 < (a1 : Int)) → (a0 < (a1 : Int))) ∧ ((a1 ≤ (0 : Int)) → (a0 = (0 : Int)))))))) : (0 ≤ (a0 : Int)) := by omega
theorem ow_79j_134 {a0 a1 : Int} (h0 : ((0 ≤ (a0 : Int)) ∧ (a0 ≤ (9 : Int)))) (h1 : ((0 ≤ (a1 : Int)) ∧ ((a1 ≤ (8388607 : Int)) ∧ ((0 ≤ (a1 : Int)) ∧ (((0 < (a0 : Int)) → (a1 < (a0 : Int))) ∧ ((a0 ≤ (0 : Int)) → (a1 = (0 : Int)))))))) : (a1 ≤ (8 : Int)) := by omega
theorem ow_79j_135 {a0 : Int} (h0 : ((0 ≤ (a0 : Int)) ∧ ((a0 ≤ (999 : Int)) ∧ (((a0 % 10) ≤ (8 : Int)) ∧ (((a0 / 10) % 10) ≤ (8 : Int)))))) : (0 ≤ (a0 : Int)) := by omega
theorem ow_79j_136 {a0 : Int} (h0 : ((0 ≤ (a0 : Int)) ∧ ((a0 ≤ (999 : Int)) ∧ (((a0 % 10) ≤ (8 : Int)) ∧ (((a0 / 10) % 10) ≤ (8 : Int)))))) : (a0 ≤ (999 : Int)) := by omega
theorem ow_79j_137 {a0 a1 : Int} (h0 : ((0 ≤ (a0 : Int)) ∧ ((a0 ≤ (8388607 : Int)) ∧ ((0 ≤ (a0 : Int)) ∧ (((0 < (10 : Int)) → (a0 < (10 : Int))) ∧ ((10 ≤ (0 : Int)) → (a0 = (0 : Int)))))))) (h1 : ((0 ≤ (a1 : Int)) ∧ ((a1 ≤ (8388607 : Int)) ∧ ((0 ≤ (a1 : Int)) ∧ (((0 < (10 : Int)) → (a1 < (10 : Int))) ∧ ((10 ≤ (0 : Int)) → (a1 = (0 : Int)))))))) : (0 ≤ (((a0 * 10) + a1) : Int)) := by omega
theorem ow_79j_138 {a0 a1 : Int} (h0 : ((0 ≤ (a0 : Int)) ∧ ((a0 ≤ (8388607 : Int)) ∧ ((0 ≤ (a0 : Int)) ∧ (((0 < (10 : Int)) → (a0 < (10 : Int))) ∧ ((10 ≤ (0 : Int)) → (a0 = (0 : Int)))))))) (h1 : ((0 ≤ (a1 : Int)) ∧ ((a1 ≤ (8388607 : Int)) ∧ ((0 ≤ (a1 : Int)) ∧ (((0 < (10 : Int)) → (a1 < (10 : Int))) ∧ ((10 ≤ (0 : Int)) → (a1 = (0 : Int)))))))) : (((a0 * 10) + a1) ≤ (99 : Int)) := by omega
theorem ow_79j_139 {a0 : Int} (h0 : ((0 ≤ (a0 : Int)) ∧ ((a0 ≤ (8388607 : Int)) ∧ ((0 ≤ (a0 : Int)) ∧ (((0 < (199 : Int)) → (a0 < (199 : Int))) ∧ ((199 ≤ (0 : Int)) → (a0 = (0 : Int)))))))) : ((-99) ≤ ((a0 - 99) : Int)) := by omega
theorem ow_79j_140 {a0 : Int} (h0 : ((0 ≤ (a0 : Int)) ∧ ((a0 ≤ (8388607 : Int)) ∧ ((0 ≤ (a0 : Int)) ∧ (((0 < (199 : Int)) → (a0 < (199 : Int))) ∧ ((199 ≤ (0 : Int)) → (a0 = (0 : Int)))))))) : ((a0 - 99) ≤ (99 : Int)) := by omega
theorem ow_79j_141 {a0 : Int} (h0 : ((0 ≤ (a0 : Int)) ∧ ((a0 ≤ (999 : Int)) ∧ (((a0 % 10) ≤ (8 : Int)) ∧ (((a0 / 10) % 10) ≤ (8 : Int)))))) : (((a0 % 10) ≤ (8 : Int)) ∧ (((a0 / 10) % 10) ≤ (8 : Int))) := by omega
theorem ow_79j_142 {a0 a1 : Int} (h0 : ((0 ≤ (a0 : Int)) ∧ ((a0 ≤ (8388607 : Int)) ∧ ((0 ≤ (a0 : Int)) ∧ (((0 < (a1 : Int)) → (a0 < (a1 : Int))) ∧ ((a1 ≤ (0 : Int)) → (a0 = (0 : Int)))))))) : ((-2147483648) ≤ (a0 : Int)) := by omega
theorem ow_79j_143 {a0 a1 : Int} (h0 : ((0 ≤ (a0 : Int)) ∧ ((a0 ≤ (8388607 : Int)) ∧ ((0 ≤ (a0 : Int)) ∧ (((0 < (a1 : Int)) → (a0 < (a1 : Int))) ∧ ((a1 ≤ (0 : Int)) → (a0 = (0 : Int)))))))) : (a0 ≤ (2147483647 : Int)) := by omega
theorem ow_79j_144 {a0 a1 : Int} (h0 : ((0 ≤ (a0 : Int)) ∧ ((a0 ≤ (8388607 : Int)) ∧ ((0 ≤ (a0 : Int)) ∧ (((0 < (a1 : Int)) → (a0 < (a1 : Int))) ∧ ((a1 ≤ (0 : Int)) → (a0 = (0 : Int)))))))) : ((-9223372036854775808) ≤ (a0 : Int)) := by omega
theorem ow_79j_145 {a0 a1 : Int} (h0 : ((0 ≤ (a0 : Int)) ∧ ((a0 ≤ (8388607 : Int)) ∧ ((0 ≤ (a0 : Int)) ∧ (((0 < (a1 : Int)) → (a0 < (a1 : Int))) ∧ ((a1 ≤ (0 : Int)) → (a0 = (0 : Int)))))))) : (a0 ≤ (9223372036854775807 : Int)) := by omega
theorem ow_79j_146 {a0 : Int} (h0 : ((0 ≤ (a0 : Int)) ∧ ((a0 ≤ (8388607 : Int)) ∧ ((0 ≤ (a0 : Int)) ∧ (((0 < (1000 : Int)) → (a0 < (1000 : Int))) ∧ ((1000 ≤ (0 : Int)) → (a0 = (0 : Int)))))))) : ((-2147483648) ≤ (a0 : Int)) := by omega
theorem ow_79j_147 {a0 : Int} (h0 : ((0 ≤ (a0 : Int)) ∧ ((a0 ≤ (8388607 : Int)) ∧ ((0 ≤ (a0 : Int)) ∧ (((0 < (1000 : Int)) → (a0 < (1000 : Int))) ∧ ((1000 ≤ (0 : Int)) → (a0 = (0 : Int)))))))) : (a0 ≤ (2147483647 : Int)) := by omega
theorem ow_79j_148 {a0 : Int} (h0 : ((0 ≤ (a0 : Int)) ∧ (a0 ≤ (8 : Int)))) : (0 ≤ (a0 : Int)) := by omega
theorem ow_79j_149 {a0 : Int} (h0 : ((0 ≤ (a0 : Int)) ∧ (a0 ≤ (8 : Int)))) : (a0 ≤ (8 : Int)) := by omega
theorem ow_79j_150 {a0 : Int} (h0 : (a0 < (60 : Int))) : (a0 < (60 : Int)) := by omega
theorem ow_79j_151 {a0 a1 : Int} (h0 : (a0 = ((a1 + 1) : Int))) : (a0 = ((a1 + 1) : Int)) := by omega
theorem ow_79j_152 {a0 a1 : Int} (h0 : ((0 ≤ (a0 : Int)) ∧ ((a0 ≤ (1 : Int)) ∧ ((a0 = (1 : Int)) → ((0 ≤ (a1 : Int)) ∧ (a1 ≤ (6 : Int))))))) : ((-2147483648) ≤ (a0 : Int)) := by omega
theorem ow_79j_153 {a0 a1 : Int} (h0 : ((0 ≤ (a0 : Int)) ∧ ((a0 ≤ (1 : Int)) ∧ ((a0 = (1 : Int)) → ((0 ≤ (a1 : Int)) ∧ (a1 ≤ (6 : Int))))))) : (a0 ≤ (2147483647 : Int)) := by omega
theorem ow_79j_154 : ((-1) ≤ (60 : Int)) := by omega
theorem ow_79j_155 (h0 : ¬((0 = (0 : Int)))) : False := by omega
theorem ow_79j_156 {a0 a1 : Int} (h0 : ((0 ≤ (a0 : Int)) ∧ ((a0 ≤ (1 : Int)) ∧ ((a0 = (1 : Int)) → ((0 ≤ (a1 : Int)) ∧ (a1 ≤ (9 : Int))))))) : ((-2147483648) ≤ (a0 : Int)) := by omega
theorem ow_79j_157 {a0 a1 : Int} (h0 : ((0 ≤ (a0 : Int)) ∧ ((a0 ≤ (1 : Int)) ∧ ((a0 = (1 : Int)) → ((0 ≤ (a1 : Int)) ∧ (a1 ≤ (9 : Int))))))) : (a0 ≤ (2147483647 : Int)) := by omega
theorem ow_79j_158 {a0 : Int} (h0 : (0 ≤ (a0 : Int))) : ((-2147483648) ≤ (a0 : Int)) := by omega
theorem ow_79j_159 (h0 : (1 = (0 : Int))) : False := by omega
theorem ow_79j_160 {a0 : Int} (h0 : (1 ≤ (a0 : Int))) : ((-2147483648) ≤ (a0 : Int)) := by omega
theorem ow_79j_161 {a0 a1 : Int} (h0 : ((0 ≤ (a0 : Int)) ∧ (a0 ≤ (60 : Int)))) (h1 : (1 ≤ (a1 : Int))) : ((-2147483648) ≤ ((a0 + a1) : Int)) := by omega
theorem ow_79j_162 {a0 a1 : Int} (h0 : ((0 ≤ (a0 : Int)) ∧ (a0 ≤ (60 : Int)))) (h1 : (a1 ≤ (20 : Int))) : ((a0 + a1) ≤ (2147483647 : Int)) := by omega
theorem ow_79j_163 {a0 : Int} (h0 : (a0 ≤ (1000000 : Int))) : (a0 ≤ (2147483647 : Int)) := by omega
theorem ow_79j_164 {a0 : Int} (h0 : (0 ≤ (a0 : Int))) : ((-9223372036854775808) ≤ (a0 : Int)) := by omega
theorem ow_79j_165 {a0 : Int} (h0 : (a0 ≤ (1000000 : Int))) : (a0 ≤ (9223372036854775807 : Int)) := by omega
theorem ow_79j_166 {a0 : Int} (h0 : ((0 ≤ (a0 : Int)) ∧ (a0 ≤ (20 : Int)))) : ((-2147483648) ≤ (a0 : Int)) := by omega
theorem ow_79j_167 {a0 : Int} (h0 : ((0 ≤ (a0 : Int)) ∧ (a0 ≤ (20 : Int)))) : (a0 ≤ (2147483647 : Int)) := by omega
theorem ow_79j_168 {a0 : Int} (h0 : (a0 ≤ (20 : Int))) : (a0 ≤ (2147483647 : Int)) := by omega
theorem ow_79j_169 {a0 : Int} (h0 : ((0 ≤ (a0 : Int)) ∧ (a0 ≤ (60 : Int)))) : ((-1) ≤ (a0 : Int)) := by omega
theorem ow_79j_170 {a0 : Int} (h0 : ((0 ≤ (a0 : Int)) ∧ (a0 ≤ (60 : Int)))) : (a0 ≤ (60 : Int)) := by omega
theorem ow_79j_171 {a0 : Int} (h0 : ((0 ≤ (a0 : Int)) ∧ (a0 ≤ (60 : Int)))) : (0 ≤ (a0 : Int)) := by omega
theorem ow_79j_172 {a0 a1 a2 a3 a4 : Int} (h0 : (a0 ≤ (a1 : Int))) (h1 : (a2 = ((a3 + a0) : Int))) (h2 : (a1 ≤ (a0 : Int))) (h3 : (a2 = (a4 : Int))) : (a4 = ((a3 + a1) : Int)) := by omega
theorem ow_79j_173 {a0 a1 : Int} (h0 : ((0 ≤ (a0 : Int)) ∧ ((a0 ≤ (1 : Int)) ∧ ((a0 = (1 : Int)) → ((0 ≤ (a1 : Int)) ∧ (a1 ≤ (9 : Int))))))) (h1 : ¬((a0 = (0 : Int)))) : (0 ≤ (a1 : Int)) := by omega
theorem ow_79j_174 {a0 a1 : Int} (h0 : ((0 ≤ (a0 : Int)) ∧ ((a0 ≤ (1 : Int)) ∧ ((a0 = (1 : Int)) → ((0 ≤ (a1 : Int)) ∧ (a1 ≤ (9 : Int))))))) (h1 : ¬((a0 = (0 : Int)))) : (a1 ≤ (9 : Int)) := by omega
theorem ow_79j_175 {a0 a1 a2 a3 a4 : Int} (h0 : ((a0 + a1) ≤ (60 : Int))) (h1 : (a2 = ((a0 + a3) : Int))) (h2 : (a3 < (a1 : Int))) (h3 : (a2 = (a4 : Int))) : (a4 < (60 : Int)) := by omega
theorem ow_79j_176 {a0 a1 a3 : Int} {k2 : Nat} (h0 : (a0 ≤ (20 : Int))) (h1 : (((20 - a1) : Int).toNat = (k2 : Nat))) (h2 : (a1 < (a0 : Int))) (h3 : ((a1 + 1) = (a3 : Int))) : (((20 - a3) : Int).toNat < (k2 : Nat)) := by omega
theorem ow_79j_177 {a0 a1 : Int} (h0 : ((0 ≤ (a0 : Int)) ∧ (a0 ≤ (20 : Int)))) (h1 : ((a0 + 1) = (a1 : Int))) : (0 ≤ (a1 : Int)) := by omega
theorem ow_79j_178 {a0 a1 a2 : Int} (h0 : (a0 ≤ (20 : Int))) (h1 : (a1 < (a0 : Int))) (h2 : ((a1 + 1) = (a2 : Int))) : (a2 ≤ (20 : Int)) := by omega
theorem ow_79j_179 {a0 a1 a2 : Int} (h0 : (a0 < (a1 : Int))) (h1 : ((a0 + 1) = (a2 : Int))) : (a2 ≤ (a1 : Int)) := by omega
theorem ow_79j_180 {a0 a1 a2 a3 a4 a5 : Int} (h0 : (a0 = ((a1 + a2) : Int))) (h1 : (a0 = (a3 : Int))) (h2 : (a4 = ((a3 + 1) : Int))) (h3 : ((a2 + 1) = (a5 : Int))) : (a4 = ((a1 + a5) : Int)) := by omega
theorem ow_79j_181 {a0 : Int} (h0 : (1 ≤ (a0 : Int))) : (0 ≤ (a0 : Int)) := by omega
theorem ow_79j_182 {a0 : Int} : (a0 = ((a0 + 0) : Int)) := by omega
theorem ow_79j_183 {a0 : Int} (h0 : ((0 ≤ (a0 : Int)) ∧ (a0 ≤ (10 : Int)))) : (0 ≤ (a0 : Int)) := by omega
theorem ow_79j_184 {a0 : Int} (h0 : ((0 ≤ (a0 : Int)) ∧ (a0 ≤ (10 : Int)))) : (a0 ≤ (10 : Int)) := by omega
theorem ow_79j_185 {a0 : Int} (h0 : ((0 ≤ (a0 : Int)) ∧ (a0 ≤ (60 : Int)))) : ((-2147483648) ≤ (a0 : Int)) := by omega
theorem ow_79j_186 {a0 : Int} (h0 : ((0 ≤ (a0 : Int)) ∧ (a0 ≤ (60 : Int)))) : (a0 ≤ (2147483647 : Int)) := by omega
theorem ow_79j_187 {a0 a1 : Int} (h0 : ((0 ≤ (a0 : Int)) ∧ (a0 ≤ (60 : Int)))) (h1 : (a1 < (a0 : Int))) : ((a1 : Int).toNat < (60 : Nat)) := by omega
theorem ow_79j_188 {a0 a1 : Int} (h0 : ((0 ≤ (a0 : Int)) ∧ (a0 ≤ (60 : Int)))) (h1 : (a1 < (a0 : Int))) : (a1 < (((60 : Nat) : Int) : Int)) := by omega
theorem ow_79j_189 {a0 : Int} (h0 : ((0 ≤ (a0 : Int)) ∧ (a0 ≤ (1 : Int)))) : ((a0 = (0 : Int)) ∨ (a0 = (1 : Int))) := by omega
theorem ow_79j_190 {a0 a1 a3 : Int} {k2 : Nat} (h0 : ((0 ≤ (a0 : Int)) ∧ (a0 ≤ (60 : Int)))) (h1 : (((60 - a1) : Int).toNat = (k2 : Nat))) (h2 : (a1 < (a0 : Int))) (h3 : ((a1 + 1) = (a3 : Int))) : (((60 - a3) : Int).toNat < (k2 : Nat)) := by omega
theorem ow_79j_191 {a0 a1 : Int} (h0 : ((0 ≤ (a0 : Int)) ∧ (a0 ≤ (60 : Int)))) (h1 : ((a0 + 1) = (a1 : Int))) : (0 ≤ (a1 : Int)) := by omega
theorem ow_79j_192 {a0 a1 a2 : Int} (h0 : ((0 ≤ (a0 : Int)) ∧ (a0 ≤ (60 : Int)))) (h1 : (a1 < (a0 : Int))) (h2 : ((a1 + 1) = (a2 : Int))) : (a2 ≤ (60 : Int)) := by omega
theorem ow_79j_193 {a0 : Int} (h0 : ((0 ≤ (a0 : Int)) ∧ ((a0 ≤ (999 : Int)) ∧ (((a0 % 10) ≤ (8 : Int)) ∧ (((a0 / 10) % 10) ≤ (8 : Int)))))) : ((0 ≤ (a0 : Int)) ∧ ((a0 ≤ (999 : Int)) ∧ (((a0 % 10) ≤ (8 : Int)) ∧ (((a0 / 10) % 10) ≤ (8 : Int))))) := by omega
theorem ow_79j_194 {a0 : Int} (h0 : ((0 ≤ (a0 : Int)) ∧ (a0 ≤ (99 : Int)))) : (0 ≤ (a0 : Int)) := by omega
theorem ow_79j_195 {a0 : Int} (h0 : ((0 ≤ (a0 : Int)) ∧ (a0 ≤ (99 : Int)))) : (a0 ≤ (99 : Int)) := by omega
theorem ow_79j_196 {a0 : Int} (h0 : (((-99) ≤ (a0 : Int)) ∧ (a0 ≤ (99 : Int)))) : ((-99) ≤ (a0 : Int)) := by omega
theorem ow_79j_197 {a0 : Int} (h0 : (((-99) ≤ (a0 : Int)) ∧ (a0 ≤ (99 : Int)))) : (a0 ≤ (99 : Int)) := by omega
theorem ow_79j_198 {a0 : Int} (h0 : ((0 ≤ (a0 : Int)) ∧ (a0 ≤ (1 : Int)))) : (0 ≤ (a0 : Int)) := by omega
theorem ow_79j_199 {a0 : Int} (h0 : ((0 ≤ (a0 : Int)) ∧ (a0 ≤ (1 : Int)))) : (a0 ≤ (1 : Int)) := by omega
theorem ow_79j_200 {a0 a1 a3 : Int} {k2 : Nat} (h0 : ((0 ≤ (a0 : Int)) ∧ (a0 ≤ (10 : Int)))) (h1 : (((16 - a1) : Int).toNat = (k2 : Nat))) (h2 : (a1 < (a0 : Int))) (h3 : ((a1 + 1) = (a3 : Int))) : (((16 - a3) : Int).toNat < (k2 : Nat)) := by omega
theorem ow_79j_201 {a0 : Int} (h0 : (((-30) ≤ (a0 : Int)) ∧ (a0 ≤ (30 : Int)))) : ((-30) ≤ (a0 : Int)) := by omega
theorem ow_79j_202 {a0 : Int} (h0 : (((-30) ≤ (a0 : Int)) ∧ (a0 ≤ (30 : Int)))) : (a0 ≤ (30 : Int)) := by omega
theorem ow_79j_203 {a0 : Int} (h0 : ((0 ≤ (a0 : Int)) ∧ (a0 ≤ (16 : Int)))) : (a0 ≤ (16 : Int)) := by omega
theorem ow_79j_204 {a0 : Int} (h0 : ((0 ≤ (a0 : Int)) ∧ (a0 ≤ (3 : Int)))) : (0 ≤ (a0 : Int)) := by omega
theorem ow_79j_205 {a0 : Int} (h0 : ((0 ≤ (a0 : Int)) ∧ (a0 ≤ (3 : Int)))) : (a0 ≤ (3 : Int)) := by omega
noncomputable def F_X2_applies (rc : Nat) (a1 : Int) (V0 : pm_M) : Int × pm_M := pf_call (F_X2_pop rc V0) fun y4 V2 => pf_call (F_X2_pop rc V2) fun y13 V11 => (if a1 ≠ 42 ∧ a1 ≠ 43 ∧ a1 ≠ 45 ∧ a1 ≠ 60 then (pf_let (pm_cmp y13 y4) fun y20 => (if ¬ (y20 = 0) then ((0, V11)) else ((1, V11)))) else (if a1 = 42 then (pf_let (pm_w64 (y13 * y4)) fun y23 => pf_call (F_X2_bounded y23 V11) fun y29 _ => pf_call (F_X2_push rc y29 V11) fun _ V33 => (1, V33)) else (if a1 = 43 then (pf_let (pm_w64 (y13 + y4)) fun y39 => pf_call (F_X2_bounded y39 V11) fun y45 _ => pf_call (F_X2_push rc y45 V11) fun _ V49 => (1, V49)) else (if a1 = 45 then (pf_let (pm_w64 (y13 - y4)) fun y55 => pf_call (F_X2_bounded y55 V11) fun y61 _ => pf_call (F_X2_push rc y61 V11) fun _ V65 => (1, V65)) else (if a1 = 60 then (pf_let (pm_cmp y13 y4) fun y71 => (if 0 ≤ y71 then ((0, V11)) else ((1, V11)))) else (((0 : Int), V0)))))))
theorem F_X2_applies_eq (rc : Nat) (a1 : Int) (V0 : pm_M) : F_X2_applies rc a1 V0 = pf_call (F_X2_pop rc V0) fun y4 V2 => pf_call (F_X2_pop rc V2) fun y13 V11 => (if a1 ≠ 42 ∧ a1 ≠ 43 ∧ a1 ≠ 45 ∧ a1 ≠ 60 then (pf_let (pm_cmp y13 y4) fun y20 => (if ¬ (y20 = 0) then ((0, V11)) else ((1, V11)))) else (if a1 = 42 then (pf_let (pm_w64 (y13 * y4)) fun y23 => pf_call (F_X2_bounded y23 V11) fun y29 _ => pf_call (F_X2_push rc y29 V11) fun _ V33 => (1, V33)) else (if a1 = 43 then (pf_let (pm_w64 (y13 + y4)) fun y39 => pf_call (F_X2_bounded y39 V11) fun y45 _ => pf_call (F_X2_push rc y45 V11) fun _ V49 => (1, V49)) else (if a1 = 45 then (pf_let (pm_w64 (y13 - y4)) fun y55 => pf_call (F_X2_bounded y55 V11) fun y61 _ => pf_call (F_X2_push rc y61 V11) fun _ V65 => (1, V65)) else (if a1 = 60 then (pf_let (pm_cmp y13 y4) fun y71 => (if 0 ≤ y71 then ((0, V11)) else ((1, V11)))) else (((0 : Int), V0))))))) := rfl
noncomputable def F_X2_holds (rc : Nat) (a1 : Int) (V0 : pm_M) : Int × pm_M := pf_let (V0 (rc + 2) (a1 : Int).toNat) fun y2 => pf_let ((pm_up V0 rc 7 0)) fun V5 => pf_val ((0 : Int), V0) (fun (q : Int × pm_M) => match q with | (x11, V13) => (pf_let (V13 (rc + 3) (a1 : Int).toNat) fun y25 => (if y25 ≤ x11 then ((.inr (1, V13))) else (pf_let (V13 (rc + 4) (x11 : Int).toNat) fun y30 => (if 10000 ≤ y30 then ((if 20000 ≤ y30 then (pf_call (F_X2_applies rc (y30 - 20000) V13) fun y38 V36 => (if ¬ (y38 = 0) then (pf_let (x11 + 1) fun x48 => (.inl (x48, V36))) else ((.inr (0, V36))))) else ((if 7 ≤ (y30 - 10000) then (pf_call (F_X2_push rc 0 V13) fun _ V52 => pf_let (x11 + 1) fun x61 => (.inl (x61, V52))) else (pf_let (V13 83 ((y30 - 10000) : Int).toNat) fun y63 => pf_call (F_X2_push rc y63 V13) fun _ V67 => pf_let (x11 + 1) fun x76 => (.inl (x76, V67))))))) else (pf_call (F_X2_push rc y30 V13) fun _ V79 => pf_let (x11 + 1) fun x88 => (.inl (x88, V79)))))))) (y2, V5)
theorem F_X2_holds_eq (rc : Nat) (a1 : Int) (V0 : pm_M) : F_X2_holds rc a1 V0 = pf_let (V0 (rc + 2) (a1 : Int).toNat) fun y2 => pf_let ((pm_up V0 rc 7 0)) fun V5 => pf_val ((0 : Int), V0) (fun (q : Int × pm_M) => match q with | (x11, V13) => (pf_let (V13 (rc + 3) (a1 : Int).toNat) fun y25 => (if y25 ≤ x11 then ((.inr (1, V13))) else (pf_let (V13 (rc + 4) (x11 : Int).toNat) fun y30 => (if 10000 ≤ y30 then ((if 20000 ≤ y30 then (pf_call (F_X2_applies rc (y30 - 20000) V13) fun y38 V36 => (if ¬ (y38 = 0) then (pf_let (x11 + 1) fun x48 => (.inl (x48, V36))) else ((.inr (0, V36))))) else ((if 7 ≤ (y30 - 10000) then (pf_call (F_X2_push rc 0 V13) fun _ V52 => pf_let (x11 + 1) fun x61 => (.inl (x61, V52))) else (pf_let (V13 83 ((y30 - 10000) : Int).toNat) fun y63 => pf_call (F_X2_push rc y63 V13) fun _ V67 => pf_let (x11 + 1) fun x76 => (.inl (x76, V67))))))) else (pf_call (F_X2_push rc y30 V13) fun _ V79 => pf_let (x11 + 1) fun x88 => (.inl (x88, V79)))))))) (y2, V5) := rfl
noncomputable def F_X11_called (a1 a2 a3 a4 : Int) (V0 : pm_M) : Int × pm_M := (if a4 = 0 then (pf_call (F_X11_isTrial a1 a2 a3 V0) fun y5 _ => (if ¬ (y5 = 0) then (pf_call (F_X11_pose a1 a2 a3 V0) fun _ V10 => pf_call (F_X11_fillAtoms a3 V10) fun _ V17 => pf_val ((0 : Int), V0) (fun (q : Int × pm_M) => match q with | (x23, V25) => ((if V25 0 10 = 57 then (pf_let (V25 57 0) fun y36 => (if y36 ≤ x23 then ((.inr ((-1), V25))) else (pf_call (F_X2_holds 57 x23 V25) fun y44 V42 => (if y44 = 0 then (pf_let (x23 + 1) fun x54 => (.inl (x54, V42))) else ((if ¬ (a4 = 0) then ((.inr ((0 : Int), V0))) else (pf_let (V42 58 (x23 : Int).toNat) fun y58 => (.inr (y58, V42))))))))) else (pf_let (V25 63 0) fun y61 => (if y61 ≤ x23 then ((.inr ((-1), V25))) else (pf_call (F_X2_holds 63 x23 V25) fun y69 V67 => (if y69 = 0 then (pf_let (x23 + 1) fun x79 => (.inl (x79, V67))) else ((if ¬ (a4 = 0) then ((.inr ((0 : Int), V0))) else (pf_let (V67 64 (x23 : Int).toNat) fun y83 => (.inr (y83, V67)))))))))))) (0, V17)) else (((-1), V0)))) else ((if ¬ (a4 = 1) then (((-1), V0)) else (pf_call (F_X11_isTrial a1 a2 a3 V0) fun y90 _ => (if ¬ (y90 = 0) then (pf_call (F_X11_pose a1 a2 a3 V0) fun _ V95 => pf_call (F_X11_fillAtoms a3 V95) fun _ V102 => pf_val ((0 : Int), V0) (fun (q : Int × pm_M) => match q with | (x108, V110) => ((if V110 0 10 = 57 then (pf_let (V110 57 0) fun y121 => (if y121 ≤ x108 then ((.inr ((-1), V110))) else (pf_call (F_X2_holds 57 x108 V110) fun y129 V127 => (if y129 = 0 then (pf_let (x108 + 1) fun x139 => (.inl (x139, V127))) else ((if ¬ (a4 = 0) then ((.inr (x108, V127))) else ((.inr ((0 : Int), V0))))))))) else (pf_let (V110 63 0) fun y142 => (if y142 ≤ x108 then ((.inr ((-1), V110))) else (pf_call (F_X2_holds 63 x108 V110) fun y150 V148 => (if y150 = 0 then (pf_let (x108 + 1) fun x160 => (.inl (x160, V148))) else ((if ¬ (a4 = 0) then ((.inr (x108, V148))) else ((.inr ((0 : Int), V0)))))))))))) (0, V102)) else (((-1), V0)))))))
theorem F_X11_called_eq (a1 a2 a3 a4 : Int) (V0 : pm_M) : F_X11_called a1 a2 a3 a4 V0 = (if a4 = 0 then (pf_call (F_X11_isTrial a1 a2 a3 V0) fun y5 _ => (if ¬ (y5 = 0) then (pf_call (F_X11_pose a1 a2 a3 V0) fun _ V10 => pf_call (F_X11_fillAtoms a3 V10) fun _ V17 => pf_val ((0 : Int), V0) (fun (q : Int × pm_M) => match q with | (x23, V25) => ((if V25 0 10 = 57 then (pf_let (V25 57 0) fun y36 => (if y36 ≤ x23 then ((.inr ((-1), V25))) else (pf_call (F_X2_holds 57 x23 V25) fun y44 V42 => (if y44 = 0 then (pf_let (x23 + 1) fun x54 => (.inl (x54, V42))) else ((if ¬ (a4 = 0) then ((.inr ((0 : Int), V0))) else (pf_let (V42 58 (x23 : Int).toNat) fun y58 => (.inr (y58, V42))))))))) else (pf_let (V25 63 0) fun y61 => (if y61 ≤ x23 then ((.inr ((-1), V25))) else (pf_call (F_X2_holds 63 x23 V25) fun y69 V67 => (if y69 = 0 then (pf_let (x23 + 1) fun x79 => (.inl (x79, V67))) else ((if ¬ (a4 = 0) then ((.inr ((0 : Int), V0))) else (pf_let (V67 64 (x23 : Int).toNat) fun y83 => (.inr (y83, V67)))))))))))) (0, V17)) else (((-1), V0)))) else ((if ¬ (a4 = 1) then (((-1), V0)) else (pf_call (F_X11_isTrial a1 a2 a3 V0) fun y90 _ => (if ¬ (y90 = 0) then (pf_call (F_X11_pose a1 a2 a3 V0) fun _ V95 => pf_call (F_X11_fillAtoms a3 V95) fun _ V102 => pf_val ((0 : Int), V0) (fun (q : Int × pm_M) => match q with | (x108, V110) => ((if V110 0 10 = 57 then (pf_let (V110 57 0) fun y121 => (if y121 ≤ x108 then ((.inr ((-1), V110))) else (pf_call (F_X2_holds 57 x108 V110) fun y129 V127 => (if y129 = 0 then (pf_let (x108 + 1) fun x139 => (.inl (x139, V127))) else ((if ¬ (a4 = 0) then ((.inr (x108, V127))) else ((.inr ((0 : Int), V0))))))))) else (pf_let (V110 63 0) fun y142 => (if y142 ≤ x108 then ((.inr ((-1), V110))) else (pf_call (F_X2_holds 63 x108 V110) fun y150 V148 => (if y150 = 0 then (pf_let (x108 + 1) fun x160 => (.inl (x160, V148))) else ((if ¬ (a4 = 0) then ((.inr (x108, V148))) else ((.inr ((0 : Int), V0)))))))))))) (0, V102)) else (((-1), V0))))))) := rfl
noncomputable def F_X11_lotBelow (a1 : Int) (V0 : pm_M) : Int × pm_M := pf_let (V0 0 16) fun y1 => pf_let (pm_w64 (y1 * 1103515245)) fun y4 => pf_let (pm_w64 (y4 + 12345)) fun y7 => pf_let ((pm_landV y7 2147483647)) fun y10 => pf_let (pm_cmp a1 0) fun y12 => (if 0 < y12 then (pf_let (((y10 / 256) % a1)) fun y15 => (y15, (pm_up V0 0 16 y10))) else ((0, (pm_up V0 0 16 y10))))
theorem F_X11_lotBelow_eq (a1 : Int) (V0 : pm_M) : F_X11_lotBelow a1 V0 = pf_let (V0 0 16) fun y1 => pf_let (pm_w64 (y1 * 1103515245)) fun y4 => pf_let (pm_w64 (y4 + 12345)) fun y7 => pf_let ((pm_landV y7 2147483647)) fun y10 => pf_let (pm_cmp a1 0) fun y12 => (if 0 < y12 then (pf_let (((y10 / 256) % a1)) fun y15 => (y15, (pm_up V0 0 16 y10))) else ((0, (pm_up V0 0 16 y10)))) := rfl
noncomputable def F_X10_saidAt (a1 : Int) (V0 : pm_M) : Int × pm_M := pf_val ((0 : Int), V0) (fun (q : Int × Int) => match q with | (x1, x3) => ((if V0 73 0 = 45 then (pf_let (V0 45 0) fun y13 => (if y13 ≤ x3 then ((.inr (0, V0))) else ((if V0 73 13 = 76 then (pf_let (V0 76 (x3 : Int).toNat) fun y18 => pf_let (pm_w64 (x1 + y18)) fun y21 => pf_let (pm_cmp y21 a1) fun y24 => (if y24 ≤ 0 then (pf_let (x3 + 1) fun x27 => (.inl (y21, x27))) else ((.inr (x3, V0))))) else (pf_let (V0 77 (x3 : Int).toNat) fun y29 => pf_let (pm_w64 (x1 + y29)) fun y32 => pf_let (pm_cmp y32 a1) fun y35 => (if y35 ≤ 0 then (pf_let (x3 + 1) fun x38 => (.inl (y32, x38))) else ((.inr (x3, V0))))))))) else (pf_let (V0 51 0) fun y40 => (if y40 ≤ x3 then ((.inr (0, V0))) else ((if V0 73 13 = 76 then (pf_let (V0 76 (x3 : Int).toNat) fun y45 => pf_let (pm_w64 (x1 + y45)) fun y48 => pf_let (pm_cmp y48 a1) fun y51 => (if y51 ≤ 0 then (pf_let (x3 + 1) fun x54 => (.inl (y48, x54))) else ((.inr (x3, V0))))) else (pf_let (V0 77 (x3 : Int).toNat) fun y56 => pf_let (pm_w64 (x1 + y56)) fun y59 => pf_let (pm_cmp y59 a1) fun y62 => (if y62 ≤ 0 then (pf_let (x3 + 1) fun x65 => (.inl (y59, x65))) else ((.inr (x3, V0)))))))))))) (0, 0)
theorem F_X10_saidAt_eq (a1 : Int) (V0 : pm_M) : F_X10_saidAt a1 V0 = pf_val ((0 : Int), V0) (fun (q : Int × Int) => match q with | (x1, x3) => ((if V0 73 0 = 45 then (pf_let (V0 45 0) fun y13 => (if y13 ≤ x3 then ((.inr (0, V0))) else ((if V0 73 13 = 76 then (pf_let (V0 76 (x3 : Int).toNat) fun y18 => pf_let (pm_w64 (x1 + y18)) fun y21 => pf_let (pm_cmp y21 a1) fun y24 => (if y24 ≤ 0 then (pf_let (x3 + 1) fun x27 => (.inl (y21, x27))) else ((.inr (x3, V0))))) else (pf_let (V0 77 (x3 : Int).toNat) fun y29 => pf_let (pm_w64 (x1 + y29)) fun y32 => pf_let (pm_cmp y32 a1) fun y35 => (if y35 ≤ 0 then (pf_let (x3 + 1) fun x38 => (.inl (y32, x38))) else ((.inr (x3, V0))))))))) else (pf_let (V0 51 0) fun y40 => (if y40 ≤ x3 then ((.inr (0, V0))) else ((if V0 73 13 = 76 then (pf_let (V0 76 (x3 : Int).toNat) fun y45 => pf_let (pm_w64 (x1 + y45)) fun y48 => pf_let (pm_cmp y48 a1) fun y51 => (if y51 ≤ 0 then (pf_let (x3 + 1) fun x54 => (.inl (y48, x54))) else ((.inr (x3, V0))))) else (pf_let (V0 77 (x3 : Int).toNat) fun y56 => pf_let (pm_w64 (x1 + y56)) fun y59 => pf_let (pm_cmp y59 a1) fun y62 => (if y62 ≤ 0 then (pf_let (x3 + 1) fun x65 => (.inl (y59, x65))) else ((.inr (x3, V0)))))))))))) (0, 0) := rfl
noncomputable def F_X11_drawAnswer (a1 a2 : Int) (V0 : pm_M) : Int × pm_M := pf_let (V0 4 6) fun y1 => (if V0 0 8 = 45 then (pf_let (V0 45 0) fun y5 => pf_call (F_X11_lotBelow y5 V0) fun y11 V9 => pf_call (F_X11_lotBelow y5 V9) fun y23 V21 => pf_call (F_X11_lotBelow 10 V21) fun y35 V33 => pf_call (F_X11_lotBelow 10 V33) fun y47 V45 => pf_call (F_X11_lotBelow 199 V45) fun y59 V57 => pf_let ((((a2 * 100) + (y11 * 10)) + y23)) fun w68 => pf_call (F_X11_pose w68 ((y35 * 10) + y47) (y59 - 99) V57) fun _ V71 => pf_call (F_X10_weigh a1 V71) fun _ V82 => pf_let (V82 73 14) fun y92 => pf_call (F_X11_lotBelow y92 V82) fun y98 V96 => pf_call (F_X10_saidAt y98 V96) fun y112 _ => pf_call (F_X11_lotBelow 1000 V96) fun y118 V116 => pf_call (F_X10_chanceNoticed  V116) fun y132 _ => (if y132 ≤ y118 then (pf_call (F_X7_addAnswer w68 ((y35 * 10) + y47) (y59 - 99) y112 0 V116) fun _ V138 => (0, V138)) else (pf_call (F_X7_addAnswer w68 ((y35 * 10) + y47) (y59 - 99) y112 1 V116) fun _ V152 => (0, V152)))) else (pf_let (V0 51 0) fun y164 => pf_call (F_X11_lotBelow y164 V0) fun y170 V168 => pf_call (F_X11_lotBelow y164 V168) fun y182 V180 => pf_call (F_X11_lotBelow 10 V180) fun y194 V192 => pf_call (F_X11_lotBelow 10 V192) fun y206 V204 => pf_call (F_X11_lotBelow 199 V204) fun y218 V216 => pf_let ((((a2 * 100) + (y170 * 10)) + y182)) fun w227 => pf_call (F_X11_pose w227 ((y194 * 10) + y206) (y218 - 99) V216) fun _ V230 => pf_call (F_X10_weigh a1 V230) fun _ V241 => pf_let (V241 73 14) fun y251 => pf_call (F_X11_lotBelow y251 V241) fun y257 V255 => pf_call (F_X10_saidAt y257 V255) fun y271 _ => pf_call (F_X11_lotBelow 1000 V255) fun y277 V275 => pf_call (F_X10_chanceNoticed  V275) fun y291 _ => (if y291 ≤ y277 then (pf_call (F_X7_addAnswer w227 ((y194 * 10) + y206) (y218 - 99) y271 0 V275) fun _ V297 => (0, V297)) else (pf_call (F_X7_addAnswer w227 ((y194 * 10) + y206) (y218 - 99) y271 1 V275) fun _ V311 => (0, V311)))))
theorem F_X11_drawAnswer_eq (a1 a2 : Int) (V0 : pm_M) : F_X11_drawAnswer a1 a2 V0 = pf_let (V0 4 6) fun y1 => (if V0 0 8 = 45 then (pf_let (V0 45 0) fun y5 => pf_call (F_X11_lotBelow y5 V0) fun y11 V9 => pf_call (F_X11_lotBelow y5 V9) fun y23 V21 => pf_call (F_X11_lotBelow 10 V21) fun y35 V33 => pf_call (F_X11_lotBelow 10 V33) fun y47 V45 => pf_call (F_X11_lotBelow 199 V45) fun y59 V57 => pf_let ((((a2 * 100) + (y11 * 10)) + y23)) fun w68 => pf_call (F_X11_pose w68 ((y35 * 10) + y47) (y59 - 99) V57) fun _ V71 => pf_call (F_X10_weigh a1 V71) fun _ V82 => pf_let (V82 73 14) fun y92 => pf_call (F_X11_lotBelow y92 V82) fun y98 V96 => pf_call (F_X10_saidAt y98 V96) fun y112 _ => pf_call (F_X11_lotBelow 1000 V96) fun y118 V116 => pf_call (F_X10_chanceNoticed  V116) fun y132 _ => (if y132 ≤ y118 then (pf_call (F_X7_addAnswer w68 ((y35 * 10) + y47) (y59 - 99) y112 0 V116) fun _ V138 => (0, V138)) else (pf_call (F_X7_addAnswer w68 ((y35 * 10) + y47) (y59 - 99) y112 1 V116) fun _ V152 => (0, V152)))) else (pf_let (V0 51 0) fun y164 => pf_call (F_X11_lotBelow y164 V0) fun y170 V168 => pf_call (F_X11_lotBelow y164 V168) fun y182 V180 => pf_call (F_X11_lotBelow 10 V180) fun y194 V192 => pf_call (F_X11_lotBelow 10 V192) fun y206 V204 => pf_call (F_X11_lotBelow 199 V204) fun y218 V216 => pf_let ((((a2 * 100) + (y170 * 10)) + y182)) fun w227 => pf_call (F_X11_pose w227 ((y194 * 10) + y206) (y218 - 99) V216) fun _ V230 => pf_call (F_X10_weigh a1 V230) fun _ V241 => pf_let (V241 73 14) fun y251 => pf_call (F_X11_lotBelow y251 V241) fun y257 V255 => pf_call (F_X10_saidAt y257 V255) fun y271 _ => pf_call (F_X11_lotBelow 1000 V255) fun y277 V275 => pf_call (F_X10_chanceNoticed  V275) fun y291 _ => (if y291 ≤ y277 then (pf_call (F_X7_addAnswer w227 ((y194 * 10) + y206) (y218 - 99) y271 0 V275) fun _ V297 => (0, V297)) else (pf_call (F_X7_addAnswer w227 ((y194 * 10) + y206) (y218 - 99) y271 1 V275) fun _ V311 => (0, V311))))) := rfl
noncomputable def F_X11_draw (a1 a2 a3 a4 : Int) (V0 : pm_M) : Int × pm_M := pf_let (V0 4 6) fun y1 => pf_call (F_X11_isLaw a1 V0) fun y7 _ => (if y7 = 0 then (((-1), V0)) else (pf_call (F_X11_isPerson a2 V0) fun y15 _ => (if y15 = 0 then (((-1), V0)) else ((if a3 < 0 then (((-1), V0)) else ((if 1000000 < a3 then (((-1), V0)) else ((if a4 < 1 then (((-1), V0)) else ((if 20 < a4 then (((-1), V0)) else ((if (y1 + a4) ≤ 60 then (pf_let ((pm_up V0 0 16 a3)) fun V29 => pf_val ((0 : Int), V0) (fun (q : Int × pm_M) => match q with | (x36, V39) => ((if a4 ≤ x36 then (pf_let (V39 4 6) fun y52 => (.inr (y52, V39))) else (pf_let (V39 4 6) fun y55 => pf_call (F_X11_drawAnswer a1 a2 V39) fun _ V59 => pf_let (V59 4 6) fun y67 => pf_let (x36 + 1) fun x70 => (.inl (x70, V59)))))) (0, V29)) else (((-1), V0)))))))))))))))
theorem F_X11_draw_eq (a1 a2 a3 a4 : Int) (V0 : pm_M) : F_X11_draw a1 a2 a3 a4 V0 = pf_let (V0 4 6) fun y1 => pf_call (F_X11_isLaw a1 V0) fun y7 _ => (if y7 = 0 then (((-1), V0)) else (pf_call (F_X11_isPerson a2 V0) fun y15 _ => (if y15 = 0 then (((-1), V0)) else ((if a3 < 0 then (((-1), V0)) else ((if 1000000 < a3 then (((-1), V0)) else ((if a4 < 1 then (((-1), V0)) else ((if 20 < a4 then (((-1), V0)) else ((if (y1 + a4) ≤ 60 then (pf_let ((pm_up V0 0 16 a3)) fun V29 => pf_val ((0 : Int), V0) (fun (q : Int × pm_M) => match q with | (x36, V39) => ((if a4 ≤ x36 then (pf_let (V39 4 6) fun y52 => (.inr (y52, V39))) else (pf_let (V39 4 6) fun y55 => pf_call (F_X11_drawAnswer a1 a2 V39) fun _ V59 => pf_let (V59 4 6) fun y67 => pf_let (x36 + 1) fun x70 => (.inl (x70, V59)))))) (0, V29)) else (((-1), V0))))))))))))))) := rfl
noncomputable def F_X7_copyFrom (dst : Nat) (src : Nat) (V0 : pm_M) : Int × pm_M := pf_let (V0 src 1) fun y1 => pf_let ((pm_up V0 dst 1 y1)) fun V4 => pf_val ((0 : Int), V0) (fun (q : Int × pm_M) => match q with | (x10, V12) => ((if y1 ≤ x10 then (pf_let (V12 src 6) fun y25 => pf_let ((pm_up V12 dst 6 y25)) fun V28 => pf_val (.inr ((0 : Int), V0)) (fun (q : Int × pm_M) => match q with | (x36, V38) => ((if y25 ≤ x36 then ((.inr (.inr (0, V38)))) else (pf_let (V38 (src + 5) (x36 : Int).toNat) fun y55 => pf_let (V38 (src + 6) (x36 : Int).toNat) fun y60 => pf_let (V38 (src + 7) (x36 : Int).toNat) fun y65 => pf_let (V38 (src + 8) (x36 : Int).toNat) fun y70 => pf_let (V38 (src + 9) (x36 : Int).toNat) fun y75 => pf_let (x36 + 1) fun x78 => (.inl (x78, (pm_up (pm_up (pm_up (pm_up (pm_up V38 (dst + 5) (x36 : Int).toNat y55) (dst + 6) (x36 : Int).toNat y60) (dst + 7) (x36 : Int).toNat y65) (dst + 8) (x36 : Int).toNat y70) (dst + 9) (x36 : Int).toNat y75))))))) (0, V28)) else (pf_let (V12 (src + 1) (x10 : Int).toNat) fun y82 => pf_let (V12 (src + 2) (x10 : Int).toNat) fun y87 => pf_let (V12 (src + 3) (x10 : Int).toNat) fun y92 => pf_let (V12 (src + 4) (x10 : Int).toNat) fun y97 => pf_let (x10 + 1) fun x100 => (.inl (x100, (pm_up (pm_up (pm_up (pm_up V12 (dst + 1) (x10 : Int).toNat y82) (dst + 2) (x10 : Int).toNat y87) (dst + 3) (x10 : Int).toNat y92) (dst + 4) (x10 : Int).toNat y97))))))) (0, V4)
theorem F_X7_copyFrom_eq (dst : Nat) (src : Nat) (V0 : pm_M) : F_X7_copyFrom dst src V0 = pf_let (V0 src 1) fun y1 => pf_let ((pm_up V0 dst 1 y1)) fun V4 => pf_val ((0 : Int), V0) (fun (q : Int × pm_M) => match q with | (x10, V12) => ((if y1 ≤ x10 then (pf_let (V12 src 6) fun y25 => pf_let ((pm_up V12 dst 6 y25)) fun V28 => pf_val (.inr ((0 : Int), V0)) (fun (q : Int × pm_M) => match q with | (x36, V38) => ((if y25 ≤ x36 then ((.inr (.inr (0, V38)))) else (pf_let (V38 (src + 5) (x36 : Int).toNat) fun y55 => pf_let (V38 (src + 6) (x36 : Int).toNat) fun y60 => pf_let (V38 (src + 7) (x36 : Int).toNat) fun y65 => pf_let (V38 (src + 8) (x36 : Int).toNat) fun y70 => pf_let (V38 (src + 9) (x36 : Int).toNat) fun y75 => pf_let (x36 + 1) fun x78 => (.inl (x78, (pm_up (pm_up (pm_up (pm_up (pm_up V38 (dst + 5) (x36 : Int).toNat y55) (dst + 6) (x36 : Int).toNat y60) (dst + 7) (x36 : Int).toNat y65) (dst + 8) (x36 : Int).toNat y70) (dst + 9) (x36 : Int).toNat y75))))))) (0, V28)) else (pf_let (V12 (src + 1) (x10 : Int).toNat) fun y82 => pf_let (V12 (src + 2) (x10 : Int).toNat) fun y87 => pf_let (V12 (src + 3) (x10 : Int).toNat) fun y92 => pf_let (V12 (src + 4) (x10 : Int).toNat) fun y97 => pf_let (x10 + 1) fun x100 => (.inl (x100, (pm_up (pm_up (pm_up (pm_up V12 (dst + 1) (x10 : Int).toNat y82) (dst + 2) (x10 : Int).toNat y87) (dst + 3) (x10 : Int).toNat y92) (dst + 4) (x10 : Int).toNat y97))))))) (0, V4) := rfl
set_option maxHeartbeats 4000000 in
set_option maxRecDepth 100000 in
theorem fD_X2_applies_57 (a1 : Int) (h0 : (-2147483648) ≤ a1 ∧ a1 ≤ 2147483647) : pm_K 2 yX2_applies cX2_applies 6 (some .boolean) (fun av V => av = [(3, 57), (0, a1)] ∧ pm_ok 0 90 V) (fun _ V r V' => ∃ y, r = some (0, y) ∧ (0 ≤ y ∧ y ≤ 1) ∧ pm_ok 0 90 V' ∧ pm_ff [62] [(57, 7)] V V' ∧ F_X2_applies 57 a1 V = (y, V')) := by
  refine pm_MT.of (by decide) ⟨Nat.le_refl _, by decide⟩ (fun av V h => by rw [h.1]; exact (by decide : pm_words [(3, 0), (0, 0)] ≤ 6)) ?_
  rintro X av V0 hC - hR ⟨rfl, hV0⟩
  change pm_J X 0 [(0, (3, 57)), (1, (0, a1))] [] 118 V0
  have hT := F_X2_applies_eq 57 a1 V0
  refine pm_aload_n hC 0 (by decide) dX2_applies_0 rfl ?_
  refine pm_callV (ci := 2) (as := []) (st := []) hC 57 fD_X2_pop_57 lm_X2_46 li_X2_pop (by decide) (by decide) rfl rfl rfl (by decide) rfl rfl (Nat.le_of_ble_eq_true rfl) ⟨Nat.le_refl _, Or.inl rfl⟩ dX2_applies_1 ⟨rfl, hV0⟩ (fun r1 V2 hp3 => ?_)
  obtain ⟨y4, rfl, b5, hV6, hF7, hE8⟩ := hp3
  replace hT := hT.trans (pf_call_eq hE8)
  change pm_J X 4 [(0, (3, 57)), (1, (0, a1))] [(1, y4)] 118 V2
  have hF9 := pm_ff.tr (pm_ff.rf (cs := [62]) (fs := [(57, 7)]) (V := V0)) hF7 (by decide) (by decide)
  refine pm_lstore_n (lv' := [(2, (1, y4)), (0, (3, 57)), (1, (0, a1))]) hC dX2_applies_4 (by decide) rfl ?_
  refine pm_aload_n hC 1 (by decide) dX2_applies_5 rfl ?_
  refine pm_callV (ci := 2) (as := []) (st := []) hC 57 fD_X2_pop_57 lm_X2_46 li_X2_pop (by decide) (by decide) rfl rfl rfl (by decide) rfl rfl (Nat.le_of_ble_eq_true rfl) ⟨Nat.le_refl _, Or.inl rfl⟩ dX2_applies_6 ⟨rfl, hV6⟩ (fun r10 V11 hp12 => ?_)
  obtain ⟨y13, rfl, b14, hV15, hF16, hE17⟩ := hp12
  replace hT := hT.trans (pf_call_eq hE17)
  change pm_J X 9 [(2, (1, y4)), (0, (3, 57)), (1, (0, a1))] [(1, y13)] 118 V11
  have hF18 := pm_ff.tr hF9 hF16 (by decide) (by decide)
  refine pm_lstore (lv' := [(4, (1, y13)), (2, (1, y4)), (0, (3, 57)), (1, (0, a1))]) hC dX2_applies_9 (by decide) rfl ?_
  refine pm_iload_n hC 3 dX2_applies_11 rfl ?_
  rcases (show (a1 ≠ 42 ∧ a1 ≠ 43 ∧ a1 ≠ 45 ∧ a1 ≠ 60) ∨ a1 = 42 ∨ a1 = 43 ∨ a1 = 45 ∨ a1 = 60 by omega) with c19 | c19 | c19 | c19 | c19
  · skip
    refine pm_lookup (tgt := 108) (off := 96) hC ⟨by exact ow_79j_0 h0, by exact ow_79j_1 h0⟩ dX2_applies_12 (by decide) (by simp [Op.lookupswitch.offset, List.find?, (show ¬ 42 = a1 by exact ow_79j_2 c19), (show ¬ 43 = a1 by exact ow_79j_3 c19), (show ¬ 45 = a1 by exact ow_79j_4 c19), (show ¬ 60 = a1 by exact ow_79j_5 c19)]) (by decide) ?_
    replace hT := hT.trans (if_pos c19)
    refine pm_lload hC 0 dX2_applies_108 rfl ?_
    refine pm_lload_n hC 1 dX2_applies_110 rfl ?_
    refine pm_lcmp hC ⟨by exact ow_79j_6 b14, by exact ow_79j_7 b14⟩ ⟨by exact ow_79j_6 b5, by exact ow_79j_7 b5⟩ dX2_applies_111 (fun y20 b21 => ?_)
    replace hT := hT.trans (pf_let_eq (pm_cmp_u b21))
    refine pm_if_ne (tgt := 119) hC ⟨by exact ow_79j_8 b21, by exact ow_79j_9 b21⟩ dX2_applies_112 (by decide) (fun c22 => ?_) (fun c22 => ?_)
    · skip
      replace hT := hT.trans (if_pos c22)
      refine pm_iconst (v := 0) hC dX2_applies_119 ?_
      exact pm_iret hC hR (pm_narZ (by exact ow_79j_10)) ⟨0, rfl, ⟨by exact ow_79j_11, by exact ow_79j_12⟩, hV15, hF18, hT⟩ dX2_applies_120
    · skip
      replace hT := hT.trans (if_neg (fun q => q c22))
      refine pm_iconst (v := 1) hC dX2_applies_115 ?_
      refine pm_goto (tgt := 120) hC dX2_applies_116 (by decide) ?_
      exact pm_iret hC hR (pm_narZ (by exact ow_79j_13)) ⟨1, rfl, ⟨by exact ow_79j_12, by exact ow_79j_14⟩, hV15, hF18, hT⟩ dX2_applies_120
  · skip
    refine pm_lookup (tgt := 82) (off := 70) hC ⟨by exact ow_79j_15 c19, by exact ow_79j_16 c19⟩ dX2_applies_12 (by decide) (by rw [c19]; rfl) (by decide) ?_
    replace hT := hT.trans (if_neg (by exact ow_79j_17 c19))
    replace hT := hT.trans (if_pos c19)
    refine pm_aload_n hC 2 (by decide) dX2_applies_82 rfl ?_
    refine pm_lload hC 0 dX2_applies_83 rfl ?_
    refine pm_lload_n hC 1 dX2_applies_85 rfl ?_
    refine pm_lmul hC dX2_applies_86 ?_
    refine pm_wrL hC (fun y23 hw25 b24 => ?_)
    replace hT := hT.trans (pf_let_eq hw25)
    have b24 := And.intro b24.1 b24.2
    refine pm_callS (as := [(1, y23)]) (st := [(3, 57)]) hC (fD_X2_bounded y23 ⟨by exact ow_79j_6 b24, by exact ow_79j_7 b24⟩) lm_X2_50 ls_X2_bounded (by decide) (by decide) rfl rfl (Nat.le_of_ble_eq_true rfl) ⟨Nat.le_refl _, Or.inl rfl⟩ dX2_applies_87 ⟨rfl, hV15⟩ (fun r26 V27 hp28 => ?_)
    obtain ⟨y29, rfl, b30, rfl, hE31⟩ := hp28
    replace hT := hT.trans (pf_call_eq hE31)
    change pm_J X 90 [(4, (1, y13)), (2, (1, y4)), (0, (3, 57)), (1, (0, a1))] [(1, y29), (3, 57)] 118 V11
    refine pm_callV (ci := 2) (as := [(1, y29)]) (st := []) hC 57 (fD_X2_push_57 y29 ⟨by exact ow_79j_18 b30, by exact ow_79j_19 b30⟩) lm_X2_38 li_X2_push (by decide) (by decide) rfl rfl rfl (by decide) rfl rfl (Nat.le_of_ble_eq_true rfl) ⟨Nat.le_refl _, Or.inl rfl⟩ dX2_applies_90 ⟨rfl, hV15⟩ (fun r32 V33 hp34 => ?_)
    obtain ⟨rfl, hV35, hF36, hE37⟩ := hp34
    replace hT := hT.trans (pf_call_eq hE37)
    change pm_J X 93 [(4, (1, y13)), (2, (1, y4)), (0, (3, 57)), (1, (0, a1))] [] 118 V33
    have hF38 := pm_ff.tr hF18 hF36 (by decide) (by decide)
    refine pm_iconst (v := 1) hC dX2_applies_93 ?_
    exact pm_iret hC hR (pm_narZ (by exact ow_79j_13)) ⟨1, rfl, ⟨by exact ow_79j_12, by exact ow_79j_14⟩, hV35, hF38, hT⟩ dX2_applies_94
  · skip
    refine pm_lookup (tgt := 56) (off := 44) hC ⟨by exact ow_79j_20 c19, by exact ow_79j_21 c19⟩ dX2_applies_12 (by decide) (by rw [c19]; rfl) (by decide) ?_
    replace hT := hT.trans (if_neg (by exact ow_79j_22 c19))
    replace hT := hT.trans (if_neg (by exact ow_79j_23 c19))
    replace hT := hT.trans (if_pos c19)
    refine pm_aload_n hC 2 (by decide) dX2_applies_56 rfl ?_
    refine pm_lload hC 0 dX2_applies_57 rfl ?_
    refine pm_lload_n hC 1 dX2_applies_59 rfl ?_
    refine pm_ladd hC dX2_applies_60 ?_
    refine pm_wrL hC (fun y39 hw41 b40 => ?_)
    replace hT := hT.trans (pf_let_eq hw41)
    have b40 := And.intro b40.1 b40.2
    refine pm_callS (as := [(1, y39)]) (st := [(3, 57)]) hC (fD_X2_bounded y39 ⟨by exact ow_79j_6 b40, by exact ow_79j_7 b40⟩) lm_X2_50 ls_X2_bounded (by decide) (by decide) rfl rfl (Nat.le_of_ble_eq_true rfl) ⟨Nat.le_refl _, Or.inl rfl⟩ dX2_applies_61 ⟨rfl, hV15⟩ (fun r42 V43 hp44 => ?_)
    obtain ⟨y45, rfl, b46, rfl, hE47⟩ := hp44
    replace hT := hT.trans (pf_call_eq hE47)
    change pm_J X 64 [(4, (1, y13)), (2, (1, y4)), (0, (3, 57)), (1, (0, a1))] [(1, y45), (3, 57)] 118 V11
    refine pm_callV (ci := 2) (as := [(1, y45)]) (st := []) hC 57 (fD_X2_push_57 y45 ⟨by exact ow_79j_18 b46, by exact ow_79j_19 b46⟩) lm_X2_38 li_X2_push (by decide) (by decide) rfl rfl rfl (by decide) rfl rfl (Nat.le_of_ble_eq_true rfl) ⟨Nat.le_refl _, Or.inl rfl⟩ dX2_applies_64 ⟨rfl, hV15⟩ (fun r48 V49 hp50 => ?_)
    obtain ⟨rfl, hV51, hF52, hE53⟩ := hp50
    replace hT := hT.trans (pf_call_eq hE53)
    change pm_J X 67 [(4, (1, y13)), (2, (1, y4)), (0, (3, 57)), (1, (0, a1))] [] 118 V49
    have hF54 := pm_ff.tr hF18 hF52 (by decide) (by decide)
    refine pm_iconst (v := 1) hC dX2_applies_67 ?_
    exact pm_iret hC hR (pm_narZ (by exact ow_79j_13)) ⟨1, rfl, ⟨by exact ow_79j_12, by exact ow_79j_14⟩, hV51, hF54, hT⟩ dX2_applies_68
  · skip
    refine pm_lookup (tgt := 69) (off := 57) hC ⟨by exact ow_79j_24 c19, by exact ow_79j_25 c19⟩ dX2_applies_12 (by decide) (by rw [c19]; rfl) (by decide) ?_
    replace hT := hT.trans (if_neg (by exact ow_79j_26 c19))
    replace hT := hT.trans (if_neg (by exact ow_79j_27 c19))
    replace hT := hT.trans (if_neg (by exact ow_79j_28 c19))
    replace hT := hT.trans (if_pos c19)
    refine pm_aload_n hC 2 (by decide) dX2_applies_69 rfl ?_
    refine pm_lload hC 0 dX2_applies_70 rfl ?_
    refine pm_lload_n hC 1 dX2_applies_72 rfl ?_
    refine pm_lsub hC dX2_applies_73 ?_
    refine pm_wrL hC (fun y55 hw57 b56 => ?_)
    replace hT := hT.trans (pf_let_eq hw57)
    have b56 := And.intro b56.1 b56.2
    refine pm_callS (as := [(1, y55)]) (st := [(3, 57)]) hC (fD_X2_bounded y55 ⟨by exact ow_79j_6 b56, by exact ow_79j_7 b56⟩) lm_X2_50 ls_X2_bounded (by decide) (by decide) rfl rfl (Nat.le_of_ble_eq_true rfl) ⟨Nat.le_refl _, Or.inl rfl⟩ dX2_applies_74 ⟨rfl, hV15⟩ (fun r58 V59 hp60 => ?_)
    obtain ⟨y61, rfl, b62, rfl, hE63⟩ := hp60
    replace hT := hT.trans (pf_call_eq hE63)
    change pm_J X 77 [(4, (1, y13)), (2, (1, y4)), (0, (3, 57)), (1, (0, a1))] [(1, y61), (3, 57)] 118 V11
    refine pm_callV (ci := 2) (as := [(1, y61)]) (st := []) hC 57 (fD_X2_push_57 y61 ⟨by exact ow_79j_18 b62, by exact ow_79j_19 b62⟩) lm_X2_38 li_X2_push (by decide) (by decide) rfl rfl rfl (by decide) rfl rfl (Nat.le_of_ble_eq_true rfl) ⟨Nat.le_refl _, Or.inl rfl⟩ dX2_applies_77 ⟨rfl, hV15⟩ (fun r64 V65 hp66 => ?_)
    obtain ⟨rfl, hV67, hF68, hE69⟩ := hp66
    replace hT := hT.trans (pf_call_eq hE69)
    change pm_J X 80 [(4, (1, y13)), (2, (1, y4)), (0, (3, 57)), (1, (0, a1))] [] 118 V65
    have hF70 := pm_ff.tr hF18 hF68 (by decide) (by decide)
    refine pm_iconst (v := 1) hC dX2_applies_80 ?_
    exact pm_iret hC hR (pm_narZ (by exact ow_79j_13)) ⟨1, rfl, ⟨by exact ow_79j_12, by exact ow_79j_14⟩, hV67, hF70, hT⟩ dX2_applies_81
  · skip
    refine pm_lookup (tgt := 95) (off := 83) hC ⟨by exact ow_79j_29 c19, by exact ow_79j_30 c19⟩ dX2_applies_12 (by decide) (by rw [c19]; rfl) (by decide) ?_
    replace hT := hT.trans (if_neg (by exact ow_79j_31 c19))
    replace hT := hT.trans (if_neg (by exact ow_79j_32 c19))
    replace hT := hT.trans (if_neg (by exact ow_79j_33 c19))
    replace hT := hT.trans (if_neg (by exact ow_79j_34 c19))
    replace hT := hT.trans (if_pos c19)
    refine pm_lload hC 0 dX2_applies_95 rfl ?_
    refine pm_lload_n hC 1 dX2_applies_97 rfl ?_
    refine pm_lcmp hC ⟨by exact ow_79j_6 b14, by exact ow_79j_7 b14⟩ ⟨by exact ow_79j_6 b5, by exact ow_79j_7 b5⟩ dX2_applies_98 (fun y71 b72 => ?_)
    replace hT := hT.trans (pf_let_eq (pm_cmp_u b72))
    refine pm_if_ge (tgt := 106) hC ⟨by exact ow_79j_8 b72, by exact ow_79j_9 b72⟩ dX2_applies_99 (by decide) (fun c73 => ?_) (fun c73 => ?_)
    · skip
      replace hT := hT.trans (if_pos c73)
      refine pm_iconst (v := 0) hC dX2_applies_106 ?_
      exact pm_iret hC hR (pm_narZ (by exact ow_79j_10)) ⟨0, rfl, ⟨by exact ow_79j_11, by exact ow_79j_12⟩, hV15, hF18, hT⟩ dX2_applies_107
    · skip
      replace hT := hT.trans (if_neg (Int.not_le.mpr c73))
      refine pm_iconst (v := 1) hC dX2_applies_102 ?_
      refine pm_goto (tgt := 107) hC dX2_applies_103 (by decide) ?_
      exact pm_iret hC hR (pm_narZ (by exact ow_79j_13)) ⟨1, rfl, ⟨by exact ow_79j_12, by exact ow_79j_14⟩, hV15, hF18, hT⟩ dX2_applies_107
set_option maxHeartbeats 4000000 in
set_option maxRecDepth 100000 in
theorem fD_X2_holds_57_83 (a1 : Int) (h0 : 0 ≤ a1 ∧ a1 ≤ 9) : pm_K 3 yX2_holds cX2_holds 6 (some .boolean) (fun av V => av = [(3, 57), (0, a1), (3, 83)] ∧ pm_ok 0 90 V) (fun _ V r V' => ∃ y, r = some (0, y) ∧ (0 ≤ y ∧ y ≤ 1) ∧ pm_ok 0 90 V' ∧ pm_ff [62] [(57, 7)] V V' ∧ F_X2_holds 57 a1 V = (y, V')) := by
  refine pm_MT.of (by decide) ⟨Nat.le_refl _, by decide⟩ (fun av V h => by rw [h.1]; exact (by decide : pm_words [(3, 0), (0, 0), (3, 0)] ≤ 6)) ?_
  rintro X av V0 hC - hR ⟨rfl, hV0⟩
  change pm_J X 0 [(0, (3, 57)), (1, (0, a1)), (2, (3, 83))] [] 118 V0
  have hT := F_X2_holds_eq 57 a1 V0
  refine pm_aload_n hC 0 (by decide) dX2_holds_0 rfl ?_
  refine pm_iconst (v := 0) hC dX2_holds_1 ?_
  refine pm_putf hC 57 fl_X2_35 rfl rfl rfl (by decide) rfl trivial dX2_holds_2 ?_
  refine pm_aload_n hC 0 (by decide) dX2_holds_5 rfl ?_
  have e1 : V0 57 2 = 59 := hV0.one 57 2 (by decide) (by decide) rfl
  refine pm_getf (v := 59) hC 57 fl_X2_19 rfl rfl (by decide) rfl e1 dX2_holds_6 ?_
  refine pm_iload_n hC 1 dX2_holds_9 rfl ?_
  obtain ⟨y2, e3⟩ : ∃ y, V0 59 (a1 : Int).toNat = y := ⟨_, rfl⟩
  replace hT := hT.trans (pf_let_eq e3)
  have b4 := hV0.get 59 (a1 : Int).toNat (lo := 0) (hi := 500) (by decide) (show _ < 10 by exact ow_79j_35 h0) rfl
  rw [e3] at b4
  refine pm_iaload (len := 10) (v := y2) hC 59 rfl rfl (by decide) ⟨by exact ow_79j_36 h0, by exact ow_79j_37 h0⟩ (by decide) e3 dX2_holds_10 ?_
  refine pm_istore_n (lv' := [(3, (0, y2)), (0, (3, 57)), (1, (0, a1)), (2, (3, 83))]) hC dX2_holds_11 (by decide) rfl ?_
  have hV7 := (hV0.put 57 7 (x := 0) (lo := 0) (hi := 64) rfl ⟨by decide, by decide⟩)
  have hF8 := ((pm_ff.rf (cs := [62]) (fs := [(57, 7)]) (V := V0)).upf 57 7 0 rfl)
  obtain ⟨V5, hv6⟩ : ∃ V, V = (pm_up V0 57 7 0) := ⟨_, rfl⟩
  rw [← hv6] at hV7 hF8
  rw [← hv6]
  replace hT := hT.trans (pf_let_eq hv6.symm)
  have e9 : V5 57 2 = 59 := by rw [hv6]; exact e1
  have e10 : V5 57 7 = 0 := by rw [hv6]; rfl
  obtain ⟨B17, hB18, hT⟩ := pf_loop hT
  have L20 : ∀ (N22 : Nat) (x11 : Int) (V13 : pm_M), (0 ≤ x11 ∧ x11 ≤ 500) → pm_ok 0 90 V13 → pm_ff [62] [(57, 7)] V0 V13 → V13 57 2 = 59 → F_X2_holds 57 a1 V0 = pf_val ((0 : Int), V0) B17 (x11, V13) → (Int.toNat (500 - x11)) = N22 → pm_J X 12 [(0, (3, 57)), (1, (0, a1)), (2, (3, 83)), (3, (0, x11))] [] 118 V13 := by
    intro N22
    induction N22 using Nat.strongRecOn with
    | _ N22 ih23 =>
    intro x11 V13 b12 hV14 hF15 e16 hT hm21
    have hb19 := congrFun hB18 (x11, V13)
    refine pm_iload_n hC 3 dX2_holds_12 rfl ?_
    refine pm_aload_n hC 0 (by decide) dX2_holds_13 rfl ?_
    have e24 : V13 57 3 = 60 := hV14.one 57 3 (by decide) (by decide) rfl
    refine pm_getf (v := 60) hC 57 fl_X2_22 rfl rfl (by decide) rfl e24 dX2_holds_14 ?_
    refine pm_iload_n hC 1 dX2_holds_17 rfl ?_
    obtain ⟨y25, e26⟩ : ∃ y, V13 60 (a1 : Int).toNat = y := ⟨_, rfl⟩
    replace hb19 := hb19.trans (pf_let_eq e26)
    have b27 := hV14.get 60 (a1 : Int).toNat (lo := 0) (hi := 500) (by decide) (show _ < 10 by exact ow_79j_35 h0) rfl
    rw [e26] at b27
    refine pm_iaload (len := 10) (v := y25) hC 60 rfl rfl (by decide) ⟨by exact ow_79j_36 h0, by exact ow_79j_37 h0⟩ (by decide) e26 dX2_holds_18 ?_
    refine pm_icmp_ge (tgt := 107) hC ⟨by exact ow_79j_38 b12, by exact ow_79j_39 b12⟩ ⟨by exact ow_79j_38 b27, by exact ow_79j_39 b27⟩ dX2_holds_19 (by decide) (fun c28 => ?_) (fun c28 => ?_)
    · skip
      replace hb19 := hb19.trans (if_pos c28)
      refine pm_iconst (v := 1) hC dX2_holds_107 ?_
      replace hT := hT.trans (pf_val_inr hb19)
      exact pm_iret hC hR (pm_narZ (by exact ow_79j_13)) ⟨1, rfl, ⟨by exact ow_79j_12, by exact ow_79j_14⟩, hV14, hF15, hT⟩ dX2_holds_108
    · skip
      replace hb19 := hb19.trans (if_neg (Int.not_le.mpr c28))
      refine pm_aload_n hC 0 (by decide) dX2_holds_22 rfl ?_
      have e29 : V13 57 4 = 61 := hV14.one 57 4 (by decide) (by decide) rfl
      refine pm_getf (v := 61) hC 57 fl_X2_25 rfl rfl (by decide) rfl e29 dX2_holds_23 ?_
      refine pm_iload_n hC 3 dX2_holds_26 rfl ?_
      obtain ⟨y30, e31⟩ : ∃ y, V13 61 (x11 : Int).toNat = y := ⟨_, rfl⟩
      replace hb19 := hb19.trans (pf_let_eq e31)
      have b32 := hV14.get 61 (x11 : Int).toNat (lo := 0) (hi := 30000) (by decide) (show _ < 500 by exact ow_79j_40 b27 c28) rfl
      rw [e31] at b32
      refine pm_iaload (len := 500) (v := y30) hC 61 rfl rfl (by decide) ⟨by exact ow_79j_41 b12, by exact ow_79j_42 b27 c28⟩ (by decide) e31 dX2_holds_27 ?_
      refine pm_istore (lv' := [(4, (0, y30)), (0, (3, 57)), (1, (0, a1)), (2, (3, 83)), (3, (0, x11))]) hC dX2_holds_28 (by decide) rfl ?_
      refine pm_iload hC 0 dX2_holds_30 rfl ?_
      refine pm_sipush (v := 10000) hC dX2_holds_32 (by decide) ?_
      refine pm_icmp_ge (tgt := 48) hC ⟨by exact ow_79j_43 b32, by exact ow_79j_44 b32⟩ ⟨by decide, by decide⟩ dX2_holds_35 (by decide) (fun c33 => ?_) (fun c33 => ?_)
      · skip
        replace hb19 := hb19.trans (if_pos c33)
        refine pm_iload hC 0 dX2_holds_48 rfl ?_
        refine pm_sipush (v := 20000) hC dX2_holds_50 (by decide) ?_
        refine pm_icmp_ge (tgt := 86) hC ⟨by exact ow_79j_45 c33, by exact ow_79j_44 b32⟩ ⟨by decide, by decide⟩ dX2_holds_53 (by decide) (fun c34 => ?_) (fun c34 => ?_)
        · skip
          replace hb19 := hb19.trans (if_pos c34)
          refine pm_aload_n hC 1 (by decide) dX2_holds_86 rfl ?_
          refine pm_iload hC 0 dX2_holds_87 rfl ?_
          refine pm_sipush (v := 20000) hC dX2_holds_89 (by decide) ?_
          refine pm_isub hC dX2_holds_92 ?_
          refine pm_callV (ci := 2) (as := [(0, (y30 - 20000))]) (st := []) hC 57 (fD_X2_applies_57 (y30 - 20000) ⟨by exact ow_79j_46 c34, by exact ow_79j_47 b32⟩) lm_X2_42 li_X2_applies (by decide) (by decide) rfl rfl rfl (by decide) rfl rfl (Nat.le_of_ble_eq_true rfl) ⟨Nat.le_refl _, Or.inl rfl⟩ dX2_holds_93 ⟨rfl, hV14⟩ (fun r35 V36 hp37 => ?_)
          obtain ⟨y38, rfl, b39, hV40, hF41, hE42⟩ := hp37
          replace hb19 := hb19.trans (pf_call_eq hE42)
          change pm_J X 96 [(4, (0, y30)), (0, (3, 57)), (1, (0, a1)), (2, (3, 83)), (3, (0, x11))] [(0, y38)] 118 V36
          have hF43 := pm_ff.tr hF15 hF41 (by decide) (by decide)
          have e44 : V36 57 2 = 59 := by rw [hF41 57 2 (by decide) (by decide)]; exact e16
          have e45 : V36 57 3 = 60 := by rw [hF41 57 3 (by decide) (by decide)]; exact e24
          have e46 : V36 57 4 = 61 := by rw [hF41 57 4 (by decide) (by decide)]; exact e29
          refine pm_if_ne (tgt := 101) hC ⟨by exact ow_79j_48 b39, by exact ow_79j_49 b39⟩ dX2_holds_96 (by decide) (fun c47 => ?_) (fun c47 => ?_)
          · skip
            replace hb19 := hb19.trans (if_pos c47)
            obtain ⟨x48, ei49⟩ : ∃ y : Int, x11 + 1 = y := ⟨_, rfl⟩
            replace hb19 := hb19.trans (pf_let_eq ei49)
            refine pm_iinc (y := x48) (lv' := [(3, (0, x48)), (4, (0, y30)), (0, (3, 57)), (1, (0, a1)), (2, (3, 83))]) hC 4 dX2_holds_101 (by decide) rfl ei49 rfl ?_
            refine pm_goto (tgt := 12) hC dX2_holds_104 (by decide) ?_
            refine pm_lvsub [2, 3, 4, 0] (lv' := [(0, (3, 57)), (1, (0, a1)), (2, (3, 83)), (3, (0, x48))]) rfl ?_
            exact ih23 _ (by exact ow_79j_50 hm21 b27 c28 ei49) x48 V36 ⟨by exact ow_79j_51 b12 ei49, by exact ow_79j_52 b27 c28 ei49⟩ hV40 hF43 e44 (hT.trans (pf_val_inl hb19)) rfl
          · skip
            replace hb19 := hb19.trans (if_neg (fun q => q c47))
            refine pm_iconst (v := 0) hC dX2_holds_99 ?_
            replace hT := hT.trans (pf_val_inr hb19)
            exact pm_iret hC hR (pm_narZ (by exact ow_79j_10)) ⟨0, rfl, ⟨by exact ow_79j_11, by exact ow_79j_12⟩, hV40, hF43, hT⟩ dX2_holds_100
        · skip
          replace hb19 := hb19.trans (if_neg (Int.not_le.mpr c34))
          refine pm_iload hC 0 dX2_holds_56 rfl ?_
          refine pm_sipush (v := 10000) hC dX2_holds_58 (by decide) ?_
          refine pm_isub hC dX2_holds_61 ?_
          refine pm_istore (lv' := [(5, (0, (y30 - 10000))), (4, (0, y30)), (0, (3, 57)), (1, (0, a1)), (2, (3, 83)), (3, (0, x11))]) hC dX2_holds_62 (by decide) rfl ?_
          refine pm_aload_n hC 2 (by decide) dX2_holds_64 rfl ?_
          refine pm_iload hC 0 dX2_holds_65 rfl ?_
          refine pm_aload_n hC 4 (by decide) dX2_holds_67 rfl ?_
          refine pm_alen hC 83 rfl (by decide) rfl (by decide) dX2_holds_68 ?_
          change pm_J X 69 [(5, (0, (y30 - 10000))), (4, (0, y30)), (0, (3, 57)), (1, (0, a1)), (2, (3, 83)), (3, (0, x11))] [(0, 7), (0, (y30 - 10000)), (3, 57)] 118 V13
          refine pm_icmp_ge (tgt := 79) hC ⟨by exact ow_79j_53 c33, by exact ow_79j_54 c34⟩ ⟨by decide, by decide⟩ dX2_holds_69 (by decide) (fun c50 => ?_) (fun c50 => ?_)
          · skip
            replace hb19 := hb19.trans (if_pos c50)
            refine pm_lconst (x := 0) hC dX2_holds_79 rfl ?_
            refine pm_callV (ci := 2) (as := [(1, 0)]) (st := []) hC 57 (fD_X2_push_57 0 ⟨by decide, by decide⟩) lm_X2_38 li_X2_push (by decide) (by decide) rfl rfl rfl (by decide) rfl rfl (Nat.le_of_ble_eq_true rfl) ⟨Nat.le_refl _, Or.inl rfl⟩ dX2_holds_80 ⟨rfl, hV14⟩ (fun r51 V52 hp53 => ?_)
            obtain ⟨rfl, hV54, hF55, hE56⟩ := hp53
            replace hb19 := hb19.trans (pf_call_eq hE56)
            change pm_J X 83 [(5, (0, (y30 - 10000))), (4, (0, y30)), (0, (3, 57)), (1, (0, a1)), (2, (3, 83)), (3, (0, x11))] [] 118 V52
            have hF57 := pm_ff.tr hF15 hF55 (by decide) (by decide)
            have e58 : V52 57 2 = 59 := by rw [hF55 57 2 (by decide) (by decide)]; exact e16
            have e59 : V52 57 3 = 60 := by rw [hF55 57 3 (by decide) (by decide)]; exact e24
            have e60 : V52 57 4 = 61 := by rw [hF55 57 4 (by decide) (by decide)]; exact e29
            refine pm_goto (tgt := 101) hC dX2_holds_83 (by decide) ?_
            obtain ⟨x61, ei62⟩ : ∃ y : Int, x11 + 1 = y := ⟨_, rfl⟩
            replace hb19 := hb19.trans (pf_let_eq ei62)
            refine pm_iinc (y := x61) (lv' := [(3, (0, x61)), (5, (0, (y30 - 10000))), (4, (0, y30)), (0, (3, 57)), (1, (0, a1)), (2, (3, 83))]) hC 5 dX2_holds_101 (by decide) rfl ei62 rfl ?_
            refine pm_goto (tgt := 12) hC dX2_holds_104 (by decide) ?_
            refine pm_lvsub [3, 4, 5, 0] (lv' := [(0, (3, 57)), (1, (0, a1)), (2, (3, 83)), (3, (0, x61))]) rfl ?_
            exact ih23 _ (by exact ow_79j_50 hm21 b27 c28 ei62) x61 V52 ⟨by exact ow_79j_51 b12 ei62, by exact ow_79j_52 b27 c28 ei62⟩ hV54 hF57 e58 (hT.trans (pf_val_inl hb19)) rfl
          · skip
            replace hb19 := hb19.trans (if_neg (Int.not_le.mpr c50))
            refine pm_aload_n hC 4 (by decide) dX2_holds_72 rfl ?_
            refine pm_iload hC 0 dX2_holds_73 rfl ?_
            obtain ⟨y63, e64⟩ : ∃ y, V13 83 ((y30 - 10000) : Int).toNat = y := ⟨_, rfl⟩
            replace hb19 := hb19.trans (pf_let_eq e64)
            have b65 := hV14.get 83 ((y30 - 10000) : Int).toNat (lo := (-9223372036854775808)) (hi := 9223372036854775807) (by decide) (show _ < 7 by exact ow_79j_55 c50) rfl
            rw [e64] at b65
            refine pm_laload (len := 7) (v := y63) hC 83 rfl rfl (by decide) ⟨by exact ow_79j_56 c33, by exact ow_79j_57 c50⟩ (by decide) e64 dX2_holds_75 ?_
            refine pm_goto (tgt := 80) hC dX2_holds_76 (by decide) ?_
            refine pm_callV (ci := 2) (as := [(1, y63)]) (st := []) hC 57 (fD_X2_push_57 y63 ⟨by exact ow_79j_6 b65, by exact ow_79j_7 b65⟩) lm_X2_38 li_X2_push (by decide) (by decide) rfl rfl rfl (by decide) rfl rfl (Nat.le_of_ble_eq_true rfl) ⟨Nat.le_refl _, Or.inl rfl⟩ dX2_holds_80 ⟨rfl, hV14⟩ (fun r66 V67 hp68 => ?_)
            obtain ⟨rfl, hV69, hF70, hE71⟩ := hp68
            replace hb19 := hb19.trans (pf_call_eq hE71)
            change pm_J X 83 [(5, (0, (y30 - 10000))), (4, (0, y30)), (0, (3, 57)), (1, (0, a1)), (2, (3, 83)), (3, (0, x11))] [] 118 V67
            have hF72 := pm_ff.tr hF15 hF70 (by decide) (by decide)
            have e73 : V67 57 2 = 59 := by rw [hF70 57 2 (by decide) (by decide)]; exact e16
            have e74 : V67 57 3 = 60 := by rw [hF70 57 3 (by decide) (by decide)]; exact e24
            have e75 : V67 57 4 = 61 := by rw [hF70 57 4 (by decide) (by decide)]; exact e29
            refine pm_goto (tgt := 101) hC dX2_holds_83 (by decide) ?_
            obtain ⟨x76, ei77⟩ : ∃ y : Int, x11 + 1 = y := ⟨_, rfl⟩
            replace hb19 := hb19.trans (pf_let_eq ei77)
            refine pm_iinc (y := x76) (lv' := [(3, (0, x76)), (5, (0, (y30 - 10000))), (4, (0, y30)), (0, (3, 57)), (1, (0, a1)), (2, (3, 83))]) hC 5 dX2_holds_101 (by decide) rfl ei77 rfl ?_
            refine pm_goto (tgt := 12) hC dX2_holds_104 (by decide) ?_
            refine pm_lvsub [3, 4, 5, 0] (lv' := [(0, (3, 57)), (1, (0, a1)), (2, (3, 83)), (3, (0, x76))]) rfl ?_
            exact ih23 _ (by exact ow_79j_50 hm21 b27 c28 ei77) x76 V67 ⟨by exact ow_79j_51 b12 ei77, by exact ow_79j_52 b27 c28 ei77⟩ hV69 hF72 e73 (hT.trans (pf_val_inl hb19)) rfl
      · skip
        replace hb19 := hb19.trans (if_neg (Int.not_le.mpr c33))
        refine pm_aload_n hC 1 (by decide) dX2_holds_38 rfl ?_
        refine pm_iload hC 0 dX2_holds_39 rfl ?_
        refine pm_i2l hC ⟨by exact ow_79j_43 b32, by exact ow_79j_58 c33⟩ dX2_holds_41 ?_
        refine pm_callV (ci := 2) (as := [(1, y30)]) (st := []) hC 57 (fD_X2_push_57 y30 ⟨by exact ow_79j_59 b32, by exact ow_79j_60 c33⟩) lm_X2_38 li_X2_push (by decide) (by decide) rfl rfl rfl (by decide) rfl rfl (Nat.le_of_ble_eq_true rfl) ⟨Nat.le_refl _, Or.inl rfl⟩ dX2_holds_42 ⟨rfl, hV14⟩ (fun r78 V79 hp80 => ?_)
        obtain ⟨rfl, hV81, hF82, hE83⟩ := hp80
        replace hb19 := hb19.trans (pf_call_eq hE83)
        change pm_J X 45 [(4, (0, y30)), (0, (3, 57)), (1, (0, a1)), (2, (3, 83)), (3, (0, x11))] [] 118 V79
        have hF84 := pm_ff.tr hF15 hF82 (by decide) (by decide)
        have e85 : V79 57 2 = 59 := by rw [hF82 57 2 (by decide) (by decide)]; exact e16
        have e86 : V79 57 3 = 60 := by rw [hF82 57 3 (by decide) (by decide)]; exact e24
        have e87 : V79 57 4 = 61 := by rw [hF82 57 4 (by decide) (by decide)]; exact e29
        refine pm_goto (tgt := 101) hC dX2_holds_45 (by decide) ?_
        obtain ⟨x88, ei89⟩ : ∃ y : Int, x11 + 1 = y := ⟨_, rfl⟩
        replace hb19 := hb19.trans (pf_let_eq ei89)
        refine pm_iinc (y := x88) (lv' := [(3, (0, x88)), (4, (0, y30)), (0, (3, 57)), (1, (0, a1)), (2, (3, 83))]) hC 4 dX2_holds_101 (by decide) rfl ei89 rfl ?_
        refine pm_goto (tgt := 12) hC dX2_holds_104 (by decide) ?_
        refine pm_lvsub [2, 3, 4, 0] (lv' := [(0, (3, 57)), (1, (0, a1)), (2, (3, 83)), (3, (0, x88))]) rfl ?_
        exact ih23 _ (by exact ow_79j_50 hm21 b27 c28 ei89) x88 V79 ⟨by exact ow_79j_51 b12 ei89, by exact ow_79j_52 b27 c28 ei89⟩ hV81 hF84 e85 (hT.trans (pf_val_inl hb19)) rfl
  refine pm_lvsub [1, 2, 3, 0] (lv' := [(0, (3, 57)), (1, (0, a1)), (2, (3, 83)), (3, (0, y2))]) rfl ?_
  exact L20 _ y2 V5 ⟨by exact ow_79j_41 b4, by exact ow_79j_61 b4⟩ hV7 hF8 e9 hT rfl
set_option maxHeartbeats 4000000 in
set_option maxRecDepth 100000 in
theorem fD_X2_pop_63  : pm_K 1 yX2_pop cX2_pop 1 (some .long) (fun av V => av = [(3, 63)] ∧ pm_ok 0 90 V) (fun _ V r V' => ∃ y, r = some (1, y) ∧ ((-9223372036854775808) ≤ y ∧ y ≤ 9223372036854775807) ∧ pm_ok 0 90 V' ∧ pm_ff [] [(63, 7)] V V' ∧ F_X2_pop 63 V = (y, V')) := by
  refine pm_MT.of (by decide) ⟨Nat.le_refl _, by decide⟩ (fun av V h => by rw [h.1]; exact (by decide : pm_words [(3, 0)] ≤ 1)) ?_
  rintro X av V0 hC - hR ⟨rfl, hV0⟩
  change pm_J X 0 [(0, (3, 63))] [] 118 V0
  have hT := F_X2_pop_eq 63 V0
  refine pm_aload_n hC 0 (by decide) dX2_pop_0 rfl ?_
  obtain ⟨y1, e2⟩ : ∃ y, V0 63 7 = y := ⟨_, rfl⟩
  have b3 := hV0.get 63 7 (lo := 0) (hi := 64) (by decide) (by decide) rfl
  rw [e2] at b3
  replace hT := hT.trans (pf_let_eq e2)
  refine pm_getf (v := y1) hC 63 fl_X2_35 rfl rfl (by decide) rfl e2 dX2_pop_1 ?_
  refine pm_if_gt (tgt := 9) hC ⟨by exact ow_79j_62 b3, by exact ow_79j_63 b3⟩ dX2_pop_4 (by decide) (fun c4 => ?_) (fun c4 => ?_)
  · skip
    replace hT := hT.trans (if_pos c4)
    refine pm_aload_n hC 0 (by decide) dX2_pop_9 rfl ?_
    refine pm_dup hC rfl dX2_pop_10 ?_
    refine pm_getf (v := y1) hC 63 fl_X2_35 rfl rfl (by decide) rfl e2 dX2_pop_11 ?_
    refine pm_iconst (v := 1) hC dX2_pop_14 ?_
    refine pm_isub hC dX2_pop_15 ?_
    refine pm_putf hC 63 fl_X2_35 rfl rfl rfl (by decide) rfl trivial dX2_pop_16 ?_
    refine pm_aload_n hC 0 (by decide) dX2_pop_19 rfl ?_
    have e5 : V0 63 6 = 68 := hV0.one 63 6 (by decide) (by decide) rfl
    refine pm_getf (v := 68) hC 63 fl_X2_31 rfl rfl (by decide) rfl e5 dX2_pop_20 ?_
    refine pm_aload_n hC 0 (by decide) dX2_pop_23 rfl ?_
    refine pm_getf (v := (y1 - 1)) hC 63 fl_X2_35 rfl rfl (by decide) rfl rfl dX2_pop_24 ?_
    obtain ⟨y6, e7⟩ : ∃ y, V0 68 ((y1 - 1) : Int).toNat = y := ⟨_, rfl⟩
    replace hT := hT.trans (pf_let_eq e7)
    have b8 := hV0.get 68 ((y1 - 1) : Int).toNat (lo := (-9223372036854775808)) (hi := 9223372036854775807) (by decide) (show _ < 64 by exact ow_79j_64 b3) rfl
    rw [e7] at b8
    refine pm_laload (len := 64) (v := y6) hC 68 rfl rfl (by decide) ⟨by exact ow_79j_65 c4, by exact ow_79j_66 b3⟩ (by decide) e7 dX2_pop_27 ?_
    exact pm_lret hC hR ⟨y6, rfl, ⟨by exact ow_79j_6 b8, by exact ow_79j_7 b8⟩, (hV0.put 63 7 (x := (y1 - 1)) (lo := 0) (hi := 64) rfl ⟨by exact ow_79j_65 c4, by exact ow_79j_67 b3⟩), ((pm_ff.rf (cs := []) (fs := [(63, 7)]) (V := V0)).upf 63 7 (y1 - 1) rfl), hT⟩ dX2_pop_28
  · skip
    replace hT := hT.trans (if_neg (Int.not_lt.mpr c4))
    refine pm_lconst (x := 0) hC dX2_pop_7 rfl ?_
    exact pm_lret hC hR ⟨0, rfl, ⟨by exact ow_79j_68, by exact ow_79j_69⟩, hV0, (pm_ff.rf (cs := []) (fs := [(63, 7)]) (V := V0)), hT⟩ dX2_pop_8
set_option maxHeartbeats 4000000 in
set_option maxRecDepth 100000 in
theorem fD_X2_push_63 (a1 : Int) (h0 : (-9223372036854775808) ≤ a1 ∧ a1 ≤ 9223372036854775807) : pm_K 1 yX2_push cX2_push 3 none (fun av V => av = [(3, 63), (1, a1)] ∧ pm_ok 0 90 V) (fun _ V r V' => r = none ∧ pm_ok 0 90 V' ∧ pm_ff [68] [(63, 7)] V V' ∧ F_X2_push 63 a1 V = (0, V')) := by
  refine pm_MT.of (by decide) ⟨Nat.le_refl _, by decide⟩ (fun av V h => by rw [h.1]; exact (by decide : pm_words [(3, 0), (1, 0)] ≤ 3)) ?_
  rintro X av V0 hC - hR ⟨rfl, hV0⟩
  change pm_J X 0 [(0, (3, 63)), (1, (1, a1))] [] 118 V0
  have hT := F_X2_push_eq 63 a1 V0
  refine pm_aload_n hC 0 (by decide) dX2_push_0 rfl ?_
  obtain ⟨y1, e2⟩ : ∃ y, V0 63 7 = y := ⟨_, rfl⟩
  have b3 := hV0.get 63 7 (lo := 0) (hi := 64) (by decide) (by decide) rfl
  rw [e2] at b3
  replace hT := hT.trans (pf_let_eq e2)
  refine pm_getf (v := y1) hC 63 fl_X2_35 rfl rfl (by decide) rfl e2 dX2_push_1 ?_
  refine pm_bipush (v := 64) hC dX2_push_4 (by decide) ?_
  refine pm_icmp_ge (tgt := 29) hC ⟨by exact ow_79j_62 b3, by exact ow_79j_63 b3⟩ ⟨by decide, by decide⟩ dX2_push_6 (by decide) (fun c4 => ?_) (fun c4 => ?_)
  · skip
    replace hT := hT.trans (if_pos c4)
    exact pm_vret hC hR ⟨rfl, hV0, (pm_ff.rf (cs := [68]) (fs := [(63, 7)]) (V := V0)), hT⟩ dX2_push_29
  · skip
    replace hT := hT.trans (if_neg (Int.not_le.mpr c4))
    refine pm_aload_n hC 0 (by decide) dX2_push_9 rfl ?_
    have e5 : V0 63 6 = 68 := hV0.one 63 6 (by decide) (by decide) rfl
    refine pm_getf (v := 68) hC 63 fl_X2_31 rfl rfl (by decide) rfl e5 dX2_push_10 ?_
    refine pm_aload_n hC 0 (by decide) dX2_push_13 rfl ?_
    refine pm_getf (v := y1) hC 63 fl_X2_35 rfl rfl (by decide) rfl e2 dX2_push_14 ?_
    refine pm_lload_n hC 1 dX2_push_17 rfl ?_
    refine pm_lastore (len := 64) hC 68 rfl rfl (by decide) ⟨by exact ow_79j_70 b3, by exact ow_79j_71 c4⟩ (by decide) dX2_push_18 ?_
    refine pm_aload_n hC 0 (by decide) dX2_push_19 rfl ?_
    refine pm_dup hC rfl dX2_push_20 ?_
    refine pm_getf (v := y1) hC 63 fl_X2_35 rfl rfl (by decide) rfl e2 dX2_push_21 ?_
    refine pm_iconst (v := 1) hC dX2_push_24 ?_
    refine pm_iadd hC dX2_push_25 ?_
    refine pm_putf hC 63 fl_X2_35 rfl rfl rfl (by decide) rfl trivial dX2_push_26 ?_
    exact pm_vret hC hR ⟨rfl, ((hV0.put 68 (y1 : Int).toNat (x := a1) (lo := (-9223372036854775808)) (hi := 9223372036854775807) rfl ⟨by exact ow_79j_6 h0, by exact ow_79j_7 h0⟩).put 63 7 (x := (y1 + 1)) (lo := 0) (hi := 64) rfl ⟨by exact ow_79j_72 b3, by exact ow_79j_73 c4⟩), (((pm_ff.rf (cs := [68]) (fs := [(63, 7)]) (V := V0)).upa 68 (y1 : Int).toNat a1 rfl).upf 63 7 (y1 + 1) rfl), hT⟩ dX2_push_29
set_option maxHeartbeats 4000000 in
set_option maxRecDepth 100000 in
theorem fD_X2_applies_63 (a1 : Int) (h0 : (-2147483648) ≤ a1 ∧ a1 ≤ 2147483647) : pm_K 2 yX2_applies cX2_applies 6 (some .boolean) (fun av V => av = [(3, 63), (0, a1)] ∧ pm_ok 0 90 V) (fun _ V r V' => ∃ y, r = some (0, y) ∧ (0 ≤ y ∧ y ≤ 1) ∧ pm_ok 0 90 V' ∧ pm_ff [68] [(63, 7)] V V' ∧ F_X2_applies 63 a1 V = (y, V')) := by
  refine pm_MT.of (by decide) ⟨Nat.le_refl _, by decide⟩ (fun av V h => by rw [h.1]; exact (by decide : pm_words [(3, 0), (0, 0)] ≤ 6)) ?_
  rintro X av V0 hC - hR ⟨rfl, hV0⟩
  change pm_J X 0 [(0, (3, 63)), (1, (0, a1))] [] 118 V0
  have hT := F_X2_applies_eq 63 a1 V0
  refine pm_aload_n hC 0 (by decide) dX2_applies_0 rfl ?_
  refine pm_callV (ci := 2) (as := []) (st := []) hC 63 fD_X2_pop_63 lm_X2_46 li_X2_pop (by decide) (by decide) rfl rfl rfl (by decide) rfl rfl (Nat.le_of_ble_eq_true rfl) ⟨Nat.le_refl _, Or.inl rfl⟩ dX2_applies_1 ⟨rfl, hV0⟩ (fun r1 V2 hp3 => ?_)
  obtain ⟨y4, rfl, b5, hV6, hF7, hE8⟩ := hp3
  replace hT := hT.trans (pf_call_eq hE8)
  change pm_J X 4 [(0, (3, 63)), (1, (0, a1))] [(1, y4)] 118 V2
  have hF9 := pm_ff.tr (pm_ff.rf (cs := [68]) (fs := [(63, 7)]) (V := V0)) hF7 (by decide) (by decide)
  refine pm_lstore_n (lv' := [(2, (1, y4)), (0, (3, 63)), (1, (0, a1))]) hC dX2_applies_4 (by decide) rfl ?_
  refine pm_aload_n hC 1 (by decide) dX2_applies_5 rfl ?_
  refine pm_callV (ci := 2) (as := []) (st := []) hC 63 fD_X2_pop_63 lm_X2_46 li_X2_pop (by decide) (by decide) rfl rfl rfl (by decide) rfl rfl (Nat.le_of_ble_eq_true rfl) ⟨Nat.le_refl _, Or.inl rfl⟩ dX2_applies_6 ⟨rfl, hV6⟩ (fun r10 V11 hp12 => ?_)
  obtain ⟨y13, rfl, b14, hV15, hF16, hE17⟩ := hp12
  replace hT := hT.trans (pf_call_eq hE17)
  change pm_J X 9 [(2, (1, y4)), (0, (3, 63)), (1, (0, a1))] [(1, y13)] 118 V11
  have hF18 := pm_ff.tr hF9 hF16 (by decide) (by decide)
  refine pm_lstore (lv' := [(4, (1, y13)), (2, (1, y4)), (0, (3, 63)), (1, (0, a1))]) hC dX2_applies_9 (by decide) rfl ?_
  refine pm_iload_n hC 3 dX2_applies_11 rfl ?_
  rcases (show (a1 ≠ 42 ∧ a1 ≠ 43 ∧ a1 ≠ 45 ∧ a1 ≠ 60) ∨ a1 = 42 ∨ a1 = 43 ∨ a1 = 45 ∨ a1 = 60 by omega) with c19 | c19 | c19 | c19 | c19
  · skip
    refine pm_lookup (tgt := 108) (off := 96) hC ⟨by exact ow_79j_0 h0, by exact ow_79j_1 h0⟩ dX2_applies_12 (by decide) (by simp [Op.lookupswitch.offset, List.find?, (show ¬ 42 = a1 by exact ow_79j_2 c19), (show ¬ 43 = a1 by exact ow_79j_3 c19), (show ¬ 45 = a1 by exact ow_79j_4 c19), (show ¬ 60 = a1 by exact ow_79j_5 c19)]) (by decide) ?_
    replace hT := hT.trans (if_pos c19)
    refine pm_lload hC 0 dX2_applies_108 rfl ?_
    refine pm_lload_n hC 1 dX2_applies_110 rfl ?_
    refine pm_lcmp hC ⟨by exact ow_79j_6 b14, by exact ow_79j_7 b14⟩ ⟨by exact ow_79j_6 b5, by exact ow_79j_7 b5⟩ dX2_applies_111 (fun y20 b21 => ?_)
    replace hT := hT.trans (pf_let_eq (pm_cmp_u b21))
    refine pm_if_ne (tgt := 119) hC ⟨by exact ow_79j_8 b21, by exact ow_79j_9 b21⟩ dX2_applies_112 (by decide) (fun c22 => ?_) (fun c22 => ?_)
    · skip
      replace hT := hT.trans (if_pos c22)
      refine pm_iconst (v := 0) hC dX2_applies_119 ?_
      exact pm_iret hC hR (pm_narZ (by exact ow_79j_10)) ⟨0, rfl, ⟨by exact ow_79j_11, by exact ow_79j_12⟩, hV15, hF18, hT⟩ dX2_applies_120
    · skip
      replace hT := hT.trans (if_neg (fun q => q c22))
      refine pm_iconst (v := 1) hC dX2_applies_115 ?_
      refine pm_goto (tgt := 120) hC dX2_applies_116 (by decide) ?_
      exact pm_iret hC hR (pm_narZ (by exact ow_79j_13)) ⟨1, rfl, ⟨by exact ow_79j_12, by exact ow_79j_14⟩, hV15, hF18, hT⟩ dX2_applies_120
  · skip
    refine pm_lookup (tgt := 82) (off := 70) hC ⟨by exact ow_79j_15 c19, by exact ow_79j_16 c19⟩ dX2_applies_12 (by decide) (by rw [c19]; rfl) (by decide) ?_
    replace hT := hT.trans (if_neg (by exact ow_79j_17 c19))
    replace hT := hT.trans (if_pos c19)
    refine pm_aload_n hC 2 (by decide) dX2_applies_82 rfl ?_
    refine pm_lload hC 0 dX2_applies_83 rfl ?_
    refine pm_lload_n hC 1 dX2_applies_85 rfl ?_
    refine pm_lmul hC dX2_applies_86 ?_
    refine pm_wrL hC (fun y23 hw25 b24 => ?_)
    replace hT := hT.trans (pf_let_eq hw25)
    have b24 := And.intro b24.1 b24.2
    refine pm_callS (as := [(1, y23)]) (st := [(3, 63)]) hC (fD_X2_bounded y23 ⟨by exact ow_79j_6 b24, by exact ow_79j_7 b24⟩) lm_X2_50 ls_X2_bounded (by decide) (by decide) rfl rfl (Nat.le_of_ble_eq_true rfl) ⟨Nat.le_refl _, Or.inl rfl⟩ dX2_applies_87 ⟨rfl, hV15⟩ (fun r26 V27 hp28 => ?_)
    obtain ⟨y29, rfl, b30, rfl, hE31⟩ := hp28
    replace hT := hT.trans (pf_call_eq hE31)
    change pm_J X 90 [(4, (1, y13)), (2, (1, y4)), (0, (3, 63)), (1, (0, a1))] [(1, y29), (3, 63)] 118 V11
    refine pm_callV (ci := 2) (as := [(1, y29)]) (st := []) hC 63 (fD_X2_push_63 y29 ⟨by exact ow_79j_18 b30, by exact ow_79j_19 b30⟩) lm_X2_38 li_X2_push (by decide) (by decide) rfl rfl rfl (by decide) rfl rfl (Nat.le_of_ble_eq_true rfl) ⟨Nat.le_refl _, Or.inl rfl⟩ dX2_applies_90 ⟨rfl, hV15⟩ (fun r32 V33 hp34 => ?_)
    obtain ⟨rfl, hV35, hF36, hE37⟩ := hp34
    replace hT := hT.trans (pf_call_eq hE37)
    change pm_J X 93 [(4, (1, y13)), (2, (1, y4)), (0, (3, 63)), (1, (0, a1))] [] 118 V33
    have hF38 := pm_ff.tr hF18 hF36 (by decide) (by decide)
    refine pm_iconst (v := 1) hC dX2_applies_93 ?_
    exact pm_iret hC hR (pm_narZ (by exact ow_79j_13)) ⟨1, rfl, ⟨by exact ow_79j_12, by exact ow_79j_14⟩, hV35, hF38, hT⟩ dX2_applies_94
  · skip
    refine pm_lookup (tgt := 56) (off := 44) hC ⟨by exact ow_79j_20 c19, by exact ow_79j_21 c19⟩ dX2_applies_12 (by decide) (by rw [c19]; rfl) (by decide) ?_
    replace hT := hT.trans (if_neg (by exact ow_79j_22 c19))
    replace hT := hT.trans (if_neg (by exact ow_79j_23 c19))
    replace hT := hT.trans (if_pos c19)
    refine pm_aload_n hC 2 (by decide) dX2_applies_56 rfl ?_
    refine pm_lload hC 0 dX2_applies_57 rfl ?_
    refine pm_lload_n hC 1 dX2_applies_59 rfl ?_
    refine pm_ladd hC dX2_applies_60 ?_
    refine pm_wrL hC (fun y39 hw41 b40 => ?_)
    replace hT := hT.trans (pf_let_eq hw41)
    have b40 := And.intro b40.1 b40.2
    refine pm_callS (as := [(1, y39)]) (st := [(3, 63)]) hC (fD_X2_bounded y39 ⟨by exact ow_79j_6 b40, by exact ow_79j_7 b40⟩) lm_X2_50 ls_X2_bounded (by decide) (by decide) rfl rfl (Nat.le_of_ble_eq_true rfl) ⟨Nat.le_refl _, Or.inl rfl⟩ dX2_applies_61 ⟨rfl, hV15⟩ (fun r42 V43 hp44 => ?_)
    obtain ⟨y45, rfl, b46, rfl, hE47⟩ := hp44
    replace hT := hT.trans (pf_call_eq hE47)
    change pm_J X 64 [(4, (1, y13)), (2, (1, y4)), (0, (3, 63)), (1, (0, a1))] [(1, y45), (3, 63)] 118 V11
    refine pm_callV (ci := 2) (as := [(1, y45)]) (st := []) hC 63 (fD_X2_push_63 y45 ⟨by exact ow_79j_18 b46, by exact ow_79j_19 b46⟩) lm_X2_38 li_X2_push (by decide) (by decide) rfl rfl rfl (by decide) rfl rfl (Nat.le_of_ble_eq_true rfl) ⟨Nat.le_refl _, Or.inl rfl⟩ dX2_applies_64 ⟨rfl, hV15⟩ (fun r48 V49 hp50 => ?_)
    obtain ⟨rfl, hV51, hF52, hE53⟩ := hp50
    replace hT := hT.trans (pf_call_eq hE53)
    change pm_J X 67 [(4, (1, y13)), (2, (1, y4)), (0, (3, 63)), (1, (0, a1))] [] 118 V49
    have hF54 := pm_ff.tr hF18 hF52 (by decide) (by decide)
    refine pm_iconst (v := 1) hC dX2_applies_67 ?_
    exact pm_iret hC hR (pm_narZ (by exact ow_79j_13)) ⟨1, rfl, ⟨by exact ow_79j_12, by exact ow_79j_14⟩, hV51, hF54, hT⟩ dX2_applies_68
  · skip
    refine pm_lookup (tgt := 69) (off := 57) hC ⟨by exact ow_79j_24 c19, by exact ow_79j_25 c19⟩ dX2_applies_12 (by decide) (by rw [c19]; rfl) (by decide) ?_
    replace hT := hT.trans (if_neg (by exact ow_79j_26 c19))
    replace hT := hT.trans (if_neg (by exact ow_79j_27 c19))
    replace hT := hT.trans (if_neg (by exact ow_79j_28 c19))
    replace hT := hT.trans (if_pos c19)
    refine pm_aload_n hC 2 (by decide) dX2_applies_69 rfl ?_
    refine pm_lload hC 0 dX2_applies_70 rfl ?_
    refine pm_lload_n hC 1 dX2_applies_72 rfl ?_
    refine pm_lsub hC dX2_applies_73 ?_
    refine pm_wrL hC (fun y55 hw57 b56 => ?_)
    replace hT := hT.trans (pf_let_eq hw57)
    have b56 := And.intro b56.1 b56.2
    refine pm_callS (as := [(1, y55)]) (st := [(3, 63)]) hC (fD_X2_bounded y55 ⟨by exact ow_79j_6 b56, by exact ow_79j_7 b56⟩) lm_X2_50 ls_X2_bounded (by decide) (by decide) rfl rfl (Nat.le_of_ble_eq_true rfl) ⟨Nat.le_refl _, Or.inl rfl⟩ dX2_applies_74 ⟨rfl, hV15⟩ (fun r58 V59 hp60 => ?_)
    obtain ⟨y61, rfl, b62, rfl, hE63⟩ := hp60
    replace hT := hT.trans (pf_call_eq hE63)
    change pm_J X 77 [(4, (1, y13)), (2, (1, y4)), (0, (3, 63)), (1, (0, a1))] [(1, y61), (3, 63)] 118 V11
    refine pm_callV (ci := 2) (as := [(1, y61)]) (st := []) hC 63 (fD_X2_push_63 y61 ⟨by exact ow_79j_18 b62, by exact ow_79j_19 b62⟩) lm_X2_38 li_X2_push (by decide) (by decide) rfl rfl rfl (by decide) rfl rfl (Nat.le_of_ble_eq_true rfl) ⟨Nat.le_refl _, Or.inl rfl⟩ dX2_applies_77 ⟨rfl, hV15⟩ (fun r64 V65 hp66 => ?_)
    obtain ⟨rfl, hV67, hF68, hE69⟩ := hp66
    replace hT := hT.trans (pf_call_eq hE69)
    change pm_J X 80 [(4, (1, y13)), (2, (1, y4)), (0, (3, 63)), (1, (0, a1))] [] 118 V65
    have hF70 := pm_ff.tr hF18 hF68 (by decide) (by decide)
    refine pm_iconst (v := 1) hC dX2_applies_80 ?_
    exact pm_iret hC hR (pm_narZ (by exact ow_79j_13)) ⟨1, rfl, ⟨by exact ow_79j_12, by exact ow_79j_14⟩, hV67, hF70, hT⟩ dX2_applies_81
  · skip
    refine pm_lookup (tgt := 95) (off := 83) hC ⟨by exact ow_79j_29 c19, by exact ow_79j_30 c19⟩ dX2_applies_12 (by decide) (by rw [c19]; rfl) (by decide) ?_
    replace hT := hT.trans (if_neg (by exact ow_79j_31 c19))
    replace hT := hT.trans (if_neg (by exact ow_79j_32 c19))
    replace hT := hT.trans (if_neg (by exact ow_79j_33 c19))
    replace hT := hT.trans (if_neg (by exact ow_79j_34 c19))
    replace hT := hT.trans (if_pos c19)
    refine pm_lload hC 0 dX2_applies_95 rfl ?_
    refine pm_lload_n hC 1 dX2_applies_97 rfl ?_
    refine pm_lcmp hC ⟨by exact ow_79j_6 b14, by exact ow_79j_7 b14⟩ ⟨by exact ow_79j_6 b5, by exact ow_79j_7 b5⟩ dX2_applies_98 (fun y71 b72 => ?_)
    replace hT := hT.trans (pf_let_eq (pm_cmp_u b72))
    refine pm_if_ge (tgt := 106) hC ⟨by exact ow_79j_8 b72, by exact ow_79j_9 b72⟩ dX2_applies_99 (by decide) (fun c73 => ?_) (fun c73 => ?_)
    · skip
      replace hT := hT.trans (if_pos c73)
      refine pm_iconst (v := 0) hC dX2_applies_106 ?_
      exact pm_iret hC hR (pm_narZ (by exact ow_79j_10)) ⟨0, rfl, ⟨by exact ow_79j_11, by exact ow_79j_12⟩, hV15, hF18, hT⟩ dX2_applies_107
    · skip
      replace hT := hT.trans (if_neg (Int.not_le.mpr c73))
      refine pm_iconst (v := 1) hC dX2_applies_102 ?_
      refine pm_goto (tgt := 107) hC dX2_applies_103 (by decide) ?_
      exact pm_iret hC hR (pm_narZ (by exact ow_79j_13)) ⟨1, rfl, ⟨by exact ow_79j_12, by exact ow_79j_14⟩, hV15, hF18, hT⟩ dX2_applies_107
set_option maxHeartbeats 4000000 in
set_option maxRecDepth 100000 in
theorem fD_X2_holds_63_83 (a1 : Int) (h0 : 0 ≤ a1 ∧ a1 ≤ 9) : pm_K 3 yX2_holds cX2_holds 6 (some .boolean) (fun av V => av = [(3, 63), (0, a1), (3, 83)] ∧ pm_ok 0 90 V) (fun _ V r V' => ∃ y, r = some (0, y) ∧ (0 ≤ y ∧ y ≤ 1) ∧ pm_ok 0 90 V' ∧ pm_ff [68] [(63, 7)] V V' ∧ F_X2_holds 63 a1 V = (y, V')) := by
  refine pm_MT.of (by decide) ⟨Nat.le_refl _, by decide⟩ (fun av V h => by rw [h.1]; exact (by decide : pm_words [(3, 0), (0, 0), (3, 0)] ≤ 6)) ?_
  rintro X av V0 hC - hR ⟨rfl, hV0⟩
  change pm_J X 0 [(0, (3, 63)), (1, (0, a1)), (2, (3, 83))] [] 118 V0
  have hT := F_X2_holds_eq 63 a1 V0
  refine pm_aload_n hC 0 (by decide) dX2_holds_0 rfl ?_
  refine pm_iconst (v := 0) hC dX2_holds_1 ?_
  refine pm_putf hC 63 fl_X2_35 rfl rfl rfl (by decide) rfl trivial dX2_holds_2 ?_
  refine pm_aload_n hC 0 (by decide) dX2_holds_5 rfl ?_
  have e1 : V0 63 2 = 65 := hV0.one 63 2 (by decide) (by decide) rfl
  refine pm_getf (v := 65) hC 63 fl_X2_19 rfl rfl (by decide) rfl e1 dX2_holds_6 ?_
  refine pm_iload_n hC 1 dX2_holds_9 rfl ?_
  obtain ⟨y2, e3⟩ : ∃ y, V0 65 (a1 : Int).toNat = y := ⟨_, rfl⟩
  replace hT := hT.trans (pf_let_eq e3)
  have b4 := hV0.get 65 (a1 : Int).toNat (lo := 0) (hi := 500) (by decide) (show _ < 10 by exact ow_79j_35 h0) rfl
  rw [e3] at b4
  refine pm_iaload (len := 10) (v := y2) hC 65 rfl rfl (by decide) ⟨by exact ow_79j_36 h0, by exact ow_79j_37 h0⟩ (by decide) e3 dX2_holds_10 ?_
  refine pm_istore_n (lv' := [(3, (0, y2)), (0, (3, 63)), (1, (0, a1)), (2, (3, 83))]) hC dX2_holds_11 (by decide) rfl ?_
  have hV7 := (hV0.put 63 7 (x := 0) (lo := 0) (hi := 64) rfl ⟨by decide, by decide⟩)
  have hF8 := ((pm_ff.rf (cs := [68]) (fs := [(63, 7)]) (V := V0)).upf 63 7 0 rfl)
  obtain ⟨V5, hv6⟩ : ∃ V, V = (pm_up V0 63 7 0) := ⟨_, rfl⟩
  rw [← hv6] at hV7 hF8
  rw [← hv6]
  replace hT := hT.trans (pf_let_eq hv6.symm)
  have e9 : V5 63 2 = 65 := by rw [hv6]; exact e1
  have e10 : V5 63 7 = 0 := by rw [hv6]; rfl
  obtain ⟨B17, hB18, hT⟩ := pf_loop hT
  have L20 : ∀ (N22 : Nat) (x11 : Int) (V13 : pm_M), (0 ≤ x11 ∧ x11 ≤ 500) → pm_ok 0 90 V13 → pm_ff [68] [(63, 7)] V0 V13 → V13 63 2 = 65 → F_X2_holds 63 a1 V0 = pf_val ((0 : Int), V0) B17 (x11, V13) → (Int.toNat (500 - x11)) = N22 → pm_J X 12 [(0, (3, 63)), (1, (0, a1)), (2, (3, 83)), (3, (0, x11))] [] 118 V13 := by
    intro N22
    induction N22 using Nat.strongRecOn with
    | _ N22 ih23 =>
    intro x11 V13 b12 hV14 hF15 e16 hT hm21
    have hb19 := congrFun hB18 (x11, V13)
    refine pm_iload_n hC 3 dX2_holds_12 rfl ?_
    refine pm_aload_n hC 0 (by decide) dX2_holds_13 rfl ?_
    have e24 : V13 63 3 = 66 := hV14.one 63 3 (by decide) (by decide) rfl
    refine pm_getf (v := 66) hC 63 fl_X2_22 rfl rfl (by decide) rfl e24 dX2_holds_14 ?_
    refine pm_iload_n hC 1 dX2_holds_17 rfl ?_
    obtain ⟨y25, e26⟩ : ∃ y, V13 66 (a1 : Int).toNat = y := ⟨_, rfl⟩
    replace hb19 := hb19.trans (pf_let_eq e26)
    have b27 := hV14.get 66 (a1 : Int).toNat (lo := 0) (hi := 500) (by decide) (show _ < 10 by exact ow_79j_35 h0) rfl
    rw [e26] at b27
    refine pm_iaload (len := 10) (v := y25) hC 66 rfl rfl (by decide) ⟨by exact ow_79j_36 h0, by exact ow_79j_37 h0⟩ (by decide) e26 dX2_holds_18 ?_
    refine pm_icmp_ge (tgt := 107) hC ⟨by exact ow_79j_38 b12, by exact ow_79j_39 b12⟩ ⟨by exact ow_79j_38 b27, by exact ow_79j_39 b27⟩ dX2_holds_19 (by decide) (fun c28 => ?_) (fun c28 => ?_)
    · skip
      replace hb19 := hb19.trans (if_pos c28)
      refine pm_iconst (v := 1) hC dX2_holds_107 ?_
      replace hT := hT.trans (pf_val_inr hb19)
      exact pm_iret hC hR (pm_narZ (by exact ow_79j_13)) ⟨1, rfl, ⟨by exact ow_79j_12, by exact ow_79j_14⟩, hV14, hF15, hT⟩ dX2_holds_108
    · skip
      replace hb19 := hb19.trans (if_neg (Int.not_le.mpr c28))
      refine pm_aload_n hC 0 (by decide) dX2_holds_22 rfl ?_
      have e29 : V13 63 4 = 67 := hV14.one 63 4 (by decide) (by decide) rfl
      refine pm_getf (v := 67) hC 63 fl_X2_25 rfl rfl (by decide) rfl e29 dX2_holds_23 ?_
      refine pm_iload_n hC 3 dX2_holds_26 rfl ?_
      obtain ⟨y30, e31⟩ : ∃ y, V13 67 (x11 : Int).toNat = y := ⟨_, rfl⟩
      replace hb19 := hb19.trans (pf_let_eq e31)
      have b32 := hV14.get 67 (x11 : Int).toNat (lo := 0) (hi := 30000) (by decide) (show _ < 500 by exact ow_79j_40 b27 c28) rfl
      rw [e31] at b32
      refine pm_iaload (len := 500) (v := y30) hC 67 rfl rfl (by decide) ⟨by exact ow_79j_41 b12, by exact ow_79j_42 b27 c28⟩ (by decide) e31 dX2_holds_27 ?_
      refine pm_istore (lv' := [(4, (0, y30)), (0, (3, 63)), (1, (0, a1)), (2, (3, 83)), (3, (0, x11))]) hC dX2_holds_28 (by decide) rfl ?_
      refine pm_iload hC 0 dX2_holds_30 rfl ?_
      refine pm_sipush (v := 10000) hC dX2_holds_32 (by decide) ?_
      refine pm_icmp_ge (tgt := 48) hC ⟨by exact ow_79j_43 b32, by exact ow_79j_44 b32⟩ ⟨by decide, by decide⟩ dX2_holds_35 (by decide) (fun c33 => ?_) (fun c33 => ?_)
      · skip
        replace hb19 := hb19.trans (if_pos c33)
        refine pm_iload hC 0 dX2_holds_48 rfl ?_
        refine pm_sipush (v := 20000) hC dX2_holds_50 (by decide) ?_
        refine pm_icmp_ge (tgt := 86) hC ⟨by exact ow_79j_45 c33, by exact ow_79j_44 b32⟩ ⟨by decide, by decide⟩ dX2_holds_53 (by decide) (fun c34 => ?_) (fun c34 => ?_)
        · skip
          replace hb19 := hb19.trans (if_pos c34)
          refine pm_aload_n hC 1 (by decide) dX2_holds_86 rfl ?_
          refine pm_iload hC 0 dX2_holds_87 rfl ?_
          refine pm_sipush (v := 20000) hC dX2_holds_89 (by decide) ?_
          refine pm_isub hC dX2_holds_92 ?_
          refine pm_callV (ci := 2) (as := [(0, (y30 - 20000))]) (st := []) hC 63 (fD_X2_applies_63 (y30 - 20000) ⟨by exact ow_79j_46 c34, by exact ow_79j_47 b32⟩) lm_X2_42 li_X2_applies (by decide) (by decide) rfl rfl rfl (by decide) rfl rfl (Nat.le_of_ble_eq_true rfl) ⟨Nat.le_refl _, Or.inl rfl⟩ dX2_holds_93 ⟨rfl, hV14⟩ (fun r35 V36 hp37 => ?_)
          obtain ⟨y38, rfl, b39, hV40, hF41, hE42⟩ := hp37
          replace hb19 := hb19.trans (pf_call_eq hE42)
          change pm_J X 96 [(4, (0, y30)), (0, (3, 63)), (1, (0, a1)), (2, (3, 83)), (3, (0, x11))] [(0, y38)] 118 V36
          have hF43 := pm_ff.tr hF15 hF41 (by decide) (by decide)
          have e44 : V36 63 2 = 65 := by rw [hF41 63 2 (by decide) (by decide)]; exact e16
          have e45 : V36 63 3 = 66 := by rw [hF41 63 3 (by decide) (by decide)]; exact e24
          have e46 : V36 63 4 = 67 := by rw [hF41 63 4 (by decide) (by decide)]; exact e29
          refine pm_if_ne (tgt := 101) hC ⟨by exact ow_79j_48 b39, by exact ow_79j_49 b39⟩ dX2_holds_96 (by decide) (fun c47 => ?_) (fun c47 => ?_)
          · skip
            replace hb19 := hb19.trans (if_pos c47)
            obtain ⟨x48, ei49⟩ : ∃ y : Int, x11 + 1 = y := ⟨_, rfl⟩
            replace hb19 := hb19.trans (pf_let_eq ei49)
            refine pm_iinc (y := x48) (lv' := [(3, (0, x48)), (4, (0, y30)), (0, (3, 63)), (1, (0, a1)), (2, (3, 83))]) hC 4 dX2_holds_101 (by decide) rfl ei49 rfl ?_
            refine pm_goto (tgt := 12) hC dX2_holds_104 (by decide) ?_
            refine pm_lvsub [2, 3, 4, 0] (lv' := [(0, (3, 63)), (1, (0, a1)), (2, (3, 83)), (3, (0, x48))]) rfl ?_
            exact ih23 _ (by exact ow_79j_50 hm21 b27 c28 ei49) x48 V36 ⟨by exact ow_79j_51 b12 ei49, by exact ow_79j_52 b27 c28 ei49⟩ hV40 hF43 e44 (hT.trans (pf_val_inl hb19)) rfl
          · skip
            replace hb19 := hb19.trans (if_neg (fun q => q c47))
            refine pm_iconst (v := 0) hC dX2_holds_99 ?_
            replace hT := hT.trans (pf_val_inr hb19)
            exact pm_iret hC hR (pm_narZ (by exact ow_79j_10)) ⟨0, rfl, ⟨by exact ow_79j_11, by exact ow_79j_12⟩, hV40, hF43, hT⟩ dX2_holds_100
        · skip
          replace hb19 := hb19.trans (if_neg (Int.not_le.mpr c34))
          refine pm_iload hC 0 dX2_holds_56 rfl ?_
          refine pm_sipush (v := 10000) hC dX2_holds_58 (by decide) ?_
          refine pm_isub hC dX2_holds_61 ?_
          refine pm_istore (lv' := [(5, (0, (y30 - 10000))), (4, (0, y30)), (0, (3, 63)), (1, (0, a1)), (2, (3, 83)), (3, (0, x11))]) hC dX2_holds_62 (by decide) rfl ?_
          refine pm_aload_n hC 2 (by decide) dX2_holds_64 rfl ?_
          refine pm_iload hC 0 dX2_holds_65 rfl ?_
          refine pm_aload_n hC 4 (by decide) dX2_holds_67 rfl ?_
          refine pm_alen hC 83 rfl (by decide) rfl (by decide) dX2_holds_68 ?_
          change pm_J X 69 [(5, (0, (y30 - 10000))), (4, (0, y30)), (0, (3, 63)), (1, (0, a1)), (2, (3, 83)), (3, (0, x11))] [(0, 7), (0, (y30 - 10000)), (3, 63)] 118 V13
          refine pm_icmp_ge (tgt := 79) hC ⟨by exact ow_79j_53 c33, by exact ow_79j_54 c34⟩ ⟨by decide, by decide⟩ dX2_holds_69 (by decide) (fun c50 => ?_) (fun c50 => ?_)
          · skip
            replace hb19 := hb19.trans (if_pos c50)
            refine pm_lconst (x := 0) hC dX2_holds_79 rfl ?_
            refine pm_callV (ci := 2) (as := [(1, 0)]) (st := []) hC 63 (fD_X2_push_63 0 ⟨by decide, by decide⟩) lm_X2_38 li_X2_push (by decide) (by decide) rfl rfl rfl (by decide) rfl rfl (Nat.le_of_ble_eq_true rfl) ⟨Nat.le_refl _, Or.inl rfl⟩ dX2_holds_80 ⟨rfl, hV14⟩ (fun r51 V52 hp53 => ?_)
            obtain ⟨rfl, hV54, hF55, hE56⟩ := hp53
            replace hb19 := hb19.trans (pf_call_eq hE56)
            change pm_J X 83 [(5, (0, (y30 - 10000))), (4, (0, y30)), (0, (3, 63)), (1, (0, a1)), (2, (3, 83)), (3, (0, x11))] [] 118 V52
            have hF57 := pm_ff.tr hF15 hF55 (by decide) (by decide)
            have e58 : V52 63 2 = 65 := by rw [hF55 63 2 (by decide) (by decide)]; exact e16
            have e59 : V52 63 3 = 66 := by rw [hF55 63 3 (by decide) (by decide)]; exact e24
            have e60 : V52 63 4 = 67 := by rw [hF55 63 4 (by decide) (by decide)]; exact e29
            refine pm_goto (tgt := 101) hC dX2_holds_83 (by decide) ?_
            obtain ⟨x61, ei62⟩ : ∃ y : Int, x11 + 1 = y := ⟨_, rfl⟩
            replace hb19 := hb19.trans (pf_let_eq ei62)
            refine pm_iinc (y := x61) (lv' := [(3, (0, x61)), (5, (0, (y30 - 10000))), (4, (0, y30)), (0, (3, 63)), (1, (0, a1)), (2, (3, 83))]) hC 5 dX2_holds_101 (by decide) rfl ei62 rfl ?_
            refine pm_goto (tgt := 12) hC dX2_holds_104 (by decide) ?_
            refine pm_lvsub [3, 4, 5, 0] (lv' := [(0, (3, 63)), (1, (0, a1)), (2, (3, 83)), (3, (0, x61))]) rfl ?_
            exact ih23 _ (by exact ow_79j_50 hm21 b27 c28 ei62) x61 V52 ⟨by exact ow_79j_51 b12 ei62, by exact ow_79j_52 b27 c28 ei62⟩ hV54 hF57 e58 (hT.trans (pf_val_inl hb19)) rfl
          · skip
            replace hb19 := hb19.trans (if_neg (Int.not_le.mpr c50))
            refine pm_aload_n hC 4 (by decide) dX2_holds_72 rfl ?_
            refine pm_iload hC 0 dX2_holds_73 rfl ?_
            obtain ⟨y63, e64⟩ : ∃ y, V13 83 ((y30 - 10000) : Int).toNat = y := ⟨_, rfl⟩
            replace hb19 := hb19.trans (pf_let_eq e64)
            have b65 := hV14.get 83 ((y30 - 10000) : Int).toNat (lo := (-9223372036854775808)) (hi := 9223372036854775807) (by decide) (show _ < 7 by exact ow_79j_55 c50) rfl
            rw [e64] at b65
            refine pm_laload (len := 7) (v := y63) hC 83 rfl rfl (by decide) ⟨by exact ow_79j_56 c33, by exact ow_79j_57 c50⟩ (by decide) e64 dX2_holds_75 ?_
            refine pm_goto (tgt := 80) hC dX2_holds_76 (by decide) ?_
            refine pm_callV (ci := 2) (as := [(1, y63)]) (st := []) hC 63 (fD_X2_push_63 y63 ⟨by exact ow_79j_6 b65, by exact ow_79j_7 b65⟩) lm_X2_38 li_X2_push (by decide) (by decide) rfl rfl rfl (by decide) rfl rfl (Nat.le_of_ble_eq_true rfl) ⟨Nat.le_refl _, Or.inl rfl⟩ dX2_holds_80 ⟨rfl, hV14⟩ (fun r66 V67 hp68 => ?_)
            obtain ⟨rfl, hV69, hF70, hE71⟩ := hp68
            replace hb19 := hb19.trans (pf_call_eq hE71)
            change pm_J X 83 [(5, (0, (y30 - 10000))), (4, (0, y30)), (0, (3, 63)), (1, (0, a1)), (2, (3, 83)), (3, (0, x11))] [] 118 V67
            have hF72 := pm_ff.tr hF15 hF70 (by decide) (by decide)
            have e73 : V67 63 2 = 65 := by rw [hF70 63 2 (by decide) (by decide)]; exact e16
            have e74 : V67 63 3 = 66 := by rw [hF70 63 3 (by decide) (by decide)]; exact e24
            have e75 : V67 63 4 = 67 := by rw [hF70 63 4 (by decide) (by decide)]; exact e29
            refine pm_goto (tgt := 101) hC dX2_holds_83 (by decide) ?_
            obtain ⟨x76, ei77⟩ : ∃ y : Int, x11 + 1 = y := ⟨_, rfl⟩
            replace hb19 := hb19.trans (pf_let_eq ei77)
            refine pm_iinc (y := x76) (lv' := [(3, (0, x76)), (5, (0, (y30 - 10000))), (4, (0, y30)), (0, (3, 63)), (1, (0, a1)), (2, (3, 83))]) hC 5 dX2_holds_101 (by decide) rfl ei77 rfl ?_
            refine pm_goto (tgt := 12) hC dX2_holds_104 (by decide) ?_
            refine pm_lvsub [3, 4, 5, 0] (lv' := [(0, (3, 63)), (1, (0, a1)), (2, (3, 83)), (3, (0, x76))]) rfl ?_
            exact ih23 _ (by exact ow_79j_50 hm21 b27 c28 ei77) x76 V67 ⟨by exact ow_79j_51 b12 ei77, by exact ow_79j_52 b27 c28 ei77⟩ hV69 hF72 e73 (hT.trans (pf_val_inl hb19)) rfl
      · skip
        replace hb19 := hb19.trans (if_neg (Int.not_le.mpr c33))
        refine pm_aload_n hC 1 (by decide) dX2_holds_38 rfl ?_
        refine pm_iload hC 0 dX2_holds_39 rfl ?_
        refine pm_i2l hC ⟨by exact ow_79j_43 b32, by exact ow_79j_58 c33⟩ dX2_holds_41 ?_
        refine pm_callV (ci := 2) (as := [(1, y30)]) (st := []) hC 63 (fD_X2_push_63 y30 ⟨by exact ow_79j_59 b32, by exact ow_79j_60 c33⟩) lm_X2_38 li_X2_push (by decide) (by decide) rfl rfl rfl (by decide) rfl rfl (Nat.le_of_ble_eq_true rfl) ⟨Nat.le_refl _, Or.inl rfl⟩ dX2_holds_42 ⟨rfl, hV14⟩ (fun r78 V79 hp80 => ?_)
        obtain ⟨rfl, hV81, hF82, hE83⟩ := hp80
        replace hb19 := hb19.trans (pf_call_eq hE83)
        change pm_J X 45 [(4, (0, y30)), (0, (3, 63)), (1, (0, a1)), (2, (3, 83)), (3, (0, x11))] [] 118 V79
        have hF84 := pm_ff.tr hF15 hF82 (by decide) (by decide)
        have e85 : V79 63 2 = 65 := by rw [hF82 63 2 (by decide) (by decide)]; exact e16
        have e86 : V79 63 3 = 66 := by rw [hF82 63 3 (by decide) (by decide)]; exact e24
        have e87 : V79 63 4 = 67 := by rw [hF82 63 4 (by decide) (by decide)]; exact e29
        refine pm_goto (tgt := 101) hC dX2_holds_45 (by decide) ?_
        obtain ⟨x88, ei89⟩ : ∃ y : Int, x11 + 1 = y := ⟨_, rfl⟩
        replace hb19 := hb19.trans (pf_let_eq ei89)
        refine pm_iinc (y := x88) (lv' := [(3, (0, x88)), (4, (0, y30)), (0, (3, 63)), (1, (0, a1)), (2, (3, 83))]) hC 4 dX2_holds_101 (by decide) rfl ei89 rfl ?_
        refine pm_goto (tgt := 12) hC dX2_holds_104 (by decide) ?_
        refine pm_lvsub [2, 3, 4, 0] (lv' := [(0, (3, 63)), (1, (0, a1)), (2, (3, 83)), (3, (0, x88))]) rfl ?_
        exact ih23 _ (by exact ow_79j_50 hm21 b27 c28 ei89) x88 V79 ⟨by exact ow_79j_51 b12 ei89, by exact ow_79j_52 b27 c28 ei89⟩ hV81 hF84 e85 (hT.trans (pf_val_inl hb19)) rfl
  refine pm_lvsub [1, 2, 3, 0] (lv' := [(0, (3, 63)), (1, (0, a1)), (2, (3, 83)), (3, (0, y2))]) rfl ?_
  exact L20 _ y2 V5 ⟨by exact ow_79j_41 b4, by exact ow_79j_61 b4⟩ hV7 hF8 e9 hT rfl
set_option maxHeartbeats 4000000 in
set_option maxRecDepth 100000 in
theorem fD_X11_called_0 (a1 a2 a3 a4 : Int) (h0 : (-2147483648) ≤ a1 ∧ a1 ≤ 2147483647) (h1 : (-2147483648) ≤ a2 ∧ a2 ≤ 2147483647) (h2 : (-2147483648) ≤ a3 ∧ a3 ≤ 2147483647) (h3 : (-2147483648) ≤ a4 ∧ a4 ≤ 2147483647) : pm_K 6 yX11_called cX11_called 6 (some .int) (fun av V => av = [(3, 0), (0, a1), (0, a2), (0, a3), (0, a4)] ∧ pm_ok 0 90 V) (fun _ V r V' => ∃ y, r = some (0, y) ∧ ((-1) ≤ y ∧ y ≤ 9) ∧ pm_ok 0 90 V' ∧ pm_ff [62, 68, 74, 75, 76, 77, 83] [(57, 7), (63, 7), (73, 0), (73, 1), (73, 2), (73, 3), (73, 4), (73, 5), (73, 6), (73, 7), (73, 10), (73, 11), (73, 12), (73, 14)] V V' ∧ F_X11_called a1 a2 a3 a4 V = (y, V')) := by
  refine pm_MT.of (by decide) ⟨Nat.le_refl _, by decide⟩ (fun av V h => by rw [h.1]; exact (by decide : pm_words [(3, 0), (0, 0), (0, 0), (0, 0), (0, 0)] ≤ 6)) ?_
  rintro X av V0 hC - hR ⟨rfl, hV0⟩
  change pm_J X 0 [(0, (3, 0)), (1, (0, a1)), (2, (0, a2)), (3, (0, a3)), (4, (0, a4))] [] 118 V0
  have hT := F_X11_called_eq a1 a2 a3 a4 V0
  refine pm_iload hC 4 dX11_called_0 rfl ?_
  refine pm_if_eq (tgt := 11) hC ⟨by exact ow_79j_0 h3, by exact ow_79j_1 h3⟩ dX11_called_2 (by decide) (fun c1 => ?_) (fun c1 => ?_)
  · skip
    replace hT := hT.trans (if_pos c1)
    refine pm_aload_n hC 0 (by decide) dX11_called_11 rfl ?_
    refine pm_iload_n hC 1 dX11_called_12 rfl ?_
    refine pm_iload_n hC 2 dX11_called_13 rfl ?_
    refine pm_iload_n hC 3 dX11_called_14 rfl ?_
    refine pm_callV (ci := 11) (as := [(0, a1), (0, a2), (0, a3)]) (st := []) hC 0 (fD_X11_isTrial_0 a1 a2 a3 ⟨by exact ow_79j_0 h0, by exact ow_79j_1 h0⟩ ⟨by exact ow_79j_0 h1, by exact ow_79j_1 h1⟩ ⟨by exact ow_79j_0 h2, by exact ow_79j_1 h2⟩) lm_X11_225 li_X11_isTrial (by decide) (by decide) rfl rfl rfl (by decide) rfl rfl (Nat.le_of_ble_eq_true rfl) ⟨Nat.le_refl _, Or.inl rfl⟩ dX11_called_15 ⟨rfl, hV0⟩ (fun r2 V3 hp4 => ?_)
    obtain ⟨y5, rfl, b6, rfl, hE7⟩ := hp4
    replace hT := hT.trans (pf_call_eq hE7)
    change pm_J X 18 [(0, (3, 0)), (1, (0, a1)), (2, (0, a2)), (3, (0, a3)), (4, (0, a4))] [(0, y5)] 118 V0
    refine pm_if_ne (tgt := 23) hC ⟨by exact ow_79j_74 b6, by exact ow_79j_75 b6⟩ dX11_called_18 (by decide) (fun c8 => ?_) (fun c8 => ?_)
    · skip
      replace hT := hT.trans (if_pos c8)
      refine pm_aload_n hC 0 (by decide) dX11_called_23 rfl ?_
      refine pm_iload_n hC 1 dX11_called_24 rfl ?_
      refine pm_iload_n hC 2 dX11_called_25 rfl ?_
      refine pm_iload_n hC 3 dX11_called_26 rfl ?_
      refine pm_callV (ci := 11) (as := [(0, a1), (0, a2), (0, a3)]) (st := []) hC 0 (fD_X11_pose_0 a1 a2 a3 ⟨by exact ow_79j_76 b6 c8, by exact ow_79j_77 b6 c8⟩ ⟨by exact ow_79j_78 b6 c8, by exact ow_79j_79 b6 c8⟩ ⟨by exact ow_79j_80 b6 c8, by exact ow_79j_81 b6 c8⟩ (by exact ow_79j_82 b6 c8)) lm_X11_229 li_X11_pose (by decide) (by decide) rfl rfl rfl (by decide) rfl rfl (Nat.le_of_ble_eq_true rfl) ⟨Nat.le_refl _, Or.inl rfl⟩ dX11_called_27 ⟨rfl, hV0⟩ (fun r9 V10 hp11 => ?_)
      obtain ⟨rfl, hV12, hF13, hE14⟩ := hp11
      replace hT := hT.trans (pf_call_eq hE14)
      change pm_J X 30 [(0, (3, 0)), (1, (0, a1)), (2, (0, a2)), (3, (0, a3)), (4, (0, a4))] [] 118 V10
      have hF15 := pm_ff.tr (pm_ff.rf (cs := [62, 68, 74, 75, 76, 77, 83]) (fs := [(57, 7), (63, 7), (73, 0), (73, 1), (73, 2), (73, 3), (73, 4), (73, 5), (73, 6), (73, 7), (73, 10), (73, 11), (73, 12), (73, 14)]) (V := V0)) hF13 (by decide) (by decide)
      refine pm_aload_n hC 0 (by decide) dX11_called_30 rfl ?_
      refine pm_iload_n hC 3 dX11_called_31 rfl ?_
      refine pm_callV (ci := 11) (as := [(0, a3)]) (st := []) hC 0 (fD_X11_fillAtoms_0 a3 ⟨by exact ow_79j_80 b6 c8, by exact ow_79j_81 b6 c8⟩) lm_X11_321 li_X11_fillAtoms (by decide) (by decide) rfl rfl rfl (by decide) rfl rfl (Nat.le_of_ble_eq_true rfl) ⟨Nat.le_refl _, Or.inl rfl⟩ dX11_called_32 ⟨rfl, hV12⟩ (fun r16 V17 hp18 => ?_)
      obtain ⟨rfl, hV19, hF20, hE21⟩ := hp18
      replace hT := hT.trans (pf_call_eq hE21)
      change pm_J X 35 [(0, (3, 0)), (1, (0, a1)), (2, (0, a2)), (3, (0, a3)), (4, (0, a4))] [] 118 V17
      have hF22 := pm_ff.tr hF15 hF20 (by decide) (by decide)
      refine pm_iconst (v := 0) hC dX11_called_35 ?_
      refine pm_istore (lv' := [(5, (0, 0)), (0, (3, 0)), (1, (0, a1)), (2, (0, a2)), (3, (0, a3)), (4, (0, a4))]) hC dX11_called_36 (by decide) rfl ?_
      obtain ⟨B28, hB29, hT⟩ := pf_loop hT
      have L31 : ∀ (N33 : Nat) (x23 : Int) (V25 : pm_M), (0 ≤ x23 ∧ x23 ≤ 16) → pm_ok 0 90 V25 → pm_ff [62, 68, 74, 75, 76, 77, 83] [(57, 7), (63, 7), (73, 0), (73, 1), (73, 2), (73, 3), (73, 4), (73, 5), (73, 6), (73, 7), (73, 10), (73, 11), (73, 12), (73, 14)] V0 V25 → F_X11_called a1 a2 a3 a4 V0 = pf_val ((0 : Int), V0) B28 (x23, V25) → (Int.toNat (16 - x23)) = N33 → pm_J X 38 [(0, (3, 0)), (1, (0, a1)), (2, (0, a2)), (3, (0, a3)), (4, (0, a4)), (5, (0, x23))] [] 118 V25 := by
        intro N33
        induction N33 using Nat.strongRecOn with
        | _ N33 ih34 =>
        intro x23 V25 b24 hV26 hF27 hT hm32
        have hb30 := congrFun hB29 (x23, V25)
        refine pm_iload hC 5 dX11_called_38 rfl ?_
        refine pm_aload_n hC 0 (by decide) dX11_called_40 rfl ?_
        rcases hV26.get2 0 10 (lo := 57) (hi := 63) (by decide) (by decide) rfl with e35 | e35
        · skip
          replace hb30 := hb30.trans (if_pos e35)
          refine pm_getf (v := 57) hC 0 fl_X11_45 rfl rfl (by decide) rfl e35 dX11_called_41 ?_
          obtain ⟨y36, e37⟩ : ∃ y, V25 57 0 = y := ⟨_, rfl⟩
          have b38 := hV26.get 57 0 (lo := 0) (hi := 10) (by decide) (by decide) rfl
          rw [e37] at b38
          replace hb30 := hb30.trans (pf_let_eq e37)
          refine pm_getf (v := y36) hC 57 fl_X11_139 rfl rfl (by decide) rfl e37 dX11_called_44 ?_
          refine pm_icmp_ge (tgt := 93) hC ⟨by exact ow_79j_83 b24, by exact ow_79j_84 b24⟩ ⟨by exact ow_79j_85 b38, by exact ow_79j_86 b38⟩ dX11_called_47 (by decide) (fun c39 => ?_) (fun c39 => ?_)
          · skip
            replace hb30 := hb30.trans (if_pos c39)
            refine pm_iconst (v := (-1)) hC dX11_called_93 ?_
            replace hT := hT.trans (pf_val_inr hb30)
            exact pm_iret hC hR pm_nar0 ⟨(-1), rfl, ⟨by exact ow_79j_87, by exact ow_79j_88⟩, hV26, hF27, hT⟩ dX11_called_94
          · skip
            replace hb30 := hb30.trans (if_neg (Int.not_le.mpr c39))
            refine pm_aload_n hC 0 (by decide) dX11_called_50 rfl ?_
            refine pm_getf (v := 57) hC 0 fl_X11_45 rfl rfl (by decide) rfl e35 dX11_called_51 ?_
            refine pm_iload hC 5 dX11_called_54 rfl ?_
            refine pm_aload_n hC 0 (by decide) dX11_called_56 rfl ?_
            have e40 : V25 0 7 = 83 := hV26.one 0 7 (by decide) (by decide) rfl
            refine pm_getf (v := 83) hC 0 fl_X11_86 rfl rfl (by decide) rfl e40 dX11_called_57 ?_
            refine pm_callV (ci := 2) (as := [(0, x23), (3, 83)]) (st := []) hC 57 (fD_X2_holds_57_83 x23 ⟨by exact ow_79j_89 b24, by exact ow_79j_90 b38 c39⟩) lm_X11_324 li_X2_holds (by decide) (by decide) rfl rfl rfl (by decide) rfl rfl (Nat.le_of_ble_eq_true rfl) ⟨Nat.le_refl _, Or.inl rfl⟩ dX11_called_60 ⟨rfl, hV26⟩ (fun r41 V42 hp43 => ?_)
            obtain ⟨y44, rfl, b45, hV46, hF47, hE48⟩ := hp43
            replace hb30 := hb30.trans (pf_call_eq hE48)
            change pm_J X 63 [(0, (3, 0)), (1, (0, a1)), (2, (0, a2)), (3, (0, a3)), (4, (0, a4)), (5, (0, x23))] [(0, y44)] 118 V42
            have hF49 := pm_ff.tr hF27 hF47 (by decide) (by decide)
            have e50 : V42 0 10 = 57 := by rw [hF47 0 10 (by decide) (by decide)]; exact e35
            have e51 : V42 57 0 = y36 := by rw [hF47 57 0 (by decide) (by decide)]; exact e37
            have e52 : V42 0 7 = 83 := by rw [hF47 0 7 (by decide) (by decide)]; exact e40
            refine pm_if_eq (tgt := 87) hC ⟨by exact ow_79j_48 b45, by exact ow_79j_49 b45⟩ dX11_called_63 (by decide) (fun c53 => ?_) (fun c53 => ?_)
            · skip
              replace hb30 := hb30.trans (if_pos c53)
              obtain ⟨x54, ei55⟩ : ∃ y : Int, x23 + 1 = y := ⟨_, rfl⟩
              replace hb30 := hb30.trans (pf_let_eq ei55)
              refine pm_iinc (y := x54) (lv' := [(5, (0, x54)), (0, (3, 0)), (1, (0, a1)), (2, (0, a2)), (3, (0, a3)), (4, (0, a4))]) hC 5 dX11_called_87 (by decide) rfl ei55 rfl ?_
              refine pm_goto (tgt := 38) hC dX11_called_90 (by decide) ?_
              refine pm_lvsub [1, 2, 3, 4, 5, 0] (lv' := [(0, (3, 0)), (1, (0, a1)), (2, (0, a2)), (3, (0, a3)), (4, (0, a4)), (5, (0, x54))]) rfl ?_
              exact ih34 _ (by exact ow_79j_91 hm32 b38 c39 ei55) x54 V42 ⟨by exact ow_79j_92 b24 ei55, by exact ow_79j_93 b38 c39 ei55⟩ hV46 hF49 (hT.trans (pf_val_inl hb30)) rfl
            · skip
              replace hb30 := hb30.trans (if_neg c53)
              refine pm_iload hC 4 dX11_called_66 rfl ?_
              refine pm_if_ne (tgt := 84) hC ⟨by exact ow_79j_94 c1, by exact ow_79j_95 c1⟩ dX11_called_68 (by decide) (fun c56 => ?_) (fun c56 => ?_)
              · skip
                replace hb30 := hb30.trans (if_pos c56)
                exfalso; exact ow_79j_96 c1 c56
              · skip
                replace hb30 := hb30.trans (if_neg (fun q => q c56))
                refine pm_aload_n hC 0 (by decide) dX11_called_71 rfl ?_
                refine pm_getf (v := 57) hC 0 fl_X11_45 rfl rfl (by decide) rfl e50 dX11_called_72 ?_
                have e57 : V42 57 1 = 58 := hV46.one 57 1 (by decide) (by decide) rfl
                refine pm_getf (v := 58) hC 57 fl_X11_328 rfl rfl (by decide) rfl e57 dX11_called_75 ?_
                refine pm_iload hC 5 dX11_called_78 rfl ?_
                obtain ⟨y58, e59⟩ : ∃ y, V42 58 (x23 : Int).toNat = y := ⟨_, rfl⟩
                replace hb30 := hb30.trans (pf_let_eq e59)
                have b60 := hV46.get 58 (x23 : Int).toNat (lo := 0) (hi := 3) (by decide) (show _ < 10 by exact ow_79j_97 b38 c39) rfl
                rw [e59] at b60
                refine pm_iaload (len := 10) (v := y58) hC 58 rfl rfl (by decide) ⟨by exact ow_79j_89 b24, by exact ow_79j_98 b38 c39⟩ (by decide) e59 dX11_called_80 ?_
                refine pm_goto (tgt := 86) hC dX11_called_81 (by decide) ?_
                replace hT := hT.trans (pf_val_inr hb30)
                exact pm_iret hC hR pm_nar0 ⟨y58, rfl, ⟨by exact ow_79j_99 b60, by exact ow_79j_100 b60⟩, hV46, hF49, hT⟩ dX11_called_86
        · skip
          replace hb30 := hb30.trans (if_neg (by rw [e35]; decide))
          refine pm_getf (v := 63) hC 0 fl_X11_45 rfl rfl (by decide) rfl e35 dX11_called_41 ?_
          obtain ⟨y61, e62⟩ : ∃ y, V25 63 0 = y := ⟨_, rfl⟩
          have b63 := hV26.get 63 0 (lo := 0) (hi := 10) (by decide) (by decide) rfl
          rw [e62] at b63
          replace hb30 := hb30.trans (pf_let_eq e62)
          refine pm_getf (v := y61) hC 63 fl_X11_139 rfl rfl (by decide) rfl e62 dX11_called_44 ?_
          refine pm_icmp_ge (tgt := 93) hC ⟨by exact ow_79j_83 b24, by exact ow_79j_84 b24⟩ ⟨by exact ow_79j_85 b63, by exact ow_79j_86 b63⟩ dX11_called_47 (by decide) (fun c64 => ?_) (fun c64 => ?_)
          · skip
            replace hb30 := hb30.trans (if_pos c64)
            refine pm_iconst (v := (-1)) hC dX11_called_93 ?_
            replace hT := hT.trans (pf_val_inr hb30)
            exact pm_iret hC hR pm_nar0 ⟨(-1), rfl, ⟨by exact ow_79j_87, by exact ow_79j_88⟩, hV26, hF27, hT⟩ dX11_called_94
          · skip
            replace hb30 := hb30.trans (if_neg (Int.not_le.mpr c64))
            refine pm_aload_n hC 0 (by decide) dX11_called_50 rfl ?_
            refine pm_getf (v := 63) hC 0 fl_X11_45 rfl rfl (by decide) rfl e35 dX11_called_51 ?_
            refine pm_iload hC 5 dX11_called_54 rfl ?_
            refine pm_aload_n hC 0 (by decide) dX11_called_56 rfl ?_
            have e65 : V25 0 7 = 83 := hV26.one 0 7 (by decide) (by decide) rfl
            refine pm_getf (v := 83) hC 0 fl_X11_86 rfl rfl (by decide) rfl e65 dX11_called_57 ?_
            refine pm_callV (ci := 2) (as := [(0, x23), (3, 83)]) (st := []) hC 63 (fD_X2_holds_63_83 x23 ⟨by exact ow_79j_89 b24, by exact ow_79j_90 b63 c64⟩) lm_X11_324 li_X2_holds (by decide) (by decide) rfl rfl rfl (by decide) rfl rfl (Nat.le_of_ble_eq_true rfl) ⟨Nat.le_refl _, Or.inl rfl⟩ dX11_called_60 ⟨rfl, hV26⟩ (fun r66 V67 hp68 => ?_)
            obtain ⟨y69, rfl, b70, hV71, hF72, hE73⟩ := hp68
            replace hb30 := hb30.trans (pf_call_eq hE73)
            change pm_J X 63 [(0, (3, 0)), (1, (0, a1)), (2, (0, a2)), (3, (0, a3)), (4, (0, a4)), (5, (0, x23))] [(0, y69)] 118 V67
            have hF74 := pm_ff.tr hF27 hF72 (by decide) (by decide)
            have e75 : V67 0 10 = 63 := by rw [hF72 0 10 (by decide) (by decide)]; exact e35
            have e76 : V67 63 0 = y61 := by rw [hF72 63 0 (by decide) (by decide)]; exact e62
            have e77 : V67 0 7 = 83 := by rw [hF72 0 7 (by decide) (by decide)]; exact e65
            refine pm_if_eq (tgt := 87) hC ⟨by exact ow_79j_48 b70, by exact ow_79j_49 b70⟩ dX11_called_63 (by decide) (fun c78 => ?_) (fun c78 => ?_)
            · skip
              replace hb30 := hb30.trans (if_pos c78)
              obtain ⟨x79, ei80⟩ : ∃ y : Int, x23 + 1 = y := ⟨_, rfl⟩
              replace hb30 := hb30.trans (pf_let_eq ei80)
              refine pm_iinc (y := x79) (lv' := [(5, (0, x79)), (0, (3, 0)), (1, (0, a1)), (2, (0, a2)), (3, (0, a3)), (4, (0, a4))]) hC 5 dX11_called_87 (by decide) rfl ei80 rfl ?_
              refine pm_goto (tgt := 38) hC dX11_called_90 (by decide) ?_
              refine pm_lvsub [1, 2, 3, 4, 5, 0] (lv' := [(0, (3, 0)), (1, (0, a1)), (2, (0, a2)), (3, (0, a3)), (4, (0, a4)), (5, (0, x79))]) rfl ?_
              exact ih34 _ (by exact ow_79j_91 hm32 b63 c64 ei80) x79 V67 ⟨by exact ow_79j_92 b24 ei80, by exact ow_79j_93 b63 c64 ei80⟩ hV71 hF74 (hT.trans (pf_val_inl hb30)) rfl
            · skip
              replace hb30 := hb30.trans (if_neg c78)
              refine pm_iload hC 4 dX11_called_66 rfl ?_
              refine pm_if_ne (tgt := 84) hC ⟨by exact ow_79j_94 c1, by exact ow_79j_95 c1⟩ dX11_called_68 (by decide) (fun c81 => ?_) (fun c81 => ?_)
              · skip
                replace hb30 := hb30.trans (if_pos c81)
                exfalso; exact ow_79j_96 c1 c81
              · skip
                replace hb30 := hb30.trans (if_neg (fun q => q c81))
                refine pm_aload_n hC 0 (by decide) dX11_called_71 rfl ?_
                refine pm_getf (v := 63) hC 0 fl_X11_45 rfl rfl (by decide) rfl e75 dX11_called_72 ?_
                have e82 : V67 63 1 = 64 := hV71.one 63 1 (by decide) (by decide) rfl
                refine pm_getf (v := 64) hC 63 fl_X11_328 rfl rfl (by decide) rfl e82 dX11_called_75 ?_
                refine pm_iload hC 5 dX11_called_78 rfl ?_
                obtain ⟨y83, e84⟩ : ∃ y, V67 64 (x23 : Int).toNat = y := ⟨_, rfl⟩
                replace hb30 := hb30.trans (pf_let_eq e84)
                have b85 := hV71.get 64 (x23 : Int).toNat (lo := 0) (hi := 3) (by decide) (show _ < 10 by exact ow_79j_97 b63 c64) rfl
                rw [e84] at b85
                refine pm_iaload (len := 10) (v := y83) hC 64 rfl rfl (by decide) ⟨by exact ow_79j_89 b24, by exact ow_79j_98 b63 c64⟩ (by decide) e84 dX11_called_80 ?_
                refine pm_goto (tgt := 86) hC dX11_called_81 (by decide) ?_
                replace hT := hT.trans (pf_val_inr hb30)
                exact pm_iret hC hR pm_nar0 ⟨y83, rfl, ⟨by exact ow_79j_99 b85, by exact ow_79j_100 b85⟩, hV71, hF74, hT⟩ dX11_called_86
      refine pm_lvsub [1, 2, 3, 4, 5, 0] (lv' := [(0, (3, 0)), (1, (0, a1)), (2, (0, a2)), (3, (0, a3)), (4, (0, a4)), (5, (0, 0))]) rfl ?_
      exact L31 _ 0 V17 ⟨by decide, by decide⟩ hV19 hF22 hT rfl
    · skip
      replace hT := hT.trans (if_neg (fun q => q c8))
      refine pm_iconst (v := (-1)) hC dX11_called_21 ?_
      exact pm_iret hC hR pm_nar0 ⟨(-1), rfl, ⟨by exact ow_79j_87, by exact ow_79j_88⟩, hV0, (pm_ff.rf (cs := [62, 68, 74, 75, 76, 77, 83]) (fs := [(57, 7), (63, 7), (73, 0), (73, 1), (73, 2), (73, 3), (73, 4), (73, 5), (73, 6), (73, 7), (73, 10), (73, 11), (73, 12), (73, 14)]) (V := V0)), hT⟩ dX11_called_22
  · skip
    replace hT := hT.trans (if_neg c1)
    refine pm_iload hC 4 dX11_called_5 rfl ?_
    refine pm_iconst (v := 1) hC dX11_called_7 ?_
    refine pm_icmp_ne (tgt := 21) hC ⟨by exact ow_79j_0 h3, by exact ow_79j_1 h3⟩ ⟨by decide, by decide⟩ dX11_called_8 (by decide) (fun c86 => ?_) (fun c86 => ?_)
    · skip
      replace hT := hT.trans (if_pos c86)
      refine pm_iconst (v := (-1)) hC dX11_called_21 ?_
      exact pm_iret hC hR pm_nar0 ⟨(-1), rfl, ⟨by exact ow_79j_87, by exact ow_79j_88⟩, hV0, (pm_ff.rf (cs := [62, 68, 74, 75, 76, 77, 83]) (fs := [(57, 7), (63, 7), (73, 0), (73, 1), (73, 2), (73, 3), (73, 4), (73, 5), (73, 6), (73, 7), (73, 10), (73, 11), (73, 12), (73, 14)]) (V := V0)), hT⟩ dX11_called_22
    · skip
      replace hT := hT.trans (if_neg (fun q => q c86))
      refine pm_aload_n hC 0 (by decide) dX11_called_11 rfl ?_
      refine pm_iload_n hC 1 dX11_called_12 rfl ?_
      refine pm_iload_n hC 2 dX11_called_13 rfl ?_
      refine pm_iload_n hC 3 dX11_called_14 rfl ?_
      refine pm_callV (ci := 11) (as := [(0, a1), (0, a2), (0, a3)]) (st := []) hC 0 (fD_X11_isTrial_0 a1 a2 a3 ⟨by exact ow_79j_0 h0, by exact ow_79j_1 h0⟩ ⟨by exact ow_79j_0 h1, by exact ow_79j_1 h1⟩ ⟨by exact ow_79j_0 h2, by exact ow_79j_1 h2⟩) lm_X11_225 li_X11_isTrial (by decide) (by decide) rfl rfl rfl (by decide) rfl rfl (Nat.le_of_ble_eq_true rfl) ⟨Nat.le_refl _, Or.inl rfl⟩ dX11_called_15 ⟨rfl, hV0⟩ (fun r87 V88 hp89 => ?_)
      obtain ⟨y90, rfl, b91, rfl, hE92⟩ := hp89
      replace hT := hT.trans (pf_call_eq hE92)
      change pm_J X 18 [(0, (3, 0)), (1, (0, a1)), (2, (0, a2)), (3, (0, a3)), (4, (0, a4))] [(0, y90)] 118 V0
      refine pm_if_ne (tgt := 23) hC ⟨by exact ow_79j_74 b91, by exact ow_79j_75 b91⟩ dX11_called_18 (by decide) (fun c93 => ?_) (fun c93 => ?_)
      · skip
        replace hT := hT.trans (if_pos c93)
        refine pm_aload_n hC 0 (by decide) dX11_called_23 rfl ?_
        refine pm_iload_n hC 1 dX11_called_24 rfl ?_
        refine pm_iload_n hC 2 dX11_called_25 rfl ?_
        refine pm_iload_n hC 3 dX11_called_26 rfl ?_
        refine pm_callV (ci := 11) (as := [(0, a1), (0, a2), (0, a3)]) (st := []) hC 0 (fD_X11_pose_0 a1 a2 a3 ⟨by exact ow_79j_76 b91 c93, by exact ow_79j_77 b91 c93⟩ ⟨by exact ow_79j_78 b91 c93, by exact ow_79j_79 b91 c93⟩ ⟨by exact ow_79j_80 b91 c93, by exact ow_79j_81 b91 c93⟩ (by exact ow_79j_82 b91 c93)) lm_X11_229 li_X11_pose (by decide) (by decide) rfl rfl rfl (by decide) rfl rfl (Nat.le_of_ble_eq_true rfl) ⟨Nat.le_refl _, Or.inl rfl⟩ dX11_called_27 ⟨rfl, hV0⟩ (fun r94 V95 hp96 => ?_)
        obtain ⟨rfl, hV97, hF98, hE99⟩ := hp96
        replace hT := hT.trans (pf_call_eq hE99)
        change pm_J X 30 [(0, (3, 0)), (1, (0, a1)), (2, (0, a2)), (3, (0, a3)), (4, (0, a4))] [] 118 V95
        have hF100 := pm_ff.tr (pm_ff.rf (cs := [62, 68, 74, 75, 76, 77, 83]) (fs := [(57, 7), (63, 7), (73, 0), (73, 1), (73, 2), (73, 3), (73, 4), (73, 5), (73, 6), (73, 7), (73, 10), (73, 11), (73, 12), (73, 14)]) (V := V0)) hF98 (by decide) (by decide)
        refine pm_aload_n hC 0 (by decide) dX11_called_30 rfl ?_
        refine pm_iload_n hC 3 dX11_called_31 rfl ?_
        refine pm_callV (ci := 11) (as := [(0, a3)]) (st := []) hC 0 (fD_X11_fillAtoms_0 a3 ⟨by exact ow_79j_80 b91 c93, by exact ow_79j_81 b91 c93⟩) lm_X11_321 li_X11_fillAtoms (by decide) (by decide) rfl rfl rfl (by decide) rfl rfl (Nat.le_of_ble_eq_true rfl) ⟨Nat.le_refl _, Or.inl rfl⟩ dX11_called_32 ⟨rfl, hV97⟩ (fun r101 V102 hp103 => ?_)
        obtain ⟨rfl, hV104, hF105, hE106⟩ := hp103
        replace hT := hT.trans (pf_call_eq hE106)
        change pm_J X 35 [(0, (3, 0)), (1, (0, a1)), (2, (0, a2)), (3, (0, a3)), (4, (0, a4))] [] 118 V102
        have hF107 := pm_ff.tr hF100 hF105 (by decide) (by decide)
        refine pm_iconst (v := 0) hC dX11_called_35 ?_
        refine pm_istore (lv' := [(5, (0, 0)), (0, (3, 0)), (1, (0, a1)), (2, (0, a2)), (3, (0, a3)), (4, (0, a4))]) hC dX11_called_36 (by decide) rfl ?_
        obtain ⟨B113, hB114, hT⟩ := pf_loop hT
        have L116 : ∀ (N118 : Nat) (x108 : Int) (V110 : pm_M), (0 ≤ x108 ∧ x108 ≤ 16) → pm_ok 0 90 V110 → pm_ff [62, 68, 74, 75, 76, 77, 83] [(57, 7), (63, 7), (73, 0), (73, 1), (73, 2), (73, 3), (73, 4), (73, 5), (73, 6), (73, 7), (73, 10), (73, 11), (73, 12), (73, 14)] V0 V110 → F_X11_called a1 a2 a3 a4 V0 = pf_val ((0 : Int), V0) B113 (x108, V110) → (Int.toNat (16 - x108)) = N118 → pm_J X 38 [(0, (3, 0)), (1, (0, a1)), (2, (0, a2)), (3, (0, a3)), (4, (0, a4)), (5, (0, x108))] [] 118 V110 := by
          intro N118
          induction N118 using Nat.strongRecOn with
          | _ N118 ih119 =>
          intro x108 V110 b109 hV111 hF112 hT hm117
          have hb115 := congrFun hB114 (x108, V110)
          refine pm_iload hC 5 dX11_called_38 rfl ?_
          refine pm_aload_n hC 0 (by decide) dX11_called_40 rfl ?_
          rcases hV111.get2 0 10 (lo := 57) (hi := 63) (by decide) (by decide) rfl with e120 | e120
          · skip
            replace hb115 := hb115.trans (if_pos e120)
            refine pm_getf (v := 57) hC 0 fl_X11_45 rfl rfl (by decide) rfl e120 dX11_called_41 ?_
            obtain ⟨y121, e122⟩ : ∃ y, V110 57 0 = y := ⟨_, rfl⟩
            have b123 := hV111.get 57 0 (lo := 0) (hi := 10) (by decide) (by decide) rfl
            rw [e122] at b123
            replace hb115 := hb115.trans (pf_let_eq e122)
            refine pm_getf (v := y121) hC 57 fl_X11_139 rfl rfl (by decide) rfl e122 dX11_called_44 ?_
            refine pm_icmp_ge (tgt := 93) hC ⟨by exact ow_79j_83 b109, by exact ow_79j_84 b109⟩ ⟨by exact ow_79j_85 b123, by exact ow_79j_86 b123⟩ dX11_called_47 (by decide) (fun c124 => ?_) (fun c124 => ?_)
            · skip
              replace hb115 := hb115.trans (if_pos c124)
              refine pm_iconst (v := (-1)) hC dX11_called_93 ?_
              replace hT := hT.trans (pf_val_inr hb115)
              exact pm_iret hC hR pm_nar0 ⟨(-1), rfl, ⟨by exact ow_79j_87, by exact ow_79j_88⟩, hV111, hF112, hT⟩ dX11_called_94
            · skip
              replace hb115 := hb115.trans (if_neg (Int.not_le.mpr c124))
              refine pm_aload_n hC 0 (by decide) dX11_called_50 rfl ?_
              refine pm_getf (v := 57) hC 0 fl_X11_45 rfl rfl (by decide) rfl e120 dX11_called_51 ?_
              refine pm_iload hC 5 dX11_called_54 rfl ?_
              refine pm_aload_n hC 0 (by decide) dX11_called_56 rfl ?_
              have e125 : V110 0 7 = 83 := hV111.one 0 7 (by decide) (by decide) rfl
              refine pm_getf (v := 83) hC 0 fl_X11_86 rfl rfl (by decide) rfl e125 dX11_called_57 ?_
              refine pm_callV (ci := 2) (as := [(0, x108), (3, 83)]) (st := []) hC 57 (fD_X2_holds_57_83 x108 ⟨by exact ow_79j_89 b109, by exact ow_79j_90 b123 c124⟩) lm_X11_324 li_X2_holds (by decide) (by decide) rfl rfl rfl (by decide) rfl rfl (Nat.le_of_ble_eq_true rfl) ⟨Nat.le_refl _, Or.inl rfl⟩ dX11_called_60 ⟨rfl, hV111⟩ (fun r126 V127 hp128 => ?_)
              obtain ⟨y129, rfl, b130, hV131, hF132, hE133⟩ := hp128
              replace hb115 := hb115.trans (pf_call_eq hE133)
              change pm_J X 63 [(0, (3, 0)), (1, (0, a1)), (2, (0, a2)), (3, (0, a3)), (4, (0, a4)), (5, (0, x108))] [(0, y129)] 118 V127
              have hF134 := pm_ff.tr hF112 hF132 (by decide) (by decide)
              have e135 : V127 0 10 = 57 := by rw [hF132 0 10 (by decide) (by decide)]; exact e120
              have e136 : V127 57 0 = y121 := by rw [hF132 57 0 (by decide) (by decide)]; exact e122
              have e137 : V127 0 7 = 83 := by rw [hF132 0 7 (by decide) (by decide)]; exact e125
              refine pm_if_eq (tgt := 87) hC ⟨by exact ow_79j_48 b130, by exact ow_79j_49 b130⟩ dX11_called_63 (by decide) (fun c138 => ?_) (fun c138 => ?_)
              · skip
                replace hb115 := hb115.trans (if_pos c138)
                obtain ⟨x139, ei140⟩ : ∃ y : Int, x108 + 1 = y := ⟨_, rfl⟩
                replace hb115 := hb115.trans (pf_let_eq ei140)
                refine pm_iinc (y := x139) (lv' := [(5, (0, x139)), (0, (3, 0)), (1, (0, a1)), (2, (0, a2)), (3, (0, a3)), (4, (0, a4))]) hC 5 dX11_called_87 (by decide) rfl ei140 rfl ?_
                refine pm_goto (tgt := 38) hC dX11_called_90 (by decide) ?_
                refine pm_lvsub [1, 2, 3, 4, 5, 0] (lv' := [(0, (3, 0)), (1, (0, a1)), (2, (0, a2)), (3, (0, a3)), (4, (0, a4)), (5, (0, x139))]) rfl ?_
                exact ih119 _ (by exact ow_79j_91 hm117 b123 c124 ei140) x139 V127 ⟨by exact ow_79j_92 b109 ei140, by exact ow_79j_93 b123 c124 ei140⟩ hV131 hF134 (hT.trans (pf_val_inl hb115)) rfl
              · skip
                replace hb115 := hb115.trans (if_neg c138)
                refine pm_iload hC 4 dX11_called_66 rfl ?_
                refine pm_if_ne (tgt := 84) hC ⟨by exact ow_79j_101 c86, by exact ow_79j_102 c86⟩ dX11_called_68 (by decide) (fun c141 => ?_) (fun c141 => ?_)
                · skip
                  replace hb115 := hb115.trans (if_pos c141)
                  refine pm_iload hC 5 dX11_called_84 rfl ?_
                  replace hT := hT.trans (pf_val_inr hb115)
                  exact pm_iret hC hR pm_nar0 ⟨x108, rfl, ⟨by exact ow_79j_103 b109, by exact ow_79j_90 b123 c124⟩, hV131, hF134, hT⟩ dX11_called_86
                · skip
                  replace hb115 := hb115.trans (if_neg (fun q => q c141))
                  exfalso; exact ow_79j_104 c86 c141
          · skip
            replace hb115 := hb115.trans (if_neg (by rw [e120]; decide))
            refine pm_getf (v := 63) hC 0 fl_X11_45 rfl rfl (by decide) rfl e120 dX11_called_41 ?_
            obtain ⟨y142, e143⟩ : ∃ y, V110 63 0 = y := ⟨_, rfl⟩
            have b144 := hV111.get 63 0 (lo := 0) (hi := 10) (by decide) (by decide) rfl
            rw [e143] at b144
            replace hb115 := hb115.trans (pf_let_eq e143)
            refine pm_getf (v := y142) hC 63 fl_X11_139 rfl rfl (by decide) rfl e143 dX11_called_44 ?_
            refine pm_icmp_ge (tgt := 93) hC ⟨by exact ow_79j_83 b109, by exact ow_79j_84 b109⟩ ⟨by exact ow_79j_85 b144, by exact ow_79j_86 b144⟩ dX11_called_47 (by decide) (fun c145 => ?_) (fun c145 => ?_)
            · skip
              replace hb115 := hb115.trans (if_pos c145)
              refine pm_iconst (v := (-1)) hC dX11_called_93 ?_
              replace hT := hT.trans (pf_val_inr hb115)
              exact pm_iret hC hR pm_nar0 ⟨(-1), rfl, ⟨by exact ow_79j_87, by exact ow_79j_88⟩, hV111, hF112, hT⟩ dX11_called_94
            · skip
              replace hb115 := hb115.trans (if_neg (Int.not_le.mpr c145))
              refine pm_aload_n hC 0 (by decide) dX11_called_50 rfl ?_
              refine pm_getf (v := 63) hC 0 fl_X11_45 rfl rfl (by decide) rfl e120 dX11_called_51 ?_
              refine pm_iload hC 5 dX11_called_54 rfl ?_
              refine pm_aload_n hC 0 (by decide) dX11_called_56 rfl ?_
              have e146 : V110 0 7 = 83 := hV111.one 0 7 (by decide) (by decide) rfl
              refine pm_getf (v := 83) hC 0 fl_X11_86 rfl rfl (by decide) rfl e146 dX11_called_57 ?_
              refine pm_callV (ci := 2) (as := [(0, x108), (3, 83)]) (st := []) hC 63 (fD_X2_holds_63_83 x108 ⟨by exact ow_79j_89 b109, by exact ow_79j_90 b144 c145⟩) lm_X11_324 li_X2_holds (by decide) (by decide) rfl rfl rfl (by decide) rfl rfl (Nat.le_of_ble_eq_true rfl) ⟨Nat.le_refl _, Or.inl rfl⟩ dX11_called_60 ⟨rfl, hV111⟩ (fun r147 V148 hp149 => ?_)
              obtain ⟨y150, rfl, b151, hV152, hF153, hE154⟩ := hp149
              replace hb115 := hb115.trans (pf_call_eq hE154)
              change pm_J X 63 [(0, (3, 0)), (1, (0, a1)), (2, (0, a2)), (3, (0, a3)), (4, (0, a4)), (5, (0, x108))] [(0, y150)] 118 V148
              have hF155 := pm_ff.tr hF112 hF153 (by decide) (by decide)
              have e156 : V148 0 10 = 63 := by rw [hF153 0 10 (by decide) (by decide)]; exact e120
              have e157 : V148 63 0 = y142 := by rw [hF153 63 0 (by decide) (by decide)]; exact e143
              have e158 : V148 0 7 = 83 := by rw [hF153 0 7 (by decide) (by decide)]; exact e146
              refine pm_if_eq (tgt := 87) hC ⟨by exact ow_79j_48 b151, by exact ow_79j_49 b151⟩ dX11_called_63 (by decide) (fun c159 => ?_) (fun c159 => ?_)
              · skip
                replace hb115 := hb115.trans (if_pos c159)
                obtain ⟨x160, ei161⟩ : ∃ y : Int, x108 + 1 = y := ⟨_, rfl⟩
                replace hb115 := hb115.trans (pf_let_eq ei161)
                refine pm_iinc (y := x160) (lv' := [(5, (0, x160)), (0, (3, 0)), (1, (0, a1)), (2, (0, a2)), (3, (0, a3)), (4, (0, a4))]) hC 5 dX11_called_87 (by decide) rfl ei161 rfl ?_
                refine pm_goto (tgt := 38) hC dX11_called_90 (by decide) ?_
                refine pm_lvsub [1, 2, 3, 4, 5, 0] (lv' := [(0, (3, 0)), (1, (0, a1)), (2, (0, a2)), (3, (0, a3)), (4, (0, a4)), (5, (0, x160))]) rfl ?_
                exact ih119 _ (by exact ow_79j_91 hm117 b144 c145 ei161) x160 V148 ⟨by exact ow_79j_92 b109 ei161, by exact ow_79j_93 b144 c145 ei161⟩ hV152 hF155 (hT.trans (pf_val_inl hb115)) rfl
              · skip
                replace hb115 := hb115.trans (if_neg c159)
                refine pm_iload hC 4 dX11_called_66 rfl ?_
                refine pm_if_ne (tgt := 84) hC ⟨by exact ow_79j_101 c86, by exact ow_79j_102 c86⟩ dX11_called_68 (by decide) (fun c162 => ?_) (fun c162 => ?_)
                · skip
                  replace hb115 := hb115.trans (if_pos c162)
                  refine pm_iload hC 5 dX11_called_84 rfl ?_
                  replace hT := hT.trans (pf_val_inr hb115)
                  exact pm_iret hC hR pm_nar0 ⟨x108, rfl, ⟨by exact ow_79j_103 b109, by exact ow_79j_90 b144 c145⟩, hV152, hF155, hT⟩ dX11_called_86
                · skip
                  replace hb115 := hb115.trans (if_neg (fun q => q c162))
                  exfalso; exact ow_79j_104 c86 c162
        refine pm_lvsub [1, 2, 3, 4, 5, 0] (lv' := [(0, (3, 0)), (1, (0, a1)), (2, (0, a2)), (3, (0, a3)), (4, (0, a4)), (5, (0, 0))]) rfl ?_
        exact L116 _ 0 V102 ⟨by decide, by decide⟩ hV104 hF107 hT rfl
      · skip
        replace hT := hT.trans (if_neg (fun q => q c93))
        refine pm_iconst (v := (-1)) hC dX11_called_21 ?_
        exact pm_iret hC hR pm_nar0 ⟨(-1), rfl, ⟨by exact ow_79j_87, by exact ow_79j_88⟩, hV0, (pm_ff.rf (cs := [62, 68, 74, 75, 76, 77, 83]) (fs := [(57, 7), (63, 7), (73, 0), (73, 1), (73, 2), (73, 3), (73, 4), (73, 5), (73, 6), (73, 7), (73, 10), (73, 11), (73, 12), (73, 14)]) (V := V0)), hT⟩ dX11_called_22
set_option maxHeartbeats 4000000 in
set_option maxRecDepth 100000 in
theorem fD_X11_lotBelow_0 (a1 : Int) (h0 : (-9223372036854775808) ≤ a1 ∧ a1 ≤ 9223372036854775807) : pm_K 1 yX11_lotBelow cX11_lotBelow 3 (some .int) (fun av V => av = [(3, 0), (1, a1)] ∧ pm_ok 0 90 V) (fun _ V r V' => ∃ y, r = some (0, y) ∧ (0 ≤ y ∧ y ≤ 8388607 ∧ (0 ≤ y) ∧ (0 < a1 → y < a1) ∧ (a1 ≤ 0 → y = 0)) ∧ pm_ok 0 90 V' ∧ pm_ff [] [(0, 16)] V V' ∧ F_X11_lotBelow a1 V = (y, V')) := by
  refine pm_MT.of (by decide) ⟨Nat.le_refl _, by decide⟩ (fun av V h => by rw [h.1]; exact (by decide : pm_words [(3, 0), (1, 0)] ≤ 3)) ?_
  rintro X av V0 hC - hR ⟨rfl, hV0⟩
  change pm_J X 0 [(0, (3, 0)), (1, (1, a1))] [] 118 V0
  have hT := F_X11_lotBelow_eq a1 V0
  refine pm_aload_n hC 0 (by decide) dX11_lotBelow_0 rfl ?_
  refine pm_aload_n hC 0 (by decide) dX11_lotBelow_1 rfl ?_
  obtain ⟨y1, e2⟩ : ∃ y, V0 0 16 = y := ⟨_, rfl⟩
  have b3 := hV0.get 0 16 (lo := (-9223372036854775808)) (hi := 9223372036854775807) (by decide) (by decide) rfl
  rw [e2] at b3
  replace hT := hT.trans (pf_let_eq e2)
  refine pm_getf (v := y1) hC 0 fl_X11_107 rfl rfl (by decide) rfl e2 dX11_lotBelow_2 ?_
  refine pm_ldc2 (v := 1103515245) hC 5093 dX11_lotBelow_5 (by decide +kernel) ?_
  refine pm_lmul hC dX11_lotBelow_8 ?_
  refine pm_wrL hC (fun y4 hw6 b5 => ?_)
  replace hT := hT.trans (pf_let_eq hw6)
  have b5 := And.intro b5.1 b5.2
  refine pm_ldc2 (v := 12345) hC 5094 dX11_lotBelow_9 (by decide +kernel) ?_
  refine pm_ladd hC dX11_lotBelow_12 ?_
  refine pm_wrL hC (fun y7 hw9 b8 => ?_)
  replace hT := hT.trans (pf_let_eq hw9)
  have b8 := And.intro b8.1 b8.2
  refine pm_ldc2 (v := 2147483647) hC 5095 dX11_lotBelow_13 (by decide +kernel) ?_
  refine pm_land hC dX11_lotBelow_16 ?_
  have b11 := pm_landb (x := y7) (y := 2147483647) (by decide)
  obtain ⟨y10, hey10⟩ : ∃ z, (pm_landV y7 2147483647) = z := ⟨_, rfl⟩
  rw [hey10] at b11 ⊢
  replace hT := hT.trans (pf_let_eq hey10)
  refine pm_putf hC 0 fl_X11_107 rfl rfl rfl (by decide) rfl trivial dX11_lotBelow_17 ?_
  refine pm_lload_n hC 1 dX11_lotBelow_20 rfl ?_
  refine pm_lconst (x := 0) hC dX11_lotBelow_21 rfl ?_
  refine pm_lcmp hC ⟨by exact ow_79j_6 h0, by exact ow_79j_7 h0⟩ ⟨by decide, by decide⟩ dX11_lotBelow_22 (fun y12 b13 => ?_)
  replace hT := hT.trans (pf_let_eq (pm_cmp_u b13))
  refine pm_if_gt (tgt := 30) hC ⟨by exact ow_79j_105 b13, by exact ow_79j_106 b13⟩ dX11_lotBelow_23 (by decide) (fun c14 => ?_) (fun c14 => ?_)
  · skip
    replace hT := hT.trans (if_pos c14)
    refine pm_aload_n hC 0 (by decide) dX11_lotBelow_30 rfl ?_
    refine pm_getf (v := y10) hC 0 fl_X11_107 rfl rfl (by decide) rfl rfl dX11_lotBelow_31 ?_
    refine pm_ldc2 (v := 256) hC 5096 dX11_lotBelow_34 (by decide +kernel) ?_
    refine pm_ldiv hC ⟨by exact ow_79j_107 b11, by exact ow_79j_108 b11, by exact ow_79j_109 b11⟩ ⟨by decide, by decide, by decide⟩ dX11_lotBelow_37 ?_
    refine pm_lload_n hC 1 dX11_lotBelow_38 rfl ?_
    refine pm_lrem hC ⟨by exact ow_79j_110 b11, by exact ow_79j_111 b11, by exact ow_79j_112 b11⟩ ⟨by exact ow_79j_113 b13 c14, by exact ow_79j_6 h0, by exact ow_79j_7 h0⟩ dX11_lotBelow_39 ?_
    have b16 := pm_modb (x := (y10 / 256)) (y := a1) (by exact ow_79j_110 b11) (by exact ow_79j_113 b13 c14)
    obtain ⟨y15, hey15⟩ : ∃ z, ((y10 / 256) % a1) = z := ⟨_, rfl⟩
    rw [hey15] at b16 ⊢
    replace hT := hT.trans (pf_let_eq hey15)
    refine pm_l2i hC dX11_lotBelow_40 ?_
    exact pm_iret hC hR pm_nar0 ⟨y15, rfl, ⟨by exact ow_79j_114 b16, by exact ow_79j_115 b11 b16, by exact ow_79j_114 b16, by exact ow_79j_116 b16, by exact ow_79j_117 b16⟩, (hV0.put 0 16 (x := y10) (lo := (-9223372036854775808)) (hi := 9223372036854775807) rfl ⟨by exact ow_79j_108 b11, by exact ow_79j_109 b11⟩), ((pm_ff.rf (cs := []) (fs := [(0, 16)]) (V := V0)).upf 0 16 y10 rfl), hT⟩ dX11_lotBelow_41
  · skip
    replace hT := hT.trans (if_neg (Int.not_lt.mpr c14))
    refine pm_iconst (v := 0) hC dX11_lotBelow_26 ?_
    refine pm_goto (tgt := 41) hC dX11_lotBelow_27 (by decide) ?_
    exact pm_iret hC hR pm_nar0 ⟨0, rfl, ⟨by exact ow_79j_11, by exact ow_79j_118, by exact ow_79j_11, by exact ow_79j_119, by exact ow_79j_120⟩, (hV0.put 0 16 (x := y10) (lo := (-9223372036854775808)) (hi := 9223372036854775807) rfl ⟨by exact ow_79j_108 b11, by exact ow_79j_109 b11⟩), ((pm_ff.rf (cs := []) (fs := [(0, 16)]) (V := V0)).upf 0 16 y10 rfl), hT⟩ dX11_lotBelow_41
set_option maxHeartbeats 4000000 in
set_option maxRecDepth 100000 in
theorem fD_X10_saidAt_73 (a1 : Int) (h0 : (-9223372036854775808) ≤ a1 ∧ a1 ≤ 9223372036854775807) : pm_K 1 yX10_saidAt cX10_saidAt 6 (some .int) (fun av V => av = [(3, 73), (1, a1)] ∧ pm_ok 0 90 V) (fun _ V r V' => ∃ y, r = some (0, y) ∧ (0 ≤ y ∧ y ≤ 8) ∧ V = V' ∧ F_X10_saidAt a1 V = (y, V)) := by
  refine pm_MT.of (by decide) ⟨Nat.le_refl _, by decide⟩ (fun av V h => by rw [h.1]; exact (by decide : pm_words [(3, 0), (1, 0)] ≤ 6)) ?_
  rintro X av V0 hC - hR ⟨rfl, hV0⟩
  change pm_J X 0 [(0, (3, 73)), (1, (1, a1))] [] 118 V0
  have hT := F_X10_saidAt_eq a1 V0
  refine pm_lconst (x := 0) hC dX10_saidAt_0 rfl ?_
  refine pm_lstore_n (lv' := [(3, (1, 0)), (0, (3, 73)), (1, (1, a1))]) hC dX10_saidAt_1 (by decide) rfl ?_
  refine pm_iconst (v := 0) hC dX10_saidAt_2 ?_
  refine pm_istore (lv' := [(5, (0, 0)), (3, (1, 0)), (0, (3, 73)), (1, (1, a1))]) hC dX10_saidAt_3 (by decide) rfl ?_
  obtain ⟨B5, hB6, hT⟩ := pf_loop hT
  have L8 : ∀ (N10 : Nat) (x1 : Int) (x3 : Int), ((-9223372036854775808) ≤ x1 ∧ x1 ≤ 9223372036854775807) → (0 ≤ x3 ∧ x3 ≤ 9) → F_X10_saidAt a1 V0 = pf_val ((0 : Int), V0) B5 (x1, x3) → (Int.toNat (9 - x3)) = N10 → pm_J X 5 [(0, (3, 73)), (1, (1, a1)), (3, (1, x1)), (5, (0, x3))] [] 118 V0 := by
    intro N10
    induction N10 using Nat.strongRecOn with
    | _ N10 ih11 =>
    intro x1 x3 b2 b4 hT hm9
    have hb7 := congrFun hB6 (x1, x3)
    refine pm_iload hC 3 dX10_saidAt_5 rfl ?_
    refine pm_aload_n hC 0 (by decide) dX10_saidAt_7 rfl ?_
    rcases hV0.get2 73 0 (lo := 45) (hi := 51) (by decide) (by decide) rfl with e12 | e12
    · skip
      replace hb7 := hb7.trans (if_pos e12)
      refine pm_getf (v := 45) hC 73 fl_X10_59 rfl rfl (by decide) rfl e12 dX10_saidAt_8 ?_
      obtain ⟨y13, e14⟩ : ∃ y, V0 45 0 = y := ⟨_, rfl⟩
      have b15 := hV0.get 45 0 (lo := 0) (hi := 9) (by decide) (by decide) rfl
      rw [e14] at b15
      replace hb7 := hb7.trans (pf_let_eq e14)
      refine pm_getf (v := y13) hC 45 fl_X10_79 rfl rfl (by decide) rfl e14 dX10_saidAt_11 ?_
      refine pm_icmp_ge (tgt := 42) hC ⟨by exact ow_79j_121 b4, by exact ow_79j_122 b4⟩ ⟨by exact ow_79j_121 b15, by exact ow_79j_122 b15⟩ dX10_saidAt_14 (by decide) (fun c16 => ?_) (fun c16 => ?_)
      · skip
        replace hb7 := hb7.trans (if_pos c16)
        refine pm_iconst (v := 0) hC dX10_saidAt_42 ?_
        replace hT := hT.trans (pf_val_inr hb7)
        exact pm_iret hC hR pm_nar0 ⟨0, rfl, ⟨by exact ow_79j_11, by exact ow_79j_123⟩, rfl, hT⟩ dX10_saidAt_43
      · skip
        replace hb7 := hb7.trans (if_neg (Int.not_le.mpr c16))
        refine pm_lload_n hC 2 dX10_saidAt_17 rfl ?_
        refine pm_aload_n hC 0 (by decide) dX10_saidAt_18 rfl ?_
        rcases hV0.get2 73 13 (lo := 76) (hi := 77) (by decide) (by decide) rfl with e17 | e17
        · skip
          replace hb7 := hb7.trans (if_pos e17)
          refine pm_getf (v := 76) hC 73 fl_X10_50 rfl rfl (by decide) rfl e17 dX10_saidAt_19 ?_
          refine pm_iload hC 3 dX10_saidAt_22 rfl ?_
          obtain ⟨y18, e19⟩ : ∃ y, V0 76 (x3 : Int).toNat = y := ⟨_, rfl⟩
          replace hb7 := hb7.trans (pf_let_eq e19)
          have b20 := hV0.get 76 (x3 : Int).toNat (lo := (-9223372036854775808)) (hi := 9223372036854775807) (by decide) (show _ < 9 by exact ow_79j_124 b15 c16) rfl
          rw [e19] at b20
          refine pm_laload (len := 9) (v := y18) hC 76 rfl rfl (by decide) ⟨by exact ow_79j_36 b4, by exact ow_79j_125 b15 c16⟩ (by decide) e19 dX10_saidAt_24 ?_
          refine pm_ladd hC dX10_saidAt_25 ?_
          refine pm_wrL hC (fun y21 hw23 b22 => ?_)
          replace hb7 := hb7.trans (pf_let_eq hw23)
          have b22 := And.intro b22.1 b22.2
          refine pm_lstore_n (lv' := [(3, (1, y21)), (0, (3, 73)), (1, (1, a1)), (5, (0, x3))]) hC dX10_saidAt_26 (by decide) rfl ?_
          refine pm_lload_n hC 0 dX10_saidAt_27 rfl ?_
          refine pm_lload_n hC 2 dX10_saidAt_28 rfl ?_
          refine pm_lcmp hC ⟨by exact ow_79j_6 b22, by exact ow_79j_7 b22⟩ ⟨by exact ow_79j_6 h0, by exact ow_79j_7 h0⟩ dX10_saidAt_29 (fun y24 b25 => ?_)
          replace hb7 := hb7.trans (pf_let_eq (pm_cmp_u b25))
          refine pm_if_le (tgt := 36) hC ⟨by exact ow_79j_8 b25, by exact ow_79j_9 b25⟩ dX10_saidAt_30 (by decide) (fun c26 => ?_) (fun c26 => ?_)
          · skip
            replace hb7 := hb7.trans (if_pos c26)
            obtain ⟨x27, ei28⟩ : ∃ y : Int, x3 + 1 = y := ⟨_, rfl⟩
            replace hb7 := hb7.trans (pf_let_eq ei28)
            refine pm_iinc (y := x27) (lv' := [(5, (0, x27)), (3, (1, y21)), (0, (3, 73)), (1, (1, a1))]) hC 3 dX10_saidAt_36 (by decide) rfl ei28 rfl ?_
            refine pm_goto (tgt := 5) hC dX10_saidAt_39 (by decide) ?_
            refine pm_lvsub [2, 3, 1, 0] (lv' := [(0, (3, 73)), (1, (1, a1)), (3, (1, y21)), (5, (0, x27))]) rfl ?_
            exact ih11 _ (by exact ow_79j_126 hm9 b15 c16 ei28) y21 x27 ⟨by exact ow_79j_6 b22, by exact ow_79j_7 b22⟩ ⟨by exact ow_79j_127 b4 ei28, by exact ow_79j_128 b15 c16 ei28⟩ (hT.trans (pf_val_inl hb7)) rfl
          · skip
            replace hb7 := hb7.trans (if_neg (Int.not_le.mpr c26))
            refine pm_iload hC 3 dX10_saidAt_33 rfl ?_
            replace hT := hT.trans (pf_val_inr hb7)
            exact pm_iret hC hR pm_nar0 ⟨x3, rfl, ⟨by exact ow_79j_36 b4, by exact ow_79j_129 b15 c16⟩, rfl, hT⟩ dX10_saidAt_35
        · skip
          replace hb7 := hb7.trans (if_neg (by rw [e17]; decide))
          refine pm_getf (v := 77) hC 73 fl_X10_50 rfl rfl (by decide) rfl e17 dX10_saidAt_19 ?_
          refine pm_iload hC 3 dX10_saidAt_22 rfl ?_
          obtain ⟨y29, e30⟩ : ∃ y, V0 77 (x3 : Int).toNat = y := ⟨_, rfl⟩
          replace hb7 := hb7.trans (pf_let_eq e30)
          have b31 := hV0.get 77 (x3 : Int).toNat (lo := (-9223372036854775808)) (hi := 9223372036854775807) (by decide) (show _ < 9 by exact ow_79j_124 b15 c16) rfl
          rw [e30] at b31
          refine pm_laload (len := 9) (v := y29) hC 77 rfl rfl (by decide) ⟨by exact ow_79j_36 b4, by exact ow_79j_125 b15 c16⟩ (by decide) e30 dX10_saidAt_24 ?_
          refine pm_ladd hC dX10_saidAt_25 ?_
          refine pm_wrL hC (fun y32 hw34 b33 => ?_)
          replace hb7 := hb7.trans (pf_let_eq hw34)
          have b33 := And.intro b33.1 b33.2
          refine pm_lstore_n (lv' := [(3, (1, y32)), (0, (3, 73)), (1, (1, a1)), (5, (0, x3))]) hC dX10_saidAt_26 (by decide) rfl ?_
          refine pm_lload_n hC 0 dX10_saidAt_27 rfl ?_
          refine pm_lload_n hC 2 dX10_saidAt_28 rfl ?_
          refine pm_lcmp hC ⟨by exact ow_79j_6 b33, by exact ow_79j_7 b33⟩ ⟨by exact ow_79j_6 h0, by exact ow_79j_7 h0⟩ dX10_saidAt_29 (fun y35 b36 => ?_)
          replace hb7 := hb7.trans (pf_let_eq (pm_cmp_u b36))
          refine pm_if_le (tgt := 36) hC ⟨by exact ow_79j_8 b36, by exact ow_79j_9 b36⟩ dX10_saidAt_30 (by decide) (fun c37 => ?_) (fun c37 => ?_)
          · skip
            replace hb7 := hb7.trans (if_pos c37)
            obtain ⟨x38, ei39⟩ : ∃ y : Int, x3 + 1 = y := ⟨_, rfl⟩
            replace hb7 := hb7.trans (pf_let_eq ei39)
            refine pm_iinc (y := x38) (lv' := [(5, (0, x38)), (3, (1, y32)), (0, (3, 73)), (1, (1, a1))]) hC 3 dX10_saidAt_36 (by decide) rfl ei39 rfl ?_
            refine pm_goto (tgt := 5) hC dX10_saidAt_39 (by decide) ?_
            refine pm_lvsub [2, 3, 1, 0] (lv' := [(0, (3, 73)), (1, (1, a1)), (3, (1, y32)), (5, (0, x38))]) rfl ?_
            exact ih11 _ (by exact ow_79j_126 hm9 b15 c16 ei39) y32 x38 ⟨by exact ow_79j_6 b33, by exact ow_79j_7 b33⟩ ⟨by exact ow_79j_127 b4 ei39, by exact ow_79j_128 b15 c16 ei39⟩ (hT.trans (pf_val_inl hb7)) rfl
          · skip
            replace hb7 := hb7.trans (if_neg (Int.not_le.mpr c37))
            refine pm_iload hC 3 dX10_saidAt_33 rfl ?_
            replace hT := hT.trans (pf_val_inr hb7)
            exact pm_iret hC hR pm_nar0 ⟨x3, rfl, ⟨by exact ow_79j_36 b4, by exact ow_79j_129 b15 c16⟩, rfl, hT⟩ dX10_saidAt_35
    · skip
      replace hb7 := hb7.trans (if_neg (by rw [e12]; decide))
      refine pm_getf (v := 51) hC 73 fl_X10_59 rfl rfl (by decide) rfl e12 dX10_saidAt_8 ?_
      obtain ⟨y40, e41⟩ : ∃ y, V0 51 0 = y := ⟨_, rfl⟩
      have b42 := hV0.get 51 0 (lo := 0) (hi := 9) (by decide) (by decide) rfl
      rw [e41] at b42
      replace hb7 := hb7.trans (pf_let_eq e41)
      refine pm_getf (v := y40) hC 51 fl_X10_79 rfl rfl (by decide) rfl e41 dX10_saidAt_11 ?_
      refine pm_icmp_ge (tgt := 42) hC ⟨by exact ow_79j_121 b4, by exact ow_79j_122 b4⟩ ⟨by exact ow_79j_121 b42, by exact ow_79j_122 b42⟩ dX10_saidAt_14 (by decide) (fun c43 => ?_) (fun c43 => ?_)
      · skip
        replace hb7 := hb7.trans (if_pos c43)
        refine pm_iconst (v := 0) hC dX10_saidAt_42 ?_
        replace hT := hT.trans (pf_val_inr hb7)
        exact pm_iret hC hR pm_nar0 ⟨0, rfl, ⟨by exact ow_79j_11, by exact ow_79j_123⟩, rfl, hT⟩ dX10_saidAt_43
      · skip
        replace hb7 := hb7.trans (if_neg (Int.not_le.mpr c43))
        refine pm_lload_n hC 2 dX10_saidAt_17 rfl ?_
        refine pm_aload_n hC 0 (by decide) dX10_saidAt_18 rfl ?_
        rcases hV0.get2 73 13 (lo := 76) (hi := 77) (by decide) (by decide) rfl with e44 | e44
        · skip
          replace hb7 := hb7.trans (if_pos e44)
          refine pm_getf (v := 76) hC 73 fl_X10_50 rfl rfl (by decide) rfl e44 dX10_saidAt_19 ?_
          refine pm_iload hC 3 dX10_saidAt_22 rfl ?_
          obtain ⟨y45, e46⟩ : ∃ y, V0 76 (x3 : Int).toNat = y := ⟨_, rfl⟩
          replace hb7 := hb7.trans (pf_let_eq e46)
          have b47 := hV0.get 76 (x3 : Int).toNat (lo := (-9223372036854775808)) (hi := 9223372036854775807) (by decide) (show _ < 9 by exact ow_79j_124 b42 c43) rfl
          rw [e46] at b47
          refine pm_laload (len := 9) (v := y45) hC 76 rfl rfl (by decide) ⟨by exact ow_79j_36 b4, by exact ow_79j_125 b42 c43⟩ (by decide) e46 dX10_saidAt_24 ?_
          refine pm_ladd hC dX10_saidAt_25 ?_
          refine pm_wrL hC (fun y48 hw50 b49 => ?_)
          replace hb7 := hb7.trans (pf_let_eq hw50)
          have b49 := And.intro b49.1 b49.2
          refine pm_lstore_n (lv' := [(3, (1, y48)), (0, (3, 73)), (1, (1, a1)), (5, (0, x3))]) hC dX10_saidAt_26 (by decide) rfl ?_
          refine pm_lload_n hC 0 dX10_saidAt_27 rfl ?_
          refine pm_lload_n hC 2 dX10_saidAt_28 rfl ?_
          refine pm_lcmp hC ⟨by exact ow_79j_6 b49, by exact ow_79j_7 b49⟩ ⟨by exact ow_79j_6 h0, by exact ow_79j_7 h0⟩ dX10_saidAt_29 (fun y51 b52 => ?_)
          replace hb7 := hb7.trans (pf_let_eq (pm_cmp_u b52))
          refine pm_if_le (tgt := 36) hC ⟨by exact ow_79j_8 b52, by exact ow_79j_9 b52⟩ dX10_saidAt_30 (by decide) (fun c53 => ?_) (fun c53 => ?_)
          · skip
            replace hb7 := hb7.trans (if_pos c53)
            obtain ⟨x54, ei55⟩ : ∃ y : Int, x3 + 1 = y := ⟨_, rfl⟩
            replace hb7 := hb7.trans (pf_let_eq ei55)
            refine pm_iinc (y := x54) (lv' := [(5, (0, x54)), (3, (1, y48)), (0, (3, 73)), (1, (1, a1))]) hC 3 dX10_saidAt_36 (by decide) rfl ei55 rfl ?_
            refine pm_goto (tgt := 5) hC dX10_saidAt_39 (by decide) ?_
            refine pm_lvsub [2, 3, 1, 0] (lv' := [(0, (3, 73)), (1, (1, a1)), (3, (1, y48)), (5, (0, x54))]) rfl ?_
            exact ih11 _ (by exact ow_79j_126 hm9 b42 c43 ei55) y48 x54 ⟨by exact ow_79j_6 b49, by exact ow_79j_7 b49⟩ ⟨by exact ow_79j_127 b4 ei55, by exact ow_79j_128 b42 c43 ei55⟩ (hT.trans (pf_val_inl hb7)) rfl
          · skip
            replace hb7 := hb7.trans (if_neg (Int.not_le.mpr c53))
            refine pm_iload hC 3 dX10_saidAt_33 rfl ?_
            replace hT := hT.trans (pf_val_inr hb7)
            exact pm_iret hC hR pm_nar0 ⟨x3, rfl, ⟨by exact ow_79j_36 b4, by exact ow_79j_129 b42 c43⟩, rfl, hT⟩ dX10_saidAt_35
        · skip
          replace hb7 := hb7.trans (if_neg (by rw [e44]; decide))
          refine pm_getf (v := 77) hC 73 fl_X10_50 rfl rfl (by decide) rfl e44 dX10_saidAt_19 ?_
          refine pm_iload hC 3 dX10_saidAt_22 rfl ?_
          obtain ⟨y56, e57⟩ : ∃ y, V0 77 (x3 : Int).toNat = y := ⟨_, rfl⟩
          replace hb7 := hb7.trans (pf_let_eq e57)
          have b58 := hV0.get 77 (x3 : Int).toNat (lo := (-9223372036854775808)) (hi := 9223372036854775807) (by decide) (show _ < 9 by exact ow_79j_124 b42 c43) rfl
          rw [e57] at b58
          refine pm_laload (len := 9) (v := y56) hC 77 rfl rfl (by decide) ⟨by exact ow_79j_36 b4, by exact ow_79j_125 b42 c43⟩ (by decide) e57 dX10_saidAt_24 ?_
          refine pm_ladd hC dX10_saidAt_25 ?_
          refine pm_wrL hC (fun y59 hw61 b60 => ?_)
          replace hb7 := hb7.trans (pf_let_eq hw61)
          have b60 := And.intro b60.1 b60.2
          refine pm_lstore_n (lv' := [(3, (1, y59)), (0, (3, 73)), (1, (1, a1)), (5, (0, x3))]) hC dX10_saidAt_26 (by decide) rfl ?_
          refine pm_lload_n hC 0 dX10_saidAt_27 rfl ?_
          refine pm_lload_n hC 2 dX10_saidAt_28 rfl ?_
          refine pm_lcmp hC ⟨by exact ow_79j_6 b60, by exact ow_79j_7 b60⟩ ⟨by exact ow_79j_6 h0, by exact ow_79j_7 h0⟩ dX10_saidAt_29 (fun y62 b63 => ?_)
          replace hb7 := hb7.trans (pf_let_eq (pm_cmp_u b63))
          refine pm_if_le (tgt := 36) hC ⟨by exact ow_79j_8 b63, by exact ow_79j_9 b63⟩ dX10_saidAt_30 (by decide) (fun c64 => ?_) (fun c64 => ?_)
          · skip
            replace hb7 := hb7.trans (if_pos c64)
            obtain ⟨x65, ei66⟩ : ∃ y : Int, x3 + 1 = y := ⟨_, rfl⟩
            replace hb7 := hb7.trans (pf_let_eq ei66)
            refine pm_iinc (y := x65) (lv' := [(5, (0, x65)), (3, (1, y59)), (0, (3, 73)), (1, (1, a1))]) hC 3 dX10_saidAt_36 (by decide) rfl ei66 rfl ?_
            refine pm_goto (tgt := 5) hC dX10_saidAt_39 (by decide) ?_
            refine pm_lvsub [2, 3, 1, 0] (lv' := [(0, (3, 73)), (1, (1, a1)), (3, (1, y59)), (5, (0, x65))]) rfl ?_
            exact ih11 _ (by exact ow_79j_126 hm9 b42 c43 ei66) y59 x65 ⟨by exact ow_79j_6 b60, by exact ow_79j_7 b60⟩ ⟨by exact ow_79j_127 b4 ei66, by exact ow_79j_128 b42 c43 ei66⟩ (hT.trans (pf_val_inl hb7)) rfl
          · skip
            replace hb7 := hb7.trans (if_neg (Int.not_le.mpr c64))
            refine pm_iload hC 3 dX10_saidAt_33 rfl ?_
            replace hT := hT.trans (pf_val_inr hb7)
            exact pm_iret hC hR pm_nar0 ⟨x3, rfl, ⟨by exact ow_79j_36 b4, by exact ow_79j_129 b42 c43⟩, rfl, hT⟩ dX10_saidAt_35
  refine pm_lvsub [2, 3, 1, 0] (lv' := [(0, (3, 73)), (1, (1, a1)), (3, (1, 0)), (5, (0, 0))]) rfl ?_
  exact L8 _ 0 0 ⟨by decide, by decide⟩ ⟨by decide, by decide⟩ hT rfl
set_option maxHeartbeats 4000000 in
set_option maxRecDepth 100000 in
theorem fD_X11_drawAnswer_0 (a1 a2 : Int) (h0 : (-2147483648) ≤ a1 ∧ a1 ≤ 2147483647) (h1 : 0 ≤ a2 ∧ a2 ≤ 9) : pm_K 5 yX11_drawAnswer cX11_drawAnswer 12 none (fun av V => av = [(3, 0), (0, a1), (0, a2)] ∧ pm_ok 0 90 V) (fun _ V r V' => r = none ∧ pm_ok 0 90 V' ∧ pm_ff [9, 10, 11, 12, 13, 74, 75, 76, 77] [(0, 16), (4, 6), (73, 0), (73, 1), (73, 2), (73, 3), (73, 4), (73, 5), (73, 6), (73, 7), (73, 10), (73, 11), (73, 12), (73, 14)] V V' ∧ (V 4 6 < 60 → V' 4 6 = V 4 6 + 1) ∧ F_X11_drawAnswer a1 a2 V = (0, V')) := by
  refine pm_MT.of (by decide) ⟨Nat.le_refl _, by decide⟩ (fun av V h => by rw [h.1]; exact (by decide : pm_words [(3, 0), (0, 0), (0, 0)] ≤ 12)) ?_
  rintro X av V0 hC - hR ⟨rfl, hV0⟩
  change pm_J X 0 [(0, (3, 0)), (1, (0, a1)), (2, (0, a2))] [] 118 V0
  have hT := F_X11_drawAnswer_eq a1 a2 V0
  obtain ⟨y1, e2⟩ : ∃ y, V0 4 6 = y := ⟨_, rfl⟩
  have b3 := hV0.get 4 6 (lo := 0) (hi := 60) (by decide) (by decide) rfl
  rw [e2] at b3
  replace hT := hT.trans (pf_let_eq e2)
  refine pm_aload_n hC 0 (by decide) dX11_drawAnswer_0 rfl ?_
  refine pm_aload_n hC 0 (by decide) dX11_drawAnswer_1 rfl ?_
  rcases hV0.get2 0 8 (lo := 45) (hi := 51) (by decide) (by decide) rfl with e4 | e4
  · skip
    replace hT := hT.trans (if_pos e4)
    refine pm_getf (v := 45) hC 0 fl_X11_35 rfl rfl (by decide) rfl e4 dX11_drawAnswer_2 ?_
    obtain ⟨y5, e6⟩ : ∃ y, V0 45 0 = y := ⟨_, rfl⟩
    have b7 := hV0.get 45 0 (lo := 0) (hi := 9) (by decide) (by decide) rfl
    rw [e6] at b7
    replace hT := hT.trans (pf_let_eq e6)
    refine pm_getf (v := y5) hC 45 fl_X11_136 rfl rfl (by decide) rfl e6 dX11_drawAnswer_5 ?_
    refine pm_i2l hC ⟨by exact ow_79j_121 b7, by exact ow_79j_122 b7⟩ dX11_drawAnswer_8 ?_
    refine pm_callV (ci := 11) (as := [(1, y5)]) (st := []) hC 0 (fD_X11_lotBelow_0 y5 ⟨by exact ow_79j_130 b7, by exact ow_79j_131 b7⟩) lm_X11_392 li_X11_lotBelow (by decide) (by decide) rfl rfl rfl (by decide) rfl rfl (Nat.le_of_ble_eq_true rfl) ⟨Nat.le_refl _, Or.inl rfl⟩ dX11_drawAnswer_9 ⟨rfl, hV0⟩ (fun r8 V9 hp10 => ?_)
    obtain ⟨y11, rfl, b12, hV13, hF14, hE15⟩ := hp10
    replace hT := hT.trans (pf_call_eq hE15)
    change pm_J X 12 [(0, (3, 0)), (1, (0, a1)), (2, (0, a2))] [(0, y11)] 118 V9
    have hF16 := pm_ff.tr (pm_ff.rf (cs := [9, 10, 11, 12, 13, 74, 75, 76, 77]) (fs := [(0, 16), (4, 6), (73, 0), (73, 1), (73, 2), (73, 3), (73, 4), (73, 5), (73, 6), (73, 7), (73, 10), (73, 11), (73, 12), (73, 14)]) (V := V0)) hF14 (by decide) (by decide)
    have e17 : V9 4 6 = y1 := by rw [hF14 4 6 (by decide) (by decide)]; exact e2
    have e18 : V9 0 8 = 45 := by rw [hF14 0 8 (by decide) (by decide)]; exact e4
    have e19 : V9 45 0 = y5 := by rw [hF14 45 0 (by decide) (by decide)]; exact e6
    refine pm_istore_n (lv' := [(3, (0, y11)), (0, (3, 0)), (1, (0, a1)), (2, (0, a2))]) hC dX11_drawAnswer_12 (by decide) rfl ?_
    refine pm_aload_n hC 1 (by decide) dX11_drawAnswer_13 rfl ?_
    refine pm_aload_n hC 1 (by decide) dX11_drawAnswer_14 rfl ?_
    refine pm_getf (v := 45) hC 0 fl_X11_35 rfl rfl (by decide) rfl e18 dX11_drawAnswer_15 ?_
    refine pm_getf (v := y5) hC 45 fl_X11_136 rfl rfl (by decide) rfl e19 dX11_drawAnswer_18 ?_
    refine pm_i2l hC ⟨by exact ow_79j_121 b7, by exact ow_79j_122 b7⟩ dX11_drawAnswer_21 ?_
    refine pm_callV (ci := 11) (as := [(1, y5)]) (st := []) hC 0 (fD_X11_lotBelow_0 y5 ⟨by exact ow_79j_130 b7, by exact ow_79j_131 b7⟩) lm_X11_392 li_X11_lotBelow (by decide) (by decide) rfl rfl rfl (by decide) rfl rfl (Nat.le_of_ble_eq_true rfl) ⟨Nat.le_refl _, Or.inl rfl⟩ dX11_drawAnswer_22 ⟨rfl, hV13⟩ (fun r20 V21 hp22 => ?_)
    obtain ⟨y23, rfl, b24, hV25, hF26, hE27⟩ := hp22
    replace hT := hT.trans (pf_call_eq hE27)
    change pm_J X 25 [(3, (0, y11)), (0, (3, 0)), (1, (0, a1)), (2, (0, a2))] [(0, y23)] 118 V21
    have hF28 := pm_ff.tr hF16 hF26 (by decide) (by decide)
    have e29 : V21 4 6 = y1 := by rw [hF26 4 6 (by decide) (by decide)]; exact e17
    have e30 : V21 0 8 = 45 := by rw [hF26 0 8 (by decide) (by decide)]; exact e18
    have e31 : V21 45 0 = y5 := by rw [hF26 45 0 (by decide) (by decide)]; exact e19
    refine pm_istore (lv' := [(4, (0, y23)), (3, (0, y11)), (0, (3, 0)), (1, (0, a1)), (2, (0, a2))]) hC dX11_drawAnswer_25 (by decide) rfl ?_
    refine pm_aload_n hC 2 (by decide) dX11_drawAnswer_27 rfl ?_
    refine pm_ldc2 (v := 10) hC 5097 dX11_drawAnswer_28 (by decide +kernel) ?_
    refine pm_callV (ci := 11) (as := [(1, 10)]) (st := []) hC 0 (fD_X11_lotBelow_0 10 ⟨by decide, by decide⟩) lm_X11_392 li_X11_lotBelow (by decide) (by decide) rfl rfl rfl (by decide) rfl rfl (Nat.le_of_ble_eq_true rfl) ⟨Nat.le_refl _, Or.inl rfl⟩ dX11_drawAnswer_31 ⟨rfl, hV25⟩ (fun r32 V33 hp34 => ?_)
    obtain ⟨y35, rfl, b36, hV37, hF38, hE39⟩ := hp34
    replace hT := hT.trans (pf_call_eq hE39)
    change pm_J X 34 [(4, (0, y23)), (3, (0, y11)), (0, (3, 0)), (1, (0, a1)), (2, (0, a2))] [(0, y35)] 118 V33
    have hF40 := pm_ff.tr hF28 hF38 (by decide) (by decide)
    have e41 : V33 4 6 = y1 := by rw [hF38 4 6 (by decide) (by decide)]; exact e29
    have e42 : V33 0 8 = 45 := by rw [hF38 0 8 (by decide) (by decide)]; exact e30
    have e43 : V33 45 0 = y5 := by rw [hF38 45 0 (by decide) (by decide)]; exact e31
    refine pm_istore (lv' := [(5, (0, y35)), (4, (0, y23)), (3, (0, y11)), (0, (3, 0)), (1, (0, a1)), (2, (0, a2))]) hC dX11_drawAnswer_34 (by decide) rfl ?_
    refine pm_aload_n hC 3 (by decide) dX11_drawAnswer_36 rfl ?_
    refine pm_ldc2 (v := 10) hC 5097 dX11_drawAnswer_37 (by decide +kernel) ?_
    refine pm_callV (ci := 11) (as := [(1, 10)]) (st := []) hC 0 (fD_X11_lotBelow_0 10 ⟨by decide, by decide⟩) lm_X11_392 li_X11_lotBelow (by decide) (by decide) rfl rfl rfl (by decide) rfl rfl (Nat.le_of_ble_eq_true rfl) ⟨Nat.le_refl _, Or.inl rfl⟩ dX11_drawAnswer_40 ⟨rfl, hV37⟩ (fun r44 V45 hp46 => ?_)
    obtain ⟨y47, rfl, b48, hV49, hF50, hE51⟩ := hp46
    replace hT := hT.trans (pf_call_eq hE51)
    change pm_J X 43 [(5, (0, y35)), (4, (0, y23)), (3, (0, y11)), (0, (3, 0)), (1, (0, a1)), (2, (0, a2))] [(0, y47)] 118 V45
    have hF52 := pm_ff.tr hF40 hF50 (by decide) (by decide)
    have e53 : V45 4 6 = y1 := by rw [hF50 4 6 (by decide) (by decide)]; exact e41
    have e54 : V45 0 8 = 45 := by rw [hF50 0 8 (by decide) (by decide)]; exact e42
    have e55 : V45 45 0 = y5 := by rw [hF50 45 0 (by decide) (by decide)]; exact e43
    refine pm_istore (lv' := [(6, (0, y47)), (5, (0, y35)), (4, (0, y23)), (3, (0, y11)), (0, (3, 0)), (1, (0, a1)), (2, (0, a2))]) hC dX11_drawAnswer_43 (by decide) rfl ?_
    refine pm_aload_n hC 4 (by decide) dX11_drawAnswer_45 rfl ?_
    refine pm_ldc2 (v := 199) hC 5098 dX11_drawAnswer_46 (by decide +kernel) ?_
    refine pm_callV (ci := 11) (as := [(1, 199)]) (st := []) hC 0 (fD_X11_lotBelow_0 199 ⟨by decide, by decide⟩) lm_X11_392 li_X11_lotBelow (by decide) (by decide) rfl rfl rfl (by decide) rfl rfl (Nat.le_of_ble_eq_true rfl) ⟨Nat.le_refl _, Or.inl rfl⟩ dX11_drawAnswer_49 ⟨rfl, hV49⟩ (fun r56 V57 hp58 => ?_)
    obtain ⟨y59, rfl, b60, hV61, hF62, hE63⟩ := hp58
    replace hT := hT.trans (pf_call_eq hE63)
    change pm_J X 52 [(6, (0, y47)), (5, (0, y35)), (4, (0, y23)), (3, (0, y11)), (0, (3, 0)), (1, (0, a1)), (2, (0, a2))] [(0, y59)] 118 V57
    have hF64 := pm_ff.tr hF52 hF62 (by decide) (by decide)
    have e65 : V57 4 6 = y1 := by rw [hF62 4 6 (by decide) (by decide)]; exact e53
    have e66 : V57 0 8 = 45 := by rw [hF62 0 8 (by decide) (by decide)]; exact e54
    have e67 : V57 45 0 = y5 := by rw [hF62 45 0 (by decide) (by decide)]; exact e55
    refine pm_bipush (v := 99) hC dX11_drawAnswer_52 (by decide) ?_
    refine pm_isub hC dX11_drawAnswer_54 ?_
    refine pm_istore (lv' := [(7, (0, (y59 - 99))), (6, (0, y47)), (5, (0, y35)), (4, (0, y23)), (3, (0, y11)), (0, (3, 0)), (1, (0, a1)), (2, (0, a2))]) hC dX11_drawAnswer_55 (by decide) rfl ?_
    refine pm_iload_n hC 7 dX11_drawAnswer_57 rfl ?_
    refine pm_bipush (v := 100) hC dX11_drawAnswer_58 (by decide) ?_
    refine pm_imul hC dX11_drawAnswer_60 ?_
    refine pm_iload_n hC 4 dX11_drawAnswer_61 rfl ?_
    refine pm_bipush (v := 10) hC dX11_drawAnswer_62 (by decide) ?_
    refine pm_imul hC dX11_drawAnswer_64 ?_
    refine pm_iadd hC dX11_drawAnswer_65 ?_
    refine pm_iload hC 3 dX11_drawAnswer_66 rfl ?_
    refine pm_iadd hC dX11_drawAnswer_68 ?_
    have hw69 := pm_dig3 (p := a2) (v := y11) (f := y23) ⟨by exact ow_79j_36 h1, by exact ow_79j_132 h1⟩ ⟨by exact ow_79j_133 b12, by exact ow_79j_134 b7 b12⟩ ⟨by exact ow_79j_133 b24, by exact ow_79j_134 b7 b24⟩
    obtain ⟨w68, hew68⟩ : ∃ z, (((a2 * 100) + (y11 * 10)) + y23) = z := ⟨_, rfl⟩
    rw [hew68] at hw69 ⊢
    replace hT := hT.trans (pf_let_eq hew68)
    clear hew68
    refine pm_istore (lv' := [(8, (0, w68)), (7, (0, (y59 - 99))), (6, (0, y47)), (5, (0, y35)), (4, (0, y23)), (3, (0, y11)), (0, (3, 0)), (1, (0, a1)), (2, (0, a2))]) hC dX11_drawAnswer_69 (by decide) rfl ?_
    refine pm_iload hC 3 dX11_drawAnswer_71 rfl ?_
    refine pm_bipush (v := 10) hC dX11_drawAnswer_73 (by decide) ?_
    refine pm_imul hC dX11_drawAnswer_75 ?_
    refine pm_iload hC 2 dX11_drawAnswer_76 rfl ?_
    refine pm_iadd hC dX11_drawAnswer_78 ?_
    refine pm_istore (lv' := [(9, (0, ((y35 * 10) + y47))), (8, (0, w68)), (7, (0, (y59 - 99))), (6, (0, y47)), (5, (0, y35)), (4, (0, y23)), (3, (0, y11)), (0, (3, 0)), (1, (0, a1)), (2, (0, a2))]) hC dX11_drawAnswer_79 (by decide) rfl ?_
    refine pm_aload_n hC 7 (by decide) dX11_drawAnswer_81 rfl ?_
    refine pm_iload hC 1 dX11_drawAnswer_82 rfl ?_
    refine pm_iload hC 0 dX11_drawAnswer_84 rfl ?_
    refine pm_iload hC 2 dX11_drawAnswer_86 rfl ?_
    refine pm_callV (ci := 11) (as := [(0, w68), (0, ((y35 * 10) + y47)), (0, (y59 - 99))]) (st := []) hC 0 (fD_X11_pose_0 w68 ((y35 * 10) + y47) (y59 - 99) ⟨by exact ow_79j_135 hw69, by exact ow_79j_136 hw69⟩ ⟨by exact ow_79j_137 b36 b48, by exact ow_79j_138 b36 b48⟩ ⟨by exact ow_79j_139 b60, by exact ow_79j_140 b60⟩ (by exact ow_79j_141 hw69)) lm_X11_229 li_X11_pose (by decide) (by decide) rfl rfl rfl (by decide) rfl rfl (Nat.le_of_ble_eq_true rfl) ⟨Nat.le_refl _, Or.inl rfl⟩ dX11_drawAnswer_88 ⟨rfl, hV61⟩ (fun r70 V71 hp72 => ?_)
    obtain ⟨rfl, hV73, hF74, hE75⟩ := hp72
    replace hT := hT.trans (pf_call_eq hE75)
    change pm_J X 91 [(9, (0, ((y35 * 10) + y47))), (8, (0, w68)), (7, (0, (y59 - 99))), (6, (0, y47)), (5, (0, y35)), (4, (0, y23)), (3, (0, y11)), (0, (3, 0)), (1, (0, a1)), (2, (0, a2))] [] 118 V71
    have hF76 := pm_ff.tr hF64 hF74 (by decide) (by decide)
    have e77 : V71 4 6 = y1 := by rw [hF74 4 6 (by decide) (by decide)]; exact e65
    have e78 : V71 0 8 = 45 := by rw [hF74 0 8 (by decide) (by decide)]; exact e66
    have e79 : V71 45 0 = y5 := by rw [hF74 45 0 (by decide) (by decide)]; exact e67
    refine pm_aload_n hC 7 (by decide) dX11_drawAnswer_91 rfl ?_
    have e80 : V71 0 5 = 73 := hV73.one 0 5 (by decide) (by decide) rfl
    refine pm_getf (v := 73) hC 0 fl_X11_75 rfl rfl (by decide) rfl e80 dX11_drawAnswer_92 ?_
    refine pm_iload_n hC 8 dX11_drawAnswer_95 rfl ?_
    refine pm_callV (ci := 10) (as := [(0, a1)]) (st := []) hC 73 (fD_X10_weigh_73 a1 ⟨by exact ow_79j_0 h0, by exact ow_79j_1 h0⟩) lm_X11_294 li_X10_weigh (by decide) (by decide) rfl rfl rfl (by decide) rfl rfl (Nat.le_of_ble_eq_true rfl) ⟨Nat.le_refl _, Or.inl rfl⟩ dX11_drawAnswer_96 ⟨rfl, hV73⟩ (fun r81 V82 hp83 => ?_)
    obtain ⟨rfl, hV84, hF85, hE86⟩ := hp83
    replace hT := hT.trans (pf_call_eq hE86)
    change pm_J X 99 [(9, (0, ((y35 * 10) + y47))), (8, (0, w68)), (7, (0, (y59 - 99))), (6, (0, y47)), (5, (0, y35)), (4, (0, y23)), (3, (0, y11)), (0, (3, 0)), (1, (0, a1)), (2, (0, a2))] [] 118 V82
    have hF87 := pm_ff.tr hF76 hF85 (by decide) (by decide)
    have e88 : V82 4 6 = y1 := by rw [hF85 4 6 (by decide) (by decide)]; exact e77
    have e89 : V82 0 8 = 45 := by rw [hF85 0 8 (by decide) (by decide)]; exact e78
    have e90 : V82 45 0 = y5 := by rw [hF85 45 0 (by decide) (by decide)]; exact e79
    have e91 : V82 0 5 = 73 := by rw [hF85 0 5 (by decide) (by decide)]; exact e80
    refine pm_aload_n hC 7 (by decide) dX11_drawAnswer_99 rfl ?_
    refine pm_getf (v := 73) hC 0 fl_X11_75 rfl rfl (by decide) rfl e91 dX11_drawAnswer_100 ?_
    refine pm_aload_n hC 7 (by decide) dX11_drawAnswer_103 rfl ?_
    refine pm_aload_n hC 7 (by decide) dX11_drawAnswer_104 rfl ?_
    refine pm_getf (v := 73) hC 0 fl_X11_75 rfl rfl (by decide) rfl e91 dX11_drawAnswer_105 ?_
    obtain ⟨y92, e93⟩ : ∃ y, V82 73 14 = y := ⟨_, rfl⟩
    have b94 := hV84.get 73 14 (lo := (-9223372036854775808)) (hi := 9223372036854775807) (by decide) (by decide) rfl
    rw [e93] at b94
    replace hT := hT.trans (pf_let_eq e93)
    refine pm_getf (v := y92) hC 73 fl_X11_205 rfl rfl (by decide) rfl e93 dX11_drawAnswer_108 ?_
    refine pm_callV (ci := 11) (as := [(1, y92)]) (st := [(3, 73)]) hC 0 (fD_X11_lotBelow_0 y92 ⟨by exact ow_79j_6 b94, by exact ow_79j_7 b94⟩) lm_X11_392 li_X11_lotBelow (by decide) (by decide) rfl rfl rfl (by decide) rfl rfl (Nat.le_of_ble_eq_true rfl) ⟨Nat.le_refl _, Or.inl rfl⟩ dX11_drawAnswer_111 ⟨rfl, hV84⟩ (fun r95 V96 hp97 => ?_)
    obtain ⟨y98, rfl, b99, hV100, hF101, hE102⟩ := hp97
    replace hT := hT.trans (pf_call_eq hE102)
    change pm_J X 114 [(9, (0, ((y35 * 10) + y47))), (8, (0, w68)), (7, (0, (y59 - 99))), (6, (0, y47)), (5, (0, y35)), (4, (0, y23)), (3, (0, y11)), (0, (3, 0)), (1, (0, a1)), (2, (0, a2))] [(0, y98), (3, 73)] 118 V96
    have hF103 := pm_ff.tr hF87 hF101 (by decide) (by decide)
    have e104 : V96 4 6 = y1 := by rw [hF101 4 6 (by decide) (by decide)]; exact e88
    have e105 : V96 0 8 = 45 := by rw [hF101 0 8 (by decide) (by decide)]; exact e89
    have e106 : V96 45 0 = y5 := by rw [hF101 45 0 (by decide) (by decide)]; exact e90
    have e107 : V96 0 5 = 73 := by rw [hF101 0 5 (by decide) (by decide)]; exact e91
    have e108 : V96 73 14 = y92 := by rw [hF101 73 14 (by decide) (by decide)]; exact e93
    refine pm_i2l hC ⟨by exact ow_79j_142 b99, by exact ow_79j_143 b99⟩ dX11_drawAnswer_114 ?_
    refine pm_callV (ci := 10) (as := [(1, y98)]) (st := []) hC 73 (fD_X10_saidAt_73 y98 ⟨by exact ow_79j_144 b99, by exact ow_79j_145 b99⟩) lm_X11_400 li_X10_saidAt (by decide) (by decide) rfl rfl rfl (by decide) rfl rfl (Nat.le_of_ble_eq_true rfl) ⟨Nat.le_refl _, Or.inl rfl⟩ dX11_drawAnswer_115 ⟨rfl, hV100⟩ (fun r109 V110 hp111 => ?_)
    obtain ⟨y112, rfl, b113, rfl, hE114⟩ := hp111
    replace hT := hT.trans (pf_call_eq hE114)
    change pm_J X 118 [(9, (0, ((y35 * 10) + y47))), (8, (0, w68)), (7, (0, (y59 - 99))), (6, (0, y47)), (5, (0, y35)), (4, (0, y23)), (3, (0, y11)), (0, (3, 0)), (1, (0, a1)), (2, (0, a2))] [(0, y112)] 118 V96
    refine pm_istore (lv' := [(10, (0, y112)), (9, (0, ((y35 * 10) + y47))), (8, (0, w68)), (7, (0, (y59 - 99))), (6, (0, y47)), (5, (0, y35)), (4, (0, y23)), (3, (0, y11)), (0, (3, 0)), (1, (0, a1)), (2, (0, a2))]) hC dX11_drawAnswer_118 (by decide) rfl ?_
    refine pm_aload_n hC 8 (by decide) dX11_drawAnswer_120 rfl ?_
    refine pm_ldc2 (v := 1000) hC 4082 dX11_drawAnswer_121 (by decide +kernel) ?_
    refine pm_callV (ci := 11) (as := [(1, 1000)]) (st := []) hC 0 (fD_X11_lotBelow_0 1000 ⟨by decide, by decide⟩) lm_X11_392 li_X11_lotBelow (by decide) (by decide) rfl rfl rfl (by decide) rfl rfl (Nat.le_of_ble_eq_true rfl) ⟨Nat.le_refl _, Or.inl rfl⟩ dX11_drawAnswer_124 ⟨rfl, hV100⟩ (fun r115 V116 hp117 => ?_)
    obtain ⟨y118, rfl, b119, hV120, hF121, hE122⟩ := hp117
    replace hT := hT.trans (pf_call_eq hE122)
    change pm_J X 127 [(10, (0, y112)), (9, (0, ((y35 * 10) + y47))), (8, (0, w68)), (7, (0, (y59 - 99))), (6, (0, y47)), (5, (0, y35)), (4, (0, y23)), (3, (0, y11)), (0, (3, 0)), (1, (0, a1)), (2, (0, a2))] [(0, y118)] 118 V116
    have hF123 := pm_ff.tr hF103 hF121 (by decide) (by decide)
    have e124 : V116 4 6 = y1 := by rw [hF121 4 6 (by decide) (by decide)]; exact e104
    have e125 : V116 0 8 = 45 := by rw [hF121 0 8 (by decide) (by decide)]; exact e105
    have e126 : V116 45 0 = y5 := by rw [hF121 45 0 (by decide) (by decide)]; exact e106
    have e127 : V116 0 5 = 73 := by rw [hF121 0 5 (by decide) (by decide)]; exact e107
    have e128 : V116 73 14 = y92 := by rw [hF121 73 14 (by decide) (by decide)]; exact e108
    refine pm_aload_n hC 8 (by decide) dX11_drawAnswer_127 rfl ?_
    refine pm_getf (v := 73) hC 0 fl_X11_75 rfl rfl (by decide) rfl e127 dX11_drawAnswer_128 ?_
    refine pm_callV (ci := 10) (as := []) (st := [(0, y118)]) hC 73 fD_X10_chanceNoticed_73 lm_X11_233 li_X10_chanceNoticed (by decide) (by decide) rfl rfl rfl (by decide) rfl rfl (Nat.le_of_ble_eq_true rfl) ⟨Nat.le_refl _, Or.inl rfl⟩ dX11_drawAnswer_131 ⟨rfl, hV120⟩ (fun r129 V130 hp131 => ?_)
    obtain ⟨y132, rfl, b133, rfl, hE134⟩ := hp131
    replace hT := hT.trans (pf_call_eq hE134)
    change pm_J X 134 [(10, (0, y112)), (9, (0, ((y35 * 10) + y47))), (8, (0, w68)), (7, (0, (y59 - 99))), (6, (0, y47)), (5, (0, y35)), (4, (0, y23)), (3, (0, y11)), (0, (3, 0)), (1, (0, a1)), (2, (0, a2))] [(0, y132), (0, y118)] 118 V116
    refine pm_icmp_ge (tgt := 141) hC ⟨by exact ow_79j_146 b119, by exact ow_79j_147 b119⟩ ⟨by exact ow_79j_0 b133, by exact ow_79j_1 b133⟩ dX11_drawAnswer_134 (by decide) (fun c135 => ?_) (fun c135 => ?_)
    · skip
      replace hT := hT.trans (if_pos c135)
      refine pm_iconst (v := 0) hC dX11_drawAnswer_141 ?_
      refine pm_istore (lv' := [(11, (0, 0)), (10, (0, y112)), (9, (0, ((y35 * 10) + y47))), (8, (0, w68)), (7, (0, (y59 - 99))), (6, (0, y47)), (5, (0, y35)), (4, (0, y23)), (3, (0, y11)), (0, (3, 0)), (1, (0, a1)), (2, (0, a2))]) hC dX11_drawAnswer_142 (by decide) rfl ?_
      refine pm_aload_n hC 9 (by decide) dX11_drawAnswer_144 rfl ?_
      have e136 : V116 0 3 = 4 := hV120.one 0 3 (by decide) (by decide) rfl
      refine pm_getf (v := 4) hC 0 fl_X11_24 rfl rfl (by decide) rfl e136 dX11_drawAnswer_145 ?_
      refine pm_iload hC 3 dX11_drawAnswer_148 rfl ?_
      refine pm_iload hC 2 dX11_drawAnswer_150 rfl ?_
      refine pm_iload hC 4 dX11_drawAnswer_152 rfl ?_
      refine pm_iload hC 1 dX11_drawAnswer_154 rfl ?_
      refine pm_iload hC 0 dX11_drawAnswer_156 rfl ?_
      refine pm_callV (ci := 7) (as := [(0, w68), (0, ((y35 * 10) + y47)), (0, (y59 - 99)), (0, y112), (0, 0)]) (st := []) hC 4 (fD_X7_addAnswer_4 w68 ((y35 * 10) + y47) (y59 - 99) y112 0 ⟨by exact ow_79j_135 hw69, by exact ow_79j_136 hw69⟩ ⟨by exact ow_79j_137 b36 b48, by exact ow_79j_138 b36 b48⟩ ⟨by exact ow_79j_139 b60, by exact ow_79j_140 b60⟩ ⟨by exact ow_79j_148 b113, by exact ow_79j_149 b113⟩ ⟨by decide, by decide⟩ (by exact ow_79j_141 hw69)) lm_X11_236 li_X7_addAnswer (by decide) (by decide) rfl rfl rfl (by decide) rfl rfl (Nat.le_of_ble_eq_true rfl) ⟨Nat.le_refl _, Or.inl rfl⟩ dX11_drawAnswer_158 ⟨rfl, hV120⟩ (fun r137 V138 hp139 => ?_)
      obtain ⟨rfl, hV140, hF141, hxp142, hE143⟩ := hp139
      replace hT := hT.trans (pf_call_eq hE143)
      change pm_J X 161 [(11, (0, 0)), (10, (0, y112)), (9, (0, ((y35 * 10) + y47))), (8, (0, w68)), (7, (0, (y59 - 99))), (6, (0, y47)), (5, (0, y35)), (4, (0, y23)), (3, (0, y11)), (0, (3, 0)), (1, (0, a1)), (2, (0, a2))] [] 118 V138
      have hF144 := pm_ff.tr hF123 hF141 (by decide) (by decide)
      have e145 : V138 0 8 = 45 := by rw [hF141 0 8 (by decide) (by decide)]; exact e125
      have e146 : V138 45 0 = y5 := by rw [hF141 45 0 (by decide) (by decide)]; exact e126
      have e147 : V138 0 5 = 73 := by rw [hF141 0 5 (by decide) (by decide)]; exact e127
      have e148 : V138 73 14 = y92 := by rw [hF141 73 14 (by decide) (by decide)]; exact e128
      have e149 : V138 0 3 = 4 := by rw [hF141 0 3 (by decide) (by decide)]; exact e136
      exact pm_vret hC hR ⟨rfl, hV140, hF144, (fun q => by rw [e2] at q; rw [e2]; have q2 := hxp142 (by rw [e124]; exact ow_79j_150 q); rw [e124] at q2; exact ow_79j_151 q2), hT⟩ dX11_drawAnswer_161
    · skip
      replace hT := hT.trans (if_neg (Int.not_le.mpr c135))
      refine pm_iconst (v := 1) hC dX11_drawAnswer_137 ?_
      refine pm_goto (tgt := 142) hC dX11_drawAnswer_138 (by decide) ?_
      refine pm_istore (lv' := [(11, (0, 1)), (10, (0, y112)), (9, (0, ((y35 * 10) + y47))), (8, (0, w68)), (7, (0, (y59 - 99))), (6, (0, y47)), (5, (0, y35)), (4, (0, y23)), (3, (0, y11)), (0, (3, 0)), (1, (0, a1)), (2, (0, a2))]) hC dX11_drawAnswer_142 (by decide) rfl ?_
      refine pm_aload_n hC 9 (by decide) dX11_drawAnswer_144 rfl ?_
      have e150 : V116 0 3 = 4 := hV120.one 0 3 (by decide) (by decide) rfl
      refine pm_getf (v := 4) hC 0 fl_X11_24 rfl rfl (by decide) rfl e150 dX11_drawAnswer_145 ?_
      refine pm_iload hC 3 dX11_drawAnswer_148 rfl ?_
      refine pm_iload hC 2 dX11_drawAnswer_150 rfl ?_
      refine pm_iload hC 4 dX11_drawAnswer_152 rfl ?_
      refine pm_iload hC 1 dX11_drawAnswer_154 rfl ?_
      refine pm_iload hC 0 dX11_drawAnswer_156 rfl ?_
      refine pm_callV (ci := 7) (as := [(0, w68), (0, ((y35 * 10) + y47)), (0, (y59 - 99)), (0, y112), (0, 1)]) (st := []) hC 4 (fD_X7_addAnswer_4 w68 ((y35 * 10) + y47) (y59 - 99) y112 1 ⟨by exact ow_79j_135 hw69, by exact ow_79j_136 hw69⟩ ⟨by exact ow_79j_137 b36 b48, by exact ow_79j_138 b36 b48⟩ ⟨by exact ow_79j_139 b60, by exact ow_79j_140 b60⟩ ⟨by exact ow_79j_148 b113, by exact ow_79j_149 b113⟩ ⟨by decide, by decide⟩ (by exact ow_79j_141 hw69)) lm_X11_236 li_X7_addAnswer (by decide) (by decide) rfl rfl rfl (by decide) rfl rfl (Nat.le_of_ble_eq_true rfl) ⟨Nat.le_refl _, Or.inl rfl⟩ dX11_drawAnswer_158 ⟨rfl, hV120⟩ (fun r151 V152 hp153 => ?_)
      obtain ⟨rfl, hV154, hF155, hxp156, hE157⟩ := hp153
      replace hT := hT.trans (pf_call_eq hE157)
      change pm_J X 161 [(11, (0, 1)), (10, (0, y112)), (9, (0, ((y35 * 10) + y47))), (8, (0, w68)), (7, (0, (y59 - 99))), (6, (0, y47)), (5, (0, y35)), (4, (0, y23)), (3, (0, y11)), (0, (3, 0)), (1, (0, a1)), (2, (0, a2))] [] 118 V152
      have hF158 := pm_ff.tr hF123 hF155 (by decide) (by decide)
      have e159 : V152 0 8 = 45 := by rw [hF155 0 8 (by decide) (by decide)]; exact e125
      have e160 : V152 45 0 = y5 := by rw [hF155 45 0 (by decide) (by decide)]; exact e126
      have e161 : V152 0 5 = 73 := by rw [hF155 0 5 (by decide) (by decide)]; exact e127
      have e162 : V152 73 14 = y92 := by rw [hF155 73 14 (by decide) (by decide)]; exact e128
      have e163 : V152 0 3 = 4 := by rw [hF155 0 3 (by decide) (by decide)]; exact e150
      exact pm_vret hC hR ⟨rfl, hV154, hF158, (fun q => by rw [e2] at q; rw [e2]; have q2 := hxp156 (by rw [e124]; exact ow_79j_150 q); rw [e124] at q2; exact ow_79j_151 q2), hT⟩ dX11_drawAnswer_161
  · skip
    replace hT := hT.trans (if_neg (by rw [e4]; decide))
    refine pm_getf (v := 51) hC 0 fl_X11_35 rfl rfl (by decide) rfl e4 dX11_drawAnswer_2 ?_
    obtain ⟨y164, e165⟩ : ∃ y, V0 51 0 = y := ⟨_, rfl⟩
    have b166 := hV0.get 51 0 (lo := 0) (hi := 9) (by decide) (by decide) rfl
    rw [e165] at b166
    replace hT := hT.trans (pf_let_eq e165)
    refine pm_getf (v := y164) hC 51 fl_X11_136 rfl rfl (by decide) rfl e165 dX11_drawAnswer_5 ?_
    refine pm_i2l hC ⟨by exact ow_79j_121 b166, by exact ow_79j_122 b166⟩ dX11_drawAnswer_8 ?_
    refine pm_callV (ci := 11) (as := [(1, y164)]) (st := []) hC 0 (fD_X11_lotBelow_0 y164 ⟨by exact ow_79j_130 b166, by exact ow_79j_131 b166⟩) lm_X11_392 li_X11_lotBelow (by decide) (by decide) rfl rfl rfl (by decide) rfl rfl (Nat.le_of_ble_eq_true rfl) ⟨Nat.le_refl _, Or.inl rfl⟩ dX11_drawAnswer_9 ⟨rfl, hV0⟩ (fun r167 V168 hp169 => ?_)
    obtain ⟨y170, rfl, b171, hV172, hF173, hE174⟩ := hp169
    replace hT := hT.trans (pf_call_eq hE174)
    change pm_J X 12 [(0, (3, 0)), (1, (0, a1)), (2, (0, a2))] [(0, y170)] 118 V168
    have hF175 := pm_ff.tr (pm_ff.rf (cs := [9, 10, 11, 12, 13, 74, 75, 76, 77]) (fs := [(0, 16), (4, 6), (73, 0), (73, 1), (73, 2), (73, 3), (73, 4), (73, 5), (73, 6), (73, 7), (73, 10), (73, 11), (73, 12), (73, 14)]) (V := V0)) hF173 (by decide) (by decide)
    have e176 : V168 4 6 = y1 := by rw [hF173 4 6 (by decide) (by decide)]; exact e2
    have e177 : V168 0 8 = 51 := by rw [hF173 0 8 (by decide) (by decide)]; exact e4
    have e178 : V168 51 0 = y164 := by rw [hF173 51 0 (by decide) (by decide)]; exact e165
    refine pm_istore_n (lv' := [(3, (0, y170)), (0, (3, 0)), (1, (0, a1)), (2, (0, a2))]) hC dX11_drawAnswer_12 (by decide) rfl ?_
    refine pm_aload_n hC 1 (by decide) dX11_drawAnswer_13 rfl ?_
    refine pm_aload_n hC 1 (by decide) dX11_drawAnswer_14 rfl ?_
    refine pm_getf (v := 51) hC 0 fl_X11_35 rfl rfl (by decide) rfl e177 dX11_drawAnswer_15 ?_
    refine pm_getf (v := y164) hC 51 fl_X11_136 rfl rfl (by decide) rfl e178 dX11_drawAnswer_18 ?_
    refine pm_i2l hC ⟨by exact ow_79j_121 b166, by exact ow_79j_122 b166⟩ dX11_drawAnswer_21 ?_
    refine pm_callV (ci := 11) (as := [(1, y164)]) (st := []) hC 0 (fD_X11_lotBelow_0 y164 ⟨by exact ow_79j_130 b166, by exact ow_79j_131 b166⟩) lm_X11_392 li_X11_lotBelow (by decide) (by decide) rfl rfl rfl (by decide) rfl rfl (Nat.le_of_ble_eq_true rfl) ⟨Nat.le_refl _, Or.inl rfl⟩ dX11_drawAnswer_22 ⟨rfl, hV172⟩ (fun r179 V180 hp181 => ?_)
    obtain ⟨y182, rfl, b183, hV184, hF185, hE186⟩ := hp181
    replace hT := hT.trans (pf_call_eq hE186)
    change pm_J X 25 [(3, (0, y170)), (0, (3, 0)), (1, (0, a1)), (2, (0, a2))] [(0, y182)] 118 V180
    have hF187 := pm_ff.tr hF175 hF185 (by decide) (by decide)
    have e188 : V180 4 6 = y1 := by rw [hF185 4 6 (by decide) (by decide)]; exact e176
    have e189 : V180 0 8 = 51 := by rw [hF185 0 8 (by decide) (by decide)]; exact e177
    have e190 : V180 51 0 = y164 := by rw [hF185 51 0 (by decide) (by decide)]; exact e178
    refine pm_istore (lv' := [(4, (0, y182)), (3, (0, y170)), (0, (3, 0)), (1, (0, a1)), (2, (0, a2))]) hC dX11_drawAnswer_25 (by decide) rfl ?_
    refine pm_aload_n hC 2 (by decide) dX11_drawAnswer_27 rfl ?_
    refine pm_ldc2 (v := 10) hC 5097 dX11_drawAnswer_28 (by decide +kernel) ?_
    refine pm_callV (ci := 11) (as := [(1, 10)]) (st := []) hC 0 (fD_X11_lotBelow_0 10 ⟨by decide, by decide⟩) lm_X11_392 li_X11_lotBelow (by decide) (by decide) rfl rfl rfl (by decide) rfl rfl (Nat.le_of_ble_eq_true rfl) ⟨Nat.le_refl _, Or.inl rfl⟩ dX11_drawAnswer_31 ⟨rfl, hV184⟩ (fun r191 V192 hp193 => ?_)
    obtain ⟨y194, rfl, b195, hV196, hF197, hE198⟩ := hp193
    replace hT := hT.trans (pf_call_eq hE198)
    change pm_J X 34 [(4, (0, y182)), (3, (0, y170)), (0, (3, 0)), (1, (0, a1)), (2, (0, a2))] [(0, y194)] 118 V192
    have hF199 := pm_ff.tr hF187 hF197 (by decide) (by decide)
    have e200 : V192 4 6 = y1 := by rw [hF197 4 6 (by decide) (by decide)]; exact e188
    have e201 : V192 0 8 = 51 := by rw [hF197 0 8 (by decide) (by decide)]; exact e189
    have e202 : V192 51 0 = y164 := by rw [hF197 51 0 (by decide) (by decide)]; exact e190
    refine pm_istore (lv' := [(5, (0, y194)), (4, (0, y182)), (3, (0, y170)), (0, (3, 0)), (1, (0, a1)), (2, (0, a2))]) hC dX11_drawAnswer_34 (by decide) rfl ?_
    refine pm_aload_n hC 3 (by decide) dX11_drawAnswer_36 rfl ?_
    refine pm_ldc2 (v := 10) hC 5097 dX11_drawAnswer_37 (by decide +kernel) ?_
    refine pm_callV (ci := 11) (as := [(1, 10)]) (st := []) hC 0 (fD_X11_lotBelow_0 10 ⟨by decide, by decide⟩) lm_X11_392 li_X11_lotBelow (by decide) (by decide) rfl rfl rfl (by decide) rfl rfl (Nat.le_of_ble_eq_true rfl) ⟨Nat.le_refl _, Or.inl rfl⟩ dX11_drawAnswer_40 ⟨rfl, hV196⟩ (fun r203 V204 hp205 => ?_)
    obtain ⟨y206, rfl, b207, hV208, hF209, hE210⟩ := hp205
    replace hT := hT.trans (pf_call_eq hE210)
    change pm_J X 43 [(5, (0, y194)), (4, (0, y182)), (3, (0, y170)), (0, (3, 0)), (1, (0, a1)), (2, (0, a2))] [(0, y206)] 118 V204
    have hF211 := pm_ff.tr hF199 hF209 (by decide) (by decide)
    have e212 : V204 4 6 = y1 := by rw [hF209 4 6 (by decide) (by decide)]; exact e200
    have e213 : V204 0 8 = 51 := by rw [hF209 0 8 (by decide) (by decide)]; exact e201
    have e214 : V204 51 0 = y164 := by rw [hF209 51 0 (by decide) (by decide)]; exact e202
    refine pm_istore (lv' := [(6, (0, y206)), (5, (0, y194)), (4, (0, y182)), (3, (0, y170)), (0, (3, 0)), (1, (0, a1)), (2, (0, a2))]) hC dX11_drawAnswer_43 (by decide) rfl ?_
    refine pm_aload_n hC 4 (by decide) dX11_drawAnswer_45 rfl ?_
    refine pm_ldc2 (v := 199) hC 5098 dX11_drawAnswer_46 (by decide +kernel) ?_
    refine pm_callV (ci := 11) (as := [(1, 199)]) (st := []) hC 0 (fD_X11_lotBelow_0 199 ⟨by decide, by decide⟩) lm_X11_392 li_X11_lotBelow (by decide) (by decide) rfl rfl rfl (by decide) rfl rfl (Nat.le_of_ble_eq_true rfl) ⟨Nat.le_refl _, Or.inl rfl⟩ dX11_drawAnswer_49 ⟨rfl, hV208⟩ (fun r215 V216 hp217 => ?_)
    obtain ⟨y218, rfl, b219, hV220, hF221, hE222⟩ := hp217
    replace hT := hT.trans (pf_call_eq hE222)
    change pm_J X 52 [(6, (0, y206)), (5, (0, y194)), (4, (0, y182)), (3, (0, y170)), (0, (3, 0)), (1, (0, a1)), (2, (0, a2))] [(0, y218)] 118 V216
    have hF223 := pm_ff.tr hF211 hF221 (by decide) (by decide)
    have e224 : V216 4 6 = y1 := by rw [hF221 4 6 (by decide) (by decide)]; exact e212
    have e225 : V216 0 8 = 51 := by rw [hF221 0 8 (by decide) (by decide)]; exact e213
    have e226 : V216 51 0 = y164 := by rw [hF221 51 0 (by decide) (by decide)]; exact e214
    refine pm_bipush (v := 99) hC dX11_drawAnswer_52 (by decide) ?_
    refine pm_isub hC dX11_drawAnswer_54 ?_
    refine pm_istore (lv' := [(7, (0, (y218 - 99))), (6, (0, y206)), (5, (0, y194)), (4, (0, y182)), (3, (0, y170)), (0, (3, 0)), (1, (0, a1)), (2, (0, a2))]) hC dX11_drawAnswer_55 (by decide) rfl ?_
    refine pm_iload_n hC 7 dX11_drawAnswer_57 rfl ?_
    refine pm_bipush (v := 100) hC dX11_drawAnswer_58 (by decide) ?_
    refine pm_imul hC dX11_drawAnswer_60 ?_
    refine pm_iload_n hC 4 dX11_drawAnswer_61 rfl ?_
    refine pm_bipush (v := 10) hC dX11_drawAnswer_62 (by decide) ?_
    refine pm_imul hC dX11_drawAnswer_64 ?_
    refine pm_iadd hC dX11_drawAnswer_65 ?_
    refine pm_iload hC 3 dX11_drawAnswer_66 rfl ?_
    refine pm_iadd hC dX11_drawAnswer_68 ?_
    have hw228 := pm_dig3 (p := a2) (v := y170) (f := y182) ⟨by exact ow_79j_36 h1, by exact ow_79j_132 h1⟩ ⟨by exact ow_79j_133 b171, by exact ow_79j_134 b166 b171⟩ ⟨by exact ow_79j_133 b183, by exact ow_79j_134 b166 b183⟩
    obtain ⟨w227, hew227⟩ : ∃ z, (((a2 * 100) + (y170 * 10)) + y182) = z := ⟨_, rfl⟩
    rw [hew227] at hw228 ⊢
    replace hT := hT.trans (pf_let_eq hew227)
    clear hew227
    refine pm_istore (lv' := [(8, (0, w227)), (7, (0, (y218 - 99))), (6, (0, y206)), (5, (0, y194)), (4, (0, y182)), (3, (0, y170)), (0, (3, 0)), (1, (0, a1)), (2, (0, a2))]) hC dX11_drawAnswer_69 (by decide) rfl ?_
    refine pm_iload hC 3 dX11_drawAnswer_71 rfl ?_
    refine pm_bipush (v := 10) hC dX11_drawAnswer_73 (by decide) ?_
    refine pm_imul hC dX11_drawAnswer_75 ?_
    refine pm_iload hC 2 dX11_drawAnswer_76 rfl ?_
    refine pm_iadd hC dX11_drawAnswer_78 ?_
    refine pm_istore (lv' := [(9, (0, ((y194 * 10) + y206))), (8, (0, w227)), (7, (0, (y218 - 99))), (6, (0, y206)), (5, (0, y194)), (4, (0, y182)), (3, (0, y170)), (0, (3, 0)), (1, (0, a1)), (2, (0, a2))]) hC dX11_drawAnswer_79 (by decide) rfl ?_
    refine pm_aload_n hC 7 (by decide) dX11_drawAnswer_81 rfl ?_
    refine pm_iload hC 1 dX11_drawAnswer_82 rfl ?_
    refine pm_iload hC 0 dX11_drawAnswer_84 rfl ?_
    refine pm_iload hC 2 dX11_drawAnswer_86 rfl ?_
    refine pm_callV (ci := 11) (as := [(0, w227), (0, ((y194 * 10) + y206)), (0, (y218 - 99))]) (st := []) hC 0 (fD_X11_pose_0 w227 ((y194 * 10) + y206) (y218 - 99) ⟨by exact ow_79j_135 hw228, by exact ow_79j_136 hw228⟩ ⟨by exact ow_79j_137 b195 b207, by exact ow_79j_138 b195 b207⟩ ⟨by exact ow_79j_139 b219, by exact ow_79j_140 b219⟩ (by exact ow_79j_141 hw228)) lm_X11_229 li_X11_pose (by decide) (by decide) rfl rfl rfl (by decide) rfl rfl (Nat.le_of_ble_eq_true rfl) ⟨Nat.le_refl _, Or.inl rfl⟩ dX11_drawAnswer_88 ⟨rfl, hV220⟩ (fun r229 V230 hp231 => ?_)
    obtain ⟨rfl, hV232, hF233, hE234⟩ := hp231
    replace hT := hT.trans (pf_call_eq hE234)
    change pm_J X 91 [(9, (0, ((y194 * 10) + y206))), (8, (0, w227)), (7, (0, (y218 - 99))), (6, (0, y206)), (5, (0, y194)), (4, (0, y182)), (3, (0, y170)), (0, (3, 0)), (1, (0, a1)), (2, (0, a2))] [] 118 V230
    have hF235 := pm_ff.tr hF223 hF233 (by decide) (by decide)
    have e236 : V230 4 6 = y1 := by rw [hF233 4 6 (by decide) (by decide)]; exact e224
    have e237 : V230 0 8 = 51 := by rw [hF233 0 8 (by decide) (by decide)]; exact e225
    have e238 : V230 51 0 = y164 := by rw [hF233 51 0 (by decide) (by decide)]; exact e226
    refine pm_aload_n hC 7 (by decide) dX11_drawAnswer_91 rfl ?_
    have e239 : V230 0 5 = 73 := hV232.one 0 5 (by decide) (by decide) rfl
    refine pm_getf (v := 73) hC 0 fl_X11_75 rfl rfl (by decide) rfl e239 dX11_drawAnswer_92 ?_
    refine pm_iload_n hC 8 dX11_drawAnswer_95 rfl ?_
    refine pm_callV (ci := 10) (as := [(0, a1)]) (st := []) hC 73 (fD_X10_weigh_73 a1 ⟨by exact ow_79j_0 h0, by exact ow_79j_1 h0⟩) lm_X11_294 li_X10_weigh (by decide) (by decide) rfl rfl rfl (by decide) rfl rfl (Nat.le_of_ble_eq_true rfl) ⟨Nat.le_refl _, Or.inl rfl⟩ dX11_drawAnswer_96 ⟨rfl, hV232⟩ (fun r240 V241 hp242 => ?_)
    obtain ⟨rfl, hV243, hF244, hE245⟩ := hp242
    replace hT := hT.trans (pf_call_eq hE245)
    change pm_J X 99 [(9, (0, ((y194 * 10) + y206))), (8, (0, w227)), (7, (0, (y218 - 99))), (6, (0, y206)), (5, (0, y194)), (4, (0, y182)), (3, (0, y170)), (0, (3, 0)), (1, (0, a1)), (2, (0, a2))] [] 118 V241
    have hF246 := pm_ff.tr hF235 hF244 (by decide) (by decide)
    have e247 : V241 4 6 = y1 := by rw [hF244 4 6 (by decide) (by decide)]; exact e236
    have e248 : V241 0 8 = 51 := by rw [hF244 0 8 (by decide) (by decide)]; exact e237
    have e249 : V241 51 0 = y164 := by rw [hF244 51 0 (by decide) (by decide)]; exact e238
    have e250 : V241 0 5 = 73 := by rw [hF244 0 5 (by decide) (by decide)]; exact e239
    refine pm_aload_n hC 7 (by decide) dX11_drawAnswer_99 rfl ?_
    refine pm_getf (v := 73) hC 0 fl_X11_75 rfl rfl (by decide) rfl e250 dX11_drawAnswer_100 ?_
    refine pm_aload_n hC 7 (by decide) dX11_drawAnswer_103 rfl ?_
    refine pm_aload_n hC 7 (by decide) dX11_drawAnswer_104 rfl ?_
    refine pm_getf (v := 73) hC 0 fl_X11_75 rfl rfl (by decide) rfl e250 dX11_drawAnswer_105 ?_
    obtain ⟨y251, e252⟩ : ∃ y, V241 73 14 = y := ⟨_, rfl⟩
    have b253 := hV243.get 73 14 (lo := (-9223372036854775808)) (hi := 9223372036854775807) (by decide) (by decide) rfl
    rw [e252] at b253
    replace hT := hT.trans (pf_let_eq e252)
    refine pm_getf (v := y251) hC 73 fl_X11_205 rfl rfl (by decide) rfl e252 dX11_drawAnswer_108 ?_
    refine pm_callV (ci := 11) (as := [(1, y251)]) (st := [(3, 73)]) hC 0 (fD_X11_lotBelow_0 y251 ⟨by exact ow_79j_6 b253, by exact ow_79j_7 b253⟩) lm_X11_392 li_X11_lotBelow (by decide) (by decide) rfl rfl rfl (by decide) rfl rfl (Nat.le_of_ble_eq_true rfl) ⟨Nat.le_refl _, Or.inl rfl⟩ dX11_drawAnswer_111 ⟨rfl, hV243⟩ (fun r254 V255 hp256 => ?_)
    obtain ⟨y257, rfl, b258, hV259, hF260, hE261⟩ := hp256
    replace hT := hT.trans (pf_call_eq hE261)
    change pm_J X 114 [(9, (0, ((y194 * 10) + y206))), (8, (0, w227)), (7, (0, (y218 - 99))), (6, (0, y206)), (5, (0, y194)), (4, (0, y182)), (3, (0, y170)), (0, (3, 0)), (1, (0, a1)), (2, (0, a2))] [(0, y257), (3, 73)] 118 V255
    have hF262 := pm_ff.tr hF246 hF260 (by decide) (by decide)
    have e263 : V255 4 6 = y1 := by rw [hF260 4 6 (by decide) (by decide)]; exact e247
    have e264 : V255 0 8 = 51 := by rw [hF260 0 8 (by decide) (by decide)]; exact e248
    have e265 : V255 51 0 = y164 := by rw [hF260 51 0 (by decide) (by decide)]; exact e249
    have e266 : V255 0 5 = 73 := by rw [hF260 0 5 (by decide) (by decide)]; exact e250
    have e267 : V255 73 14 = y251 := by rw [hF260 73 14 (by decide) (by decide)]; exact e252
    refine pm_i2l hC ⟨by exact ow_79j_142 b258, by exact ow_79j_143 b258⟩ dX11_drawAnswer_114 ?_
    refine pm_callV (ci := 10) (as := [(1, y257)]) (st := []) hC 73 (fD_X10_saidAt_73 y257 ⟨by exact ow_79j_144 b258, by exact ow_79j_145 b258⟩) lm_X11_400 li_X10_saidAt (by decide) (by decide) rfl rfl rfl (by decide) rfl rfl (Nat.le_of_ble_eq_true rfl) ⟨Nat.le_refl _, Or.inl rfl⟩ dX11_drawAnswer_115 ⟨rfl, hV259⟩ (fun r268 V269 hp270 => ?_)
    obtain ⟨y271, rfl, b272, rfl, hE273⟩ := hp270
    replace hT := hT.trans (pf_call_eq hE273)
    change pm_J X 118 [(9, (0, ((y194 * 10) + y206))), (8, (0, w227)), (7, (0, (y218 - 99))), (6, (0, y206)), (5, (0, y194)), (4, (0, y182)), (3, (0, y170)), (0, (3, 0)), (1, (0, a1)), (2, (0, a2))] [(0, y271)] 118 V255
    refine pm_istore (lv' := [(10, (0, y271)), (9, (0, ((y194 * 10) + y206))), (8, (0, w227)), (7, (0, (y218 - 99))), (6, (0, y206)), (5, (0, y194)), (4, (0, y182)), (3, (0, y170)), (0, (3, 0)), (1, (0, a1)), (2, (0, a2))]) hC dX11_drawAnswer_118 (by decide) rfl ?_
    refine pm_aload_n hC 8 (by decide) dX11_drawAnswer_120 rfl ?_
    refine pm_ldc2 (v := 1000) hC 4082 dX11_drawAnswer_121 (by decide +kernel) ?_
    refine pm_callV (ci := 11) (as := [(1, 1000)]) (st := []) hC 0 (fD_X11_lotBelow_0 1000 ⟨by decide, by decide⟩) lm_X11_392 li_X11_lotBelow (by decide) (by decide) rfl rfl rfl (by decide) rfl rfl (Nat.le_of_ble_eq_true rfl) ⟨Nat.le_refl _, Or.inl rfl⟩ dX11_drawAnswer_124 ⟨rfl, hV259⟩ (fun r274 V275 hp276 => ?_)
    obtain ⟨y277, rfl, b278, hV279, hF280, hE281⟩ := hp276
    replace hT := hT.trans (pf_call_eq hE281)
    change pm_J X 127 [(10, (0, y271)), (9, (0, ((y194 * 10) + y206))), (8, (0, w227)), (7, (0, (y218 - 99))), (6, (0, y206)), (5, (0, y194)), (4, (0, y182)), (3, (0, y170)), (0, (3, 0)), (1, (0, a1)), (2, (0, a2))] [(0, y277)] 118 V275
    have hF282 := pm_ff.tr hF262 hF280 (by decide) (by decide)
    have e283 : V275 4 6 = y1 := by rw [hF280 4 6 (by decide) (by decide)]; exact e263
    have e284 : V275 0 8 = 51 := by rw [hF280 0 8 (by decide) (by decide)]; exact e264
    have e285 : V275 51 0 = y164 := by rw [hF280 51 0 (by decide) (by decide)]; exact e265
    have e286 : V275 0 5 = 73 := by rw [hF280 0 5 (by decide) (by decide)]; exact e266
    have e287 : V275 73 14 = y251 := by rw [hF280 73 14 (by decide) (by decide)]; exact e267
    refine pm_aload_n hC 8 (by decide) dX11_drawAnswer_127 rfl ?_
    refine pm_getf (v := 73) hC 0 fl_X11_75 rfl rfl (by decide) rfl e286 dX11_drawAnswer_128 ?_
    refine pm_callV (ci := 10) (as := []) (st := [(0, y277)]) hC 73 fD_X10_chanceNoticed_73 lm_X11_233 li_X10_chanceNoticed (by decide) (by decide) rfl rfl rfl (by decide) rfl rfl (Nat.le_of_ble_eq_true rfl) ⟨Nat.le_refl _, Or.inl rfl⟩ dX11_drawAnswer_131 ⟨rfl, hV279⟩ (fun r288 V289 hp290 => ?_)
    obtain ⟨y291, rfl, b292, rfl, hE293⟩ := hp290
    replace hT := hT.trans (pf_call_eq hE293)
    change pm_J X 134 [(10, (0, y271)), (9, (0, ((y194 * 10) + y206))), (8, (0, w227)), (7, (0, (y218 - 99))), (6, (0, y206)), (5, (0, y194)), (4, (0, y182)), (3, (0, y170)), (0, (3, 0)), (1, (0, a1)), (2, (0, a2))] [(0, y291), (0, y277)] 118 V275
    refine pm_icmp_ge (tgt := 141) hC ⟨by exact ow_79j_146 b278, by exact ow_79j_147 b278⟩ ⟨by exact ow_79j_0 b292, by exact ow_79j_1 b292⟩ dX11_drawAnswer_134 (by decide) (fun c294 => ?_) (fun c294 => ?_)
    · skip
      replace hT := hT.trans (if_pos c294)
      refine pm_iconst (v := 0) hC dX11_drawAnswer_141 ?_
      refine pm_istore (lv' := [(11, (0, 0)), (10, (0, y271)), (9, (0, ((y194 * 10) + y206))), (8, (0, w227)), (7, (0, (y218 - 99))), (6, (0, y206)), (5, (0, y194)), (4, (0, y182)), (3, (0, y170)), (0, (3, 0)), (1, (0, a1)), (2, (0, a2))]) hC dX11_drawAnswer_142 (by decide) rfl ?_
      refine pm_aload_n hC 9 (by decide) dX11_drawAnswer_144 rfl ?_
      have e295 : V275 0 3 = 4 := hV279.one 0 3 (by decide) (by decide) rfl
      refine pm_getf (v := 4) hC 0 fl_X11_24 rfl rfl (by decide) rfl e295 dX11_drawAnswer_145 ?_
      refine pm_iload hC 3 dX11_drawAnswer_148 rfl ?_
      refine pm_iload hC 2 dX11_drawAnswer_150 rfl ?_
      refine pm_iload hC 4 dX11_drawAnswer_152 rfl ?_
      refine pm_iload hC 1 dX11_drawAnswer_154 rfl ?_
      refine pm_iload hC 0 dX11_drawAnswer_156 rfl ?_
      refine pm_callV (ci := 7) (as := [(0, w227), (0, ((y194 * 10) + y206)), (0, (y218 - 99)), (0, y271), (0, 0)]) (st := []) hC 4 (fD_X7_addAnswer_4 w227 ((y194 * 10) + y206) (y218 - 99) y271 0 ⟨by exact ow_79j_135 hw228, by exact ow_79j_136 hw228⟩ ⟨by exact ow_79j_137 b195 b207, by exact ow_79j_138 b195 b207⟩ ⟨by exact ow_79j_139 b219, by exact ow_79j_140 b219⟩ ⟨by exact ow_79j_148 b272, by exact ow_79j_149 b272⟩ ⟨by decide, by decide⟩ (by exact ow_79j_141 hw228)) lm_X11_236 li_X7_addAnswer (by decide) (by decide) rfl rfl rfl (by decide) rfl rfl (Nat.le_of_ble_eq_true rfl) ⟨Nat.le_refl _, Or.inl rfl⟩ dX11_drawAnswer_158 ⟨rfl, hV279⟩ (fun r296 V297 hp298 => ?_)
      obtain ⟨rfl, hV299, hF300, hxp301, hE302⟩ := hp298
      replace hT := hT.trans (pf_call_eq hE302)
      change pm_J X 161 [(11, (0, 0)), (10, (0, y271)), (9, (0, ((y194 * 10) + y206))), (8, (0, w227)), (7, (0, (y218 - 99))), (6, (0, y206)), (5, (0, y194)), (4, (0, y182)), (3, (0, y170)), (0, (3, 0)), (1, (0, a1)), (2, (0, a2))] [] 118 V297
      have hF303 := pm_ff.tr hF282 hF300 (by decide) (by decide)
      have e304 : V297 0 8 = 51 := by rw [hF300 0 8 (by decide) (by decide)]; exact e284
      have e305 : V297 51 0 = y164 := by rw [hF300 51 0 (by decide) (by decide)]; exact e285
      have e306 : V297 0 5 = 73 := by rw [hF300 0 5 (by decide) (by decide)]; exact e286
      have e307 : V297 73 14 = y251 := by rw [hF300 73 14 (by decide) (by decide)]; exact e287
      have e308 : V297 0 3 = 4 := by rw [hF300 0 3 (by decide) (by decide)]; exact e295
      exact pm_vret hC hR ⟨rfl, hV299, hF303, (fun q => by rw [e2] at q; rw [e2]; have q2 := hxp301 (by rw [e283]; exact ow_79j_150 q); rw [e283] at q2; exact ow_79j_151 q2), hT⟩ dX11_drawAnswer_161
    · skip
      replace hT := hT.trans (if_neg (Int.not_le.mpr c294))
      refine pm_iconst (v := 1) hC dX11_drawAnswer_137 ?_
      refine pm_goto (tgt := 142) hC dX11_drawAnswer_138 (by decide) ?_
      refine pm_istore (lv' := [(11, (0, 1)), (10, (0, y271)), (9, (0, ((y194 * 10) + y206))), (8, (0, w227)), (7, (0, (y218 - 99))), (6, (0, y206)), (5, (0, y194)), (4, (0, y182)), (3, (0, y170)), (0, (3, 0)), (1, (0, a1)), (2, (0, a2))]) hC dX11_drawAnswer_142 (by decide) rfl ?_
      refine pm_aload_n hC 9 (by decide) dX11_drawAnswer_144 rfl ?_
      have e309 : V275 0 3 = 4 := hV279.one 0 3 (by decide) (by decide) rfl
      refine pm_getf (v := 4) hC 0 fl_X11_24 rfl rfl (by decide) rfl e309 dX11_drawAnswer_145 ?_
      refine pm_iload hC 3 dX11_drawAnswer_148 rfl ?_
      refine pm_iload hC 2 dX11_drawAnswer_150 rfl ?_
      refine pm_iload hC 4 dX11_drawAnswer_152 rfl ?_
      refine pm_iload hC 1 dX11_drawAnswer_154 rfl ?_
      refine pm_iload hC 0 dX11_drawAnswer_156 rfl ?_
      refine pm_callV (ci := 7) (as := [(0, w227), (0, ((y194 * 10) + y206)), (0, (y218 - 99)), (0, y271), (0, 1)]) (st := []) hC 4 (fD_X7_addAnswer_4 w227 ((y194 * 10) + y206) (y218 - 99) y271 1 ⟨by exact ow_79j_135 hw228, by exact ow_79j_136 hw228⟩ ⟨by exact ow_79j_137 b195 b207, by exact ow_79j_138 b195 b207⟩ ⟨by exact ow_79j_139 b219, by exact ow_79j_140 b219⟩ ⟨by exact ow_79j_148 b272, by exact ow_79j_149 b272⟩ ⟨by decide, by decide⟩ (by exact ow_79j_141 hw228)) lm_X11_236 li_X7_addAnswer (by decide) (by decide) rfl rfl rfl (by decide) rfl rfl (Nat.le_of_ble_eq_true rfl) ⟨Nat.le_refl _, Or.inl rfl⟩ dX11_drawAnswer_158 ⟨rfl, hV279⟩ (fun r310 V311 hp312 => ?_)
      obtain ⟨rfl, hV313, hF314, hxp315, hE316⟩ := hp312
      replace hT := hT.trans (pf_call_eq hE316)
      change pm_J X 161 [(11, (0, 1)), (10, (0, y271)), (9, (0, ((y194 * 10) + y206))), (8, (0, w227)), (7, (0, (y218 - 99))), (6, (0, y206)), (5, (0, y194)), (4, (0, y182)), (3, (0, y170)), (0, (3, 0)), (1, (0, a1)), (2, (0, a2))] [] 118 V311
      have hF317 := pm_ff.tr hF282 hF314 (by decide) (by decide)
      have e318 : V311 0 8 = 51 := by rw [hF314 0 8 (by decide) (by decide)]; exact e284
      have e319 : V311 51 0 = y164 := by rw [hF314 51 0 (by decide) (by decide)]; exact e285
      have e320 : V311 0 5 = 73 := by rw [hF314 0 5 (by decide) (by decide)]; exact e286
      have e321 : V311 73 14 = y251 := by rw [hF314 73 14 (by decide) (by decide)]; exact e287
      have e322 : V311 0 3 = 4 := by rw [hF314 0 3 (by decide) (by decide)]; exact e309
      exact pm_vret hC hR ⟨rfl, hV313, hF317, (fun q => by rw [e2] at q; rw [e2]; have q2 := hxp315 (by rw [e283]; exact ow_79j_150 q); rw [e283] at q2; exact ow_79j_151 q2), hT⟩ dX11_drawAnswer_161
set_option maxHeartbeats 4000000 in
set_option maxRecDepth 100000 in
theorem fD_X11_draw_0 (a1 a2 a3 a4 : Int) (h0 : (-2147483648) ≤ a1 ∧ a1 ≤ 2147483647) (h1 : (-2147483648) ≤ a2 ∧ a2 ≤ 2147483647) (h2 : (-2147483648) ≤ a3 ∧ a3 ≤ 2147483647) (h3 : (-2147483648) ≤ a4 ∧ a4 ≤ 2147483647) : pm_K 6 yX11_draw cX11_draw 7 (some .int) (fun av V => av = [(3, 0), (0, a1), (0, a2), (0, a3), (0, a4)] ∧ pm_ok 0 90 V) (fun _ V r V' => ∃ y, r = some (0, y) ∧ ((-1) ≤ y ∧ y ≤ 60) ∧ pm_ok 0 90 V' ∧ pm_ff [9, 10, 11, 12, 13, 74, 75, 76, 77] [(0, 16), (4, 6), (73, 0), (73, 1), (73, 2), (73, 3), (73, 4), (73, 5), (73, 6), (73, 7), (73, 10), (73, 11), (73, 12), (73, 14)] V V' ∧ ((y = -1 ∧ V' = V) ∨ (0 ≤ y ∧ y = V 4 6 + a4 ∧ V' 4 6 = V 4 6 + a4)) ∧ F_X11_draw a1 a2 a3 a4 V = (y, V')) := by
  refine pm_MT.of (by decide) ⟨Nat.le_refl _, by decide⟩ (fun av V h => by rw [h.1]; exact (by decide : pm_words [(3, 0), (0, 0), (0, 0), (0, 0), (0, 0)] ≤ 7)) ?_
  rintro X av V0 hC - hR ⟨rfl, hV0⟩
  change pm_J X 0 [(0, (3, 0)), (1, (0, a1)), (2, (0, a2)), (3, (0, a3)), (4, (0, a4))] [] 118 V0
  have hT := F_X11_draw_eq a1 a2 a3 a4 V0
  obtain ⟨y1, e2⟩ : ∃ y, V0 4 6 = y := ⟨_, rfl⟩
  have b3 := hV0.get 4 6 (lo := 0) (hi := 60) (by decide) (by decide) rfl
  rw [e2] at b3
  replace hT := hT.trans (pf_let_eq e2)
  refine pm_iload_n hC 1 dX11_draw_0 rfl ?_
  refine pm_callS (as := [(0, a1)]) (st := []) hC (fD_X11_isLaw a1 ⟨by exact ow_79j_0 h0, by exact ow_79j_1 h0⟩) lm_X11_262 ls_X11_isLaw (by decide) (by decide) rfl rfl (Nat.le_of_ble_eq_true rfl) ⟨Nat.le_refl _, Or.inl rfl⟩ dX11_draw_1 ⟨rfl, hV0⟩ (fun r4 V5 hp6 => ?_)
  obtain ⟨y7, rfl, b8, rfl, hE9⟩ := hp6
  replace hT := hT.trans (pf_call_eq hE9)
  change pm_J X 4 [(0, (3, 0)), (1, (0, a1)), (2, (0, a2)), (3, (0, a3)), (4, (0, a4))] [(0, y7)] 118 V0
  refine pm_if_eq (tgt := 30) hC ⟨by exact ow_79j_152 b8, by exact ow_79j_153 b8⟩ dX11_draw_4 (by decide) (fun c10 => ?_) (fun c10 => ?_)
  · skip
    replace hT := hT.trans (if_pos c10)
    refine pm_iconst (v := 0) hC dX11_draw_30 ?_
    refine pm_istore (lv' := [(5, (0, 0)), (0, (3, 0)), (1, (0, a1)), (2, (0, a2)), (3, (0, a3)), (4, (0, a4))]) hC dX11_draw_31 (by decide) rfl ?_
    refine pm_iload hC 0 dX11_draw_33 rfl ?_
    refine pm_if_eq (tgt := 66) hC ⟨by decide, by decide⟩ dX11_draw_35 (by decide) (fun c11 => ?_) (fun c11 => ?_)
    · skip
      refine pm_iconst (v := (-1)) hC dX11_draw_66 ?_
      exact pm_iret hC hR pm_nar0 ⟨(-1), rfl, ⟨by exact ow_79j_87, by exact ow_79j_154⟩, hV0, (pm_ff.rf (cs := [9, 10, 11, 12, 13, 74, 75, 76, 77]) (fs := [(0, 16), (4, 6), (73, 0), (73, 1), (73, 2), (73, 3), (73, 4), (73, 5), (73, 6), (73, 7), (73, 10), (73, 11), (73, 12), (73, 14)]) (V := V0)), (Or.inl ⟨rfl, rfl⟩), hT⟩ dX11_draw_67
    · skip
      exfalso; exact ow_79j_155 c11
  · skip
    replace hT := hT.trans (if_neg c10)
    refine pm_aload_n hC 0 (by decide) dX11_draw_7 rfl ?_
    refine pm_iload_n hC 2 dX11_draw_8 rfl ?_
    refine pm_callV (ci := 11) (as := [(0, a2)]) (st := []) hC 0 (fD_X11_isPerson_0 a2 ⟨by exact ow_79j_0 h1, by exact ow_79j_1 h1⟩) lm_X11_183 li_X11_isPerson (by decide) (by decide) rfl rfl rfl (by decide) rfl rfl (Nat.le_of_ble_eq_true rfl) ⟨Nat.le_refl _, Or.inl rfl⟩ dX11_draw_9 ⟨rfl, hV0⟩ (fun r12 V13 hp14 => ?_)
    obtain ⟨y15, rfl, b16, rfl, hE17⟩ := hp14
    replace hT := hT.trans (pf_call_eq hE17)
    change pm_J X 12 [(0, (3, 0)), (1, (0, a1)), (2, (0, a2)), (3, (0, a3)), (4, (0, a4))] [(0, y15)] 118 V0
    refine pm_if_eq (tgt := 30) hC ⟨by exact ow_79j_156 b16, by exact ow_79j_157 b16⟩ dX11_draw_12 (by decide) (fun c18 => ?_) (fun c18 => ?_)
    · skip
      replace hT := hT.trans (if_pos c18)
      refine pm_iconst (v := 0) hC dX11_draw_30 ?_
      refine pm_istore (lv' := [(5, (0, 0)), (0, (3, 0)), (1, (0, a1)), (2, (0, a2)), (3, (0, a3)), (4, (0, a4))]) hC dX11_draw_31 (by decide) rfl ?_
      refine pm_iload hC 0 dX11_draw_33 rfl ?_
      refine pm_if_eq (tgt := 66) hC ⟨by decide, by decide⟩ dX11_draw_35 (by decide) (fun c19 => ?_) (fun c19 => ?_)
      · skip
        refine pm_iconst (v := (-1)) hC dX11_draw_66 ?_
        exact pm_iret hC hR pm_nar0 ⟨(-1), rfl, ⟨by exact ow_79j_87, by exact ow_79j_154⟩, hV0, (pm_ff.rf (cs := [9, 10, 11, 12, 13, 74, 75, 76, 77]) (fs := [(0, 16), (4, 6), (73, 0), (73, 1), (73, 2), (73, 3), (73, 4), (73, 5), (73, 6), (73, 7), (73, 10), (73, 11), (73, 12), (73, 14)]) (V := V0)), (Or.inl ⟨rfl, rfl⟩), hT⟩ dX11_draw_67
      · skip
        exfalso; exact ow_79j_155 c19
    · skip
      replace hT := hT.trans (if_neg c18)
      refine pm_iload_n hC 3 dX11_draw_15 rfl ?_
      refine pm_if_lt (tgt := 30) hC ⟨by exact ow_79j_0 h2, by exact ow_79j_1 h2⟩ dX11_draw_16 (by decide) (fun c20 => ?_) (fun c20 => ?_)
      · skip
        replace hT := hT.trans (if_pos c20)
        refine pm_iconst (v := 0) hC dX11_draw_30 ?_
        refine pm_istore (lv' := [(5, (0, 0)), (0, (3, 0)), (1, (0, a1)), (2, (0, a2)), (3, (0, a3)), (4, (0, a4))]) hC dX11_draw_31 (by decide) rfl ?_
        refine pm_iload hC 0 dX11_draw_33 rfl ?_
        refine pm_if_eq (tgt := 66) hC ⟨by decide, by decide⟩ dX11_draw_35 (by decide) (fun c21 => ?_) (fun c21 => ?_)
        · skip
          refine pm_iconst (v := (-1)) hC dX11_draw_66 ?_
          exact pm_iret hC hR pm_nar0 ⟨(-1), rfl, ⟨by exact ow_79j_87, by exact ow_79j_154⟩, hV0, (pm_ff.rf (cs := [9, 10, 11, 12, 13, 74, 75, 76, 77]) (fs := [(0, 16), (4, 6), (73, 0), (73, 1), (73, 2), (73, 3), (73, 4), (73, 5), (73, 6), (73, 7), (73, 10), (73, 11), (73, 12), (73, 14)]) (V := V0)), (Or.inl ⟨rfl, rfl⟩), hT⟩ dX11_draw_67
        · skip
          exfalso; exact ow_79j_155 c21
      · skip
        replace hT := hT.trans (if_neg (Int.not_lt.mpr c20))
        refine pm_iload_n hC 3 dX11_draw_19 rfl ?_
        refine pm_ldcw (v := 1000000) hC 5084 dX11_draw_20 (by decide +kernel) ?_
        refine pm_icmp_gt (tgt := 30) hC ⟨by exact ow_79j_158 c20, by exact ow_79j_1 h2⟩ ⟨by decide, by decide⟩ dX11_draw_23 (by decide) (fun c22 => ?_) (fun c22 => ?_)
        · skip
          replace hT := hT.trans (if_pos c22)
          refine pm_iconst (v := 0) hC dX11_draw_30 ?_
          refine pm_istore (lv' := [(5, (0, 0)), (0, (3, 0)), (1, (0, a1)), (2, (0, a2)), (3, (0, a3)), (4, (0, a4))]) hC dX11_draw_31 (by decide) rfl ?_
          refine pm_iload hC 0 dX11_draw_33 rfl ?_
          refine pm_if_eq (tgt := 66) hC ⟨by decide, by decide⟩ dX11_draw_35 (by decide) (fun c23 => ?_) (fun c23 => ?_)
          · skip
            refine pm_iconst (v := (-1)) hC dX11_draw_66 ?_
            exact pm_iret hC hR pm_nar0 ⟨(-1), rfl, ⟨by exact ow_79j_87, by exact ow_79j_154⟩, hV0, (pm_ff.rf (cs := [9, 10, 11, 12, 13, 74, 75, 76, 77]) (fs := [(0, 16), (4, 6), (73, 0), (73, 1), (73, 2), (73, 3), (73, 4), (73, 5), (73, 6), (73, 7), (73, 10), (73, 11), (73, 12), (73, 14)]) (V := V0)), (Or.inl ⟨rfl, rfl⟩), hT⟩ dX11_draw_67
          · skip
            exfalso; exact ow_79j_155 c23
        · skip
          replace hT := hT.trans (if_neg (Int.not_lt.mpr c22))
          refine pm_iconst (v := 1) hC dX11_draw_26 ?_
          refine pm_goto (tgt := 31) hC dX11_draw_27 (by decide) ?_
          refine pm_istore (lv' := [(5, (0, 1)), (0, (3, 0)), (1, (0, a1)), (2, (0, a2)), (3, (0, a3)), (4, (0, a4))]) hC dX11_draw_31 (by decide) rfl ?_
          refine pm_iload hC 0 dX11_draw_33 rfl ?_
          refine pm_if_eq (tgt := 66) hC ⟨by decide, by decide⟩ dX11_draw_35 (by decide) (fun c24 => ?_) (fun c24 => ?_)
          · skip
            exfalso; exact ow_79j_159 c24
          · skip
            refine pm_iload hC 5 dX11_draw_38 rfl ?_
            refine pm_iconst (v := 1) hC dX11_draw_40 ?_
            refine pm_icmp_lt (tgt := 66) hC ⟨by exact ow_79j_0 h3, by exact ow_79j_1 h3⟩ ⟨by decide, by decide⟩ dX11_draw_41 (by decide) (fun c25 => ?_) (fun c25 => ?_)
            · skip
              replace hT := hT.trans (if_pos c25)
              refine pm_iconst (v := (-1)) hC dX11_draw_66 ?_
              exact pm_iret hC hR pm_nar0 ⟨(-1), rfl, ⟨by exact ow_79j_87, by exact ow_79j_154⟩, hV0, (pm_ff.rf (cs := [9, 10, 11, 12, 13, 74, 75, 76, 77]) (fs := [(0, 16), (4, 6), (73, 0), (73, 1), (73, 2), (73, 3), (73, 4), (73, 5), (73, 6), (73, 7), (73, 10), (73, 11), (73, 12), (73, 14)]) (V := V0)), (Or.inl ⟨rfl, rfl⟩), hT⟩ dX11_draw_67
            · skip
              replace hT := hT.trans (if_neg (Int.not_lt.mpr c25))
              refine pm_iload hC 5 dX11_draw_44 rfl ?_
              refine pm_bipush (v := 20) hC dX11_draw_46 (by decide) ?_
              refine pm_icmp_gt (tgt := 66) hC ⟨by exact ow_79j_160 c25, by exact ow_79j_1 h3⟩ ⟨by decide, by decide⟩ dX11_draw_48 (by decide) (fun c26 => ?_) (fun c26 => ?_)
              · skip
                replace hT := hT.trans (if_pos c26)
                refine pm_iconst (v := (-1)) hC dX11_draw_66 ?_
                exact pm_iret hC hR pm_nar0 ⟨(-1), rfl, ⟨by exact ow_79j_87, by exact ow_79j_154⟩, hV0, (pm_ff.rf (cs := [9, 10, 11, 12, 13, 74, 75, 76, 77]) (fs := [(0, 16), (4, 6), (73, 0), (73, 1), (73, 2), (73, 3), (73, 4), (73, 5), (73, 6), (73, 7), (73, 10), (73, 11), (73, 12), (73, 14)]) (V := V0)), (Or.inl ⟨rfl, rfl⟩), hT⟩ dX11_draw_67
              · skip
                replace hT := hT.trans (if_neg (Int.not_lt.mpr c26))
                refine pm_aload_n hC 1 (by decide) dX11_draw_51 rfl ?_
                have e27 : V0 0 3 = 4 := hV0.one 0 3 (by decide) (by decide) rfl
                refine pm_getf (v := 4) hC 0 fl_X11_24 rfl rfl (by decide) rfl e27 dX11_draw_52 ?_
                refine pm_getf (v := y1) hC 4 fl_X11_162 rfl rfl (by decide) rfl e2 dX11_draw_55 ?_
                refine pm_iload hC 5 dX11_draw_58 rfl ?_
                refine pm_iadd hC dX11_draw_60 ?_
                refine pm_bipush (v := 60) hC dX11_draw_61 (by decide) ?_
                refine pm_icmp_le (tgt := 68) hC ⟨by exact ow_79j_161 b3 c25, by exact ow_79j_162 b3 c26⟩ ⟨by decide, by decide⟩ dX11_draw_63 (by decide) (fun c28 => ?_) (fun c28 => ?_)
                · skip
                  replace hT := hT.trans (if_pos c28)
                  refine pm_aload_n hC 1 (by decide) dX11_draw_68 rfl ?_
                  refine pm_iload_n hC 4 dX11_draw_69 rfl ?_
                  refine pm_i2l hC ⟨by exact ow_79j_158 c20, by exact ow_79j_163 c22⟩ dX11_draw_70 ?_
                  refine pm_putf hC 0 fl_X11_107 rfl rfl rfl (by decide) rfl trivial dX11_draw_71 ?_
                  refine pm_iconst (v := 0) hC dX11_draw_74 ?_
                  refine pm_istore (lv' := [(6, (0, 0)), (5, (0, 1)), (0, (3, 0)), (1, (0, a1)), (2, (0, a2)), (3, (0, a3)), (4, (0, a4))]) hC dX11_draw_75 (by decide) rfl ?_
                  have hV31 := (hV0.put 0 16 (x := a3) (lo := (-9223372036854775808)) (hi := 9223372036854775807) rfl ⟨by exact ow_79j_164 c20, by exact ow_79j_165 c22⟩)
                  have hF32 := ((pm_ff.rf (cs := [9, 10, 11, 12, 13, 74, 75, 76, 77]) (fs := [(0, 16), (4, 6), (73, 0), (73, 1), (73, 2), (73, 3), (73, 4), (73, 5), (73, 6), (73, 7), (73, 10), (73, 11), (73, 12), (73, 14)]) (V := V0)).upf 0 16 a3 rfl)
                  obtain ⟨V29, hv30⟩ : ∃ V, V = (pm_up V0 0 16 a3) := ⟨_, rfl⟩
                  rw [← hv30] at hV31 hF32
                  rw [← hv30]
                  replace hT := hT.trans (pf_let_eq hv30.symm)
                  have e33 : V29 4 6 = y1 := by rw [hv30]; exact e2
                  have e34 : V29 0 3 = 4 := by rw [hv30]; exact e27
                  have e35 : V29 0 16 = a3 := by rw [hv30]; rfl
                  obtain ⟨B44, hB45, hT⟩ := pf_loop hT
                  have L47 : ∀ (N49 : Nat) (x36 : Int) (V39 : pm_M), (0 ≤ x36 ∧ x36 ≤ 20) → (x36 ≤ a4) → pm_ok 0 90 V39 → pm_ff [9, 10, 11, 12, 13, 74, 75, 76, 77] [(0, 16), (4, 6), (73, 0), (73, 1), (73, 2), (73, 3), (73, 4), (73, 5), (73, 6), (73, 7), (73, 10), (73, 11), (73, 12), (73, 14)] V0 V39 → V39 0 3 = 4 → (V39 4 6 = y1 + x36) → F_X11_draw a1 a2 a3 a4 V0 = pf_val ((0 : Int), V0) B44 (x36, V39) → (Int.toNat (20 - x36)) = N49 → pm_J X 77 [(0, (3, 0)), (1, (0, a1)), (2, (0, a2)), (3, (0, a3)), (4, (0, a4)), (5, (0, 1)), (6, (0, x36))] [] 118 V39 := by
                    intro N49
                    induction N49 using Nat.strongRecOn with
                    | _ N49 ih50 =>
                    intro x36 V39 b37 b38 hV40 hF41 e42 hm43 hT hm48
                    have hb46 := congrFun hB45 (x36, V39)
                    refine pm_iload hC 6 dX11_draw_77 rfl ?_
                    refine pm_iload hC 4 dX11_draw_79 rfl ?_
                    refine pm_icmp_ge (tgt := 96) hC ⟨by exact ow_79j_166 b37, by exact ow_79j_167 b37⟩ ⟨by exact ow_79j_160 c25, by exact ow_79j_168 c26⟩ dX11_draw_81 (by decide) (fun c51 => ?_) (fun c51 => ?_)
                    · skip
                      replace hb46 := hb46.trans (if_pos c51)
                      refine pm_aload_n hC 0 (by decide) dX11_draw_96 rfl ?_
                      refine pm_getf (v := 4) hC 0 fl_X11_24 rfl rfl (by decide) rfl e42 dX11_draw_97 ?_
                      obtain ⟨y52, e53⟩ : ∃ y, V39 4 6 = y := ⟨_, rfl⟩
                      have b54 := hV40.get 4 6 (lo := 0) (hi := 60) (by decide) (by decide) rfl
                      rw [e53] at b54
                      replace hb46 := hb46.trans (pf_let_eq e53)
                      refine pm_getf (v := y52) hC 4 fl_X11_162 rfl rfl (by decide) rfl e53 dX11_draw_100 ?_
                      replace hT := hT.trans (pf_val_inr hb46)
                      exact pm_iret hC hR pm_nar0 ⟨y52, rfl, ⟨by exact ow_79j_169 b54, by exact ow_79j_170 b54⟩, hV40, hF41, (Or.inr ⟨by exact ow_79j_171 b54, by rw [e2]; exact ow_79j_172 b38 hm43 c51 e53, by rw [(show V39 4 6 = y52 from e53), e2]; exact ow_79j_172 b38 hm43 c51 e53⟩), hT⟩ dX11_draw_103
                    · skip
                      replace hb46 := hb46.trans (if_neg (Int.not_le.mpr c51))
                      refine pm_aload_n hC 0 (by decide) dX11_draw_84 rfl ?_
                      refine pm_iload_n hC 1 dX11_draw_85 rfl ?_
                      refine pm_iload_n hC 2 dX11_draw_86 rfl ?_
                      obtain ⟨y55, e56⟩ : ∃ y, V39 4 6 = y := ⟨_, rfl⟩
                      have b57 := hV40.get 4 6 (lo := 0) (hi := 60) (by decide) (by decide) rfl
                      rw [e56] at b57
                      replace hb46 := hb46.trans (pf_let_eq e56)
                      refine pm_callV (ci := 11) (as := [(0, a1), (0, a2)]) (st := []) hC 0 (fD_X11_drawAnswer_0 a1 a2 ⟨by exact ow_79j_0 h0, by exact ow_79j_1 h0⟩ ⟨by exact ow_79j_173 b16 c18, by exact ow_79j_174 b16 c18⟩) lm_X11_332 li_X11_drawAnswer (by decide) (by decide) rfl rfl rfl (by decide) rfl rfl (Nat.le_of_ble_eq_true rfl) ⟨Nat.le_refl _, Or.inl rfl⟩ dX11_draw_87 ⟨rfl, hV40⟩ (fun r58 V59 hp60 => ?_)
                      obtain ⟨rfl, hV61, hF62, hxp63, hE64⟩ := hp60
                      replace hb46 := hb46.trans (pf_call_eq hE64)
                      change pm_J X 90 [(0, (3, 0)), (1, (0, a1)), (2, (0, a2)), (3, (0, a3)), (4, (0, a4)), (5, (0, 1)), (6, (0, x36))] [] 118 V59
                      have hF65 := pm_ff.tr hF41 hF62 (by decide) (by decide)
                      have e66 : V59 0 3 = 4 := by rw [hF62 0 3 (by decide) (by decide)]; exact e42
                      obtain ⟨y67, e68⟩ : ∃ y, V59 4 6 = y := ⟨_, rfl⟩
                      have hn69 : y67 = y55 + 1 := by have q2 := hxp63 (by rw [e56]; exact ow_79j_175 c28 hm43 c51 e56); rw [e56, e68] at q2; exact q2
                      replace hb46 := hb46.trans (pf_let_eq e68)
                      obtain ⟨x70, ei71⟩ : ∃ y : Int, x36 + 1 = y := ⟨_, rfl⟩
                      replace hb46 := hb46.trans (pf_let_eq ei71)
                      refine pm_iinc (y := x70) (lv' := [(6, (0, x70)), (0, (3, 0)), (1, (0, a1)), (2, (0, a2)), (3, (0, a3)), (4, (0, a4)), (5, (0, 1))]) hC 6 dX11_draw_90 (by decide) rfl ei71 rfl ?_
                      refine pm_goto (tgt := 77) hC dX11_draw_93 (by decide) ?_
                      refine pm_lvsub [1, 2, 3, 4, 5, 6, 0] (lv' := [(0, (3, 0)), (1, (0, a1)), (2, (0, a2)), (3, (0, a3)), (4, (0, a4)), (5, (0, 1)), (6, (0, x70))]) rfl ?_
                      exact ih50 _ (by exact ow_79j_176 c26 hm48 c51 ei71) x70 V59 ⟨by exact ow_79j_177 b37 ei71, by exact ow_79j_178 c26 c51 ei71⟩ (by exact ow_79j_179 c51 ei71) hV61 hF65 e66 (by (have e : V59 4 6 = y67 := e68); rw [e]; exact ow_79j_180 hm43 e56 hn69 ei71) (hT.trans (pf_val_inl hb46)) rfl
                  refine pm_lvsub [2, 3, 4, 5, 6, 1, 0] (lv' := [(0, (3, 0)), (1, (0, a1)), (2, (0, a2)), (3, (0, a3)), (4, (0, a4)), (5, (0, 1)), (6, (0, 0))]) rfl ?_
                  exact L47 _ 0 V29 ⟨by decide, by decide⟩ (by exact ow_79j_181 c25) hV31 hF32 e34 (by (have e : V29 4 6 = y1 := e33); rw [e]; exact ow_79j_182) hT rfl
                · skip
                  replace hT := hT.trans (if_neg (Int.not_le.mpr c28))
                  refine pm_iconst (v := (-1)) hC dX11_draw_66 ?_
                  exact pm_iret hC hR pm_nar0 ⟨(-1), rfl, ⟨by exact ow_79j_87, by exact ow_79j_154⟩, hV0, (pm_ff.rf (cs := [9, 10, 11, 12, 13, 74, 75, 76, 77]) (fs := [(0, 16), (4, 6), (73, 0), (73, 1), (73, 2), (73, 3), (73, 4), (73, 5), (73, 6), (73, 7), (73, 10), (73, 11), (73, 12), (73, 14)]) (V := V0)), (Or.inl ⟨rfl, rfl⟩), hT⟩ dX11_draw_67
set_option maxHeartbeats 4000000 in
set_option maxRecDepth 100000 in
theorem fD_X7_copyFrom_15_4  : pm_K 1 yX7_copyFrom cX7_copyFrom 3 none (fun av V => av = [(3, 15), (3, 4)] ∧ pm_ok 0 90 V) (fun _ V r V' => r = none ∧ pm_ok 0 90 V' ∧ pm_ff [16, 17, 18, 19, 20, 21, 22, 23, 24] [(15, 1), (15, 6)] V V' ∧ F_X7_copyFrom 15 4 V = (0, V')) := by
  refine pm_MT.of (by decide) ⟨Nat.le_refl _, by decide⟩ (fun av V h => by rw [h.1]; exact (by decide : pm_words [(3, 0), (3, 0)] ≤ 3)) ?_
  rintro X av V0 hC - hR ⟨rfl, hV0⟩
  change pm_J X 0 [(0, (3, 15)), (1, (3, 4))] [] 118 V0
  have hT := F_X7_copyFrom_eq 15 4 V0
  refine pm_aload_n hC 0 (by decide) dX7_copyFrom_0 rfl ?_
  refine pm_aload_n hC 1 (by decide) dX7_copyFrom_1 rfl ?_
  obtain ⟨y1, e2⟩ : ∃ y, V0 4 1 = y := ⟨_, rfl⟩
  have b3 := hV0.get 4 1 (lo := 0) (hi := 10) (by decide) (by decide) rfl
  rw [e2] at b3
  replace hT := hT.trans (pf_let_eq e2)
  refine pm_getf (v := y1) hC 4 fl_X7_15 rfl rfl (by decide) rfl e2 dX7_copyFrom_2 ?_
  refine pm_putf hC 15 fl_X7_15 rfl rfl rfl (by decide) rfl trivial dX7_copyFrom_5 ?_
  refine pm_iconst (v := 0) hC dX7_copyFrom_8 ?_
  refine pm_istore_n (lv' := [(2, (0, 0)), (0, (3, 15)), (1, (3, 4))]) hC dX7_copyFrom_9 (by decide) rfl ?_
  have hV6 := (hV0.put 15 1 (x := y1) (lo := 0) (hi := 10) rfl ⟨by exact ow_79j_183 b3, by exact ow_79j_184 b3⟩)
  have hF7 := ((pm_ff.rf (cs := [16, 17, 18, 19, 20, 21, 22, 23, 24]) (fs := [(15, 1), (15, 6)]) (V := V0)).upf 15 1 y1 rfl)
  obtain ⟨V4, hv5⟩ : ∃ V, V = (pm_up V0 15 1 y1) := ⟨_, rfl⟩
  rw [← hv5] at hV6 hF7
  rw [← hv5]
  replace hT := hT.trans (pf_let_eq hv5.symm)
  have e8 : V4 4 1 = y1 := by rw [hv5]; exact e2
  have e9 : V4 15 1 = y1 := by rw [hv5]; rfl
  obtain ⟨B17, hB18, hT⟩ := pf_loop hT
  have L20 : ∀ (N22 : Nat) (x10 : Int) (V12 : pm_M), (0 ≤ x10 ∧ x10 ≤ 16) → pm_ok 0 90 V12 → pm_ff [16, 17, 18, 19, 20, 21, 22, 23, 24] [(15, 1), (15, 6)] V0 V12 → V12 4 1 = y1 → V12 15 1 = y1 → F_X7_copyFrom 15 4 V0 = pf_val ((0 : Int), V0) B17 (x10, V12) → (Int.toNat (16 - x10)) = N22 → pm_J X 10 [(0, (3, 15)), (1, (3, 4)), (2, (0, x10))] [] 118 V12 := by
    intro N22
    induction N22 using Nat.strongRecOn with
    | _ N22 ih23 =>
    intro x10 V12 b11 hV13 hF14 e15 e16 hT hm21
    have hb19 := congrFun hB18 (x10, V12)
    refine pm_iload_n hC 2 dX7_copyFrom_10 rfl ?_
    refine pm_aload_n hC 0 (by decide) dX7_copyFrom_11 rfl ?_
    refine pm_getf (v := y1) hC 15 fl_X7_15 rfl rfl (by decide) rfl e16 dX7_copyFrom_12 ?_
    refine pm_icmp_ge (tgt := 72) hC ⟨by exact ow_79j_83 b11, by exact ow_79j_84 b11⟩ ⟨by exact ow_79j_85 b3, by exact ow_79j_86 b3⟩ dX7_copyFrom_15 (by decide) (fun c24 => ?_) (fun c24 => ?_)
    · skip
      replace hb19 := hb19.trans (if_pos c24)
      refine pm_aload_n hC 0 (by decide) dX7_copyFrom_72 rfl ?_
      refine pm_aload_n hC 1 (by decide) dX7_copyFrom_73 rfl ?_
      obtain ⟨y25, e26⟩ : ∃ y, V12 4 6 = y := ⟨_, rfl⟩
      have b27 := hV13.get 4 6 (lo := 0) (hi := 60) (by decide) (by decide) rfl
      rw [e26] at b27
      replace hb19 := hb19.trans (pf_let_eq e26)
      refine pm_getf (v := y25) hC 4 fl_X7_32 rfl rfl (by decide) rfl e26 dX7_copyFrom_74 ?_
      refine pm_putf hC 15 fl_X7_32 rfl rfl rfl (by decide) rfl trivial dX7_copyFrom_77 ?_
      refine pm_iconst (v := 0) hC dX7_copyFrom_80 ?_
      refine pm_istore_n (lv' := [(2, (0, 0)), (0, (3, 15)), (1, (3, 4))]) hC dX7_copyFrom_81 (by decide) rfl ?_
      have hV30 := (hV13.put 15 6 (x := y25) (lo := 0) (hi := 60) rfl ⟨by exact ow_79j_171 b27, by exact ow_79j_170 b27⟩)
      have hF31 := (hF14.upf 15 6 y25 rfl)
      obtain ⟨V28, hv29⟩ : ∃ V, V = (pm_up V12 15 6 y25) := ⟨_, rfl⟩
      rw [← hv29] at hV30 hF31
      rw [← hv29]
      replace hb19 := hb19.trans (pf_let_eq hv29.symm)
      have e32 : V28 4 1 = y1 := by rw [hv29]; exact e15
      have e33 : V28 15 1 = y1 := by rw [hv29]; exact e16
      have e34 : V28 4 6 = y25 := by rw [hv29]; exact e26
      have e35 : V28 15 6 = y25 := by rw [hv29]; rfl
      obtain ⟨B45, hB46, hb19⟩ := pf_loop hb19
      have L48 : ∀ (N50 : Nat) (x36 : Int) (V38 : pm_M), (0 ≤ x36 ∧ x36 ≤ 60) → pm_ok 0 90 V38 → pm_ff [16, 17, 18, 19, 20, 21, 22, 23, 24] [(15, 1), (15, 6)] V0 V38 → V38 4 1 = y1 → V38 15 1 = y1 → V38 4 6 = y25 → V38 15 6 = y25 → B17 (x10, V12) = pf_val (.inr ((0 : Int), V0)) B45 (x36, V38) → (Int.toNat (60 - x36)) = N50 → pm_J X 82 [(0, (3, 15)), (1, (3, 4)), (2, (0, x36))] [] 118 V38 := by
        intro N50
        induction N50 using Nat.strongRecOn with
        | _ N50 ih51 =>
        intro x36 V38 b37 hV39 hF40 e41 e42 e43 e44 hb19 hm49
        have hb47 := congrFun hB46 (x36, V38)
        refine pm_iload_n hC 2 dX7_copyFrom_82 rfl ?_
        refine pm_aload_n hC 0 (by decide) dX7_copyFrom_83 rfl ?_
        refine pm_getf (v := y25) hC 15 fl_X7_32 rfl rfl (by decide) rfl e44 dX7_copyFrom_84 ?_
        refine pm_icmp_ge (tgt := 156) hC ⟨by exact ow_79j_185 b37, by exact ow_79j_186 b37⟩ ⟨by exact ow_79j_185 b27, by exact ow_79j_186 b27⟩ dX7_copyFrom_87 (by decide) (fun c52 => ?_) (fun c52 => ?_)
        · skip
          replace hb47 := hb47.trans (if_pos c52)
          replace hb19 := hb19.trans (pf_val_inr hb47)
          replace hT := hT.trans (pf_val_inr hb19)
          exact pm_vret hC hR ⟨rfl, hV39, hF40, hT⟩ dX7_copyFrom_156
        · skip
          replace hb47 := hb47.trans (if_neg (Int.not_le.mpr c52))
          refine pm_aload_n hC 0 (by decide) dX7_copyFrom_90 rfl ?_
          have e53 : V38 15 7 = 20 := hV39.one 15 7 (by decide) (by decide) rfl
          refine pm_getf (v := 20) hC 15 fl_X7_35 rfl rfl (by decide) rfl e53 dX7_copyFrom_91 ?_
          refine pm_iload_n hC 2 dX7_copyFrom_94 rfl ?_
          refine pm_aload_n hC 1 (by decide) dX7_copyFrom_95 rfl ?_
          have e54 : V38 4 7 = 9 := hV39.one 4 7 (by decide) (by decide) rfl
          refine pm_getf (v := 9) hC 4 fl_X7_35 rfl rfl (by decide) rfl e54 dX7_copyFrom_96 ?_
          refine pm_iload_n hC 2 dX7_copyFrom_99 rfl ?_
          obtain ⟨y55, e56⟩ : ∃ y, V38 9 (x36 : Int).toNat = y := ⟨_, rfl⟩
          replace hb47 := hb47.trans (pf_let_eq e56)
          have b57 := hV39.get1 9 (x36 : Int).toNat (lo := 0) (hi := 999) (by decide) (show _ < 60 by exact ow_79j_187 b27 c52) rfl
          rw [e56] at b57
          refine pm_iaload (len := 60) (v := y55) hC 9 rfl rfl (by decide) ⟨by exact ow_79j_171 b37, by exact ow_79j_188 b27 c52⟩ (by decide) e56 dX7_copyFrom_100 ?_
          refine pm_iastore (len := 60) hC 20 rfl rfl (by decide) ⟨by exact ow_79j_171 b37, by exact ow_79j_188 b27 c52⟩ (by decide) dX7_copyFrom_101 ?_
          refine pm_aload_n hC 0 (by decide) dX7_copyFrom_102 rfl ?_
          have e58 : V38 15 8 = 21 := hV39.one 15 8 (by decide) (by decide) rfl
          refine pm_getf (v := 21) hC 15 fl_X7_38 rfl rfl (by decide) rfl e58 dX7_copyFrom_103 ?_
          refine pm_iload_n hC 2 dX7_copyFrom_106 rfl ?_
          refine pm_aload_n hC 1 (by decide) dX7_copyFrom_107 rfl ?_
          have e59 : V38 4 8 = 10 := hV39.one 4 8 (by decide) (by decide) rfl
          refine pm_getf (v := 10) hC 4 fl_X7_38 rfl rfl (by decide) rfl e59 dX7_copyFrom_108 ?_
          refine pm_iload_n hC 2 dX7_copyFrom_111 rfl ?_
          obtain ⟨y60, e61⟩ : ∃ y, V38 10 (x36 : Int).toNat = y := ⟨_, rfl⟩
          replace hb47 := hb47.trans (pf_let_eq e61)
          have b62 := hV39.get 10 (x36 : Int).toNat (lo := 0) (hi := 99) (by decide) (show _ < 60 by exact ow_79j_187 b27 c52) rfl
          rw [e61] at b62
          refine pm_iaload (len := 60) (v := y60) hC 10 rfl rfl (by decide) ⟨by exact ow_79j_171 b37, by exact ow_79j_188 b27 c52⟩ (by decide) e61 dX7_copyFrom_112 ?_
          refine pm_iastore (len := 60) hC 21 rfl rfl (by decide) ⟨by exact ow_79j_171 b37, by exact ow_79j_188 b27 c52⟩ (by decide) dX7_copyFrom_113 ?_
          refine pm_aload_n hC 0 (by decide) dX7_copyFrom_114 rfl ?_
          have e63 : V38 15 9 = 22 := hV39.one 15 9 (by decide) (by decide) rfl
          refine pm_getf (v := 22) hC 15 fl_X7_41 rfl rfl (by decide) rfl e63 dX7_copyFrom_115 ?_
          refine pm_iload_n hC 2 dX7_copyFrom_118 rfl ?_
          refine pm_aload_n hC 1 (by decide) dX7_copyFrom_119 rfl ?_
          have e64 : V38 4 9 = 11 := hV39.one 4 9 (by decide) (by decide) rfl
          refine pm_getf (v := 11) hC 4 fl_X7_41 rfl rfl (by decide) rfl e64 dX7_copyFrom_120 ?_
          refine pm_iload_n hC 2 dX7_copyFrom_123 rfl ?_
          obtain ⟨y65, e66⟩ : ∃ y, V38 11 (x36 : Int).toNat = y := ⟨_, rfl⟩
          replace hb47 := hb47.trans (pf_let_eq e66)
          have b67 := hV39.get 11 (x36 : Int).toNat (lo := (-99)) (hi := 99) (by decide) (show _ < 60 by exact ow_79j_187 b27 c52) rfl
          rw [e66] at b67
          refine pm_iaload (len := 60) (v := y65) hC 11 rfl rfl (by decide) ⟨by exact ow_79j_171 b37, by exact ow_79j_188 b27 c52⟩ (by decide) e66 dX7_copyFrom_124 ?_
          refine pm_iastore (len := 60) hC 22 rfl rfl (by decide) ⟨by exact ow_79j_171 b37, by exact ow_79j_188 b27 c52⟩ (by decide) dX7_copyFrom_125 ?_
          refine pm_aload_n hC 0 (by decide) dX7_copyFrom_126 rfl ?_
          have e68 : V38 15 10 = 23 := hV39.one 15 10 (by decide) (by decide) rfl
          refine pm_getf (v := 23) hC 15 fl_X7_44 rfl rfl (by decide) rfl e68 dX7_copyFrom_127 ?_
          refine pm_iload_n hC 2 dX7_copyFrom_130 rfl ?_
          refine pm_aload_n hC 1 (by decide) dX7_copyFrom_131 rfl ?_
          have e69 : V38 4 10 = 12 := hV39.one 4 10 (by decide) (by decide) rfl
          refine pm_getf (v := 12) hC 4 fl_X7_44 rfl rfl (by decide) rfl e69 dX7_copyFrom_132 ?_
          refine pm_iload_n hC 2 dX7_copyFrom_135 rfl ?_
          obtain ⟨y70, e71⟩ : ∃ y, V38 12 (x36 : Int).toNat = y := ⟨_, rfl⟩
          replace hb47 := hb47.trans (pf_let_eq e71)
          have b72 := hV39.get 12 (x36 : Int).toNat (lo := 0) (hi := 8) (by decide) (show _ < 60 by exact ow_79j_187 b27 c52) rfl
          rw [e71] at b72
          refine pm_iaload (len := 60) (v := y70) hC 12 rfl rfl (by decide) ⟨by exact ow_79j_171 b37, by exact ow_79j_188 b27 c52⟩ (by decide) e71 dX7_copyFrom_136 ?_
          refine pm_iastore (len := 60) hC 23 rfl rfl (by decide) ⟨by exact ow_79j_171 b37, by exact ow_79j_188 b27 c52⟩ (by decide) dX7_copyFrom_137 ?_
          refine pm_aload_n hC 0 (by decide) dX7_copyFrom_138 rfl ?_
          have e73 : V38 15 11 = 24 := hV39.one 15 11 (by decide) (by decide) rfl
          refine pm_getf (v := 24) hC 15 fl_X7_47 rfl rfl (by decide) rfl e73 dX7_copyFrom_139 ?_
          refine pm_iload_n hC 2 dX7_copyFrom_142 rfl ?_
          refine pm_aload_n hC 1 (by decide) dX7_copyFrom_143 rfl ?_
          have e74 : V38 4 11 = 13 := hV39.one 4 11 (by decide) (by decide) rfl
          refine pm_getf (v := 13) hC 4 fl_X7_47 rfl rfl (by decide) rfl e74 dX7_copyFrom_144 ?_
          refine pm_iload_n hC 2 dX7_copyFrom_147 rfl ?_
          obtain ⟨y75, e76⟩ : ∃ y, V38 13 (x36 : Int).toNat = y := ⟨_, rfl⟩
          replace hb47 := hb47.trans (pf_let_eq e76)
          have b77 := hV39.get 13 (x36 : Int).toNat (lo := 0) (hi := 1) (by decide) (show _ < 60 by exact ow_79j_187 b27 c52) rfl
          rw [e76] at b77
          refine pm_zaload (len := 60) (v := y75) hC 13 rfl rfl (by decide) ⟨by exact ow_79j_171 b37, by exact ow_79j_188 b27 c52⟩ (by decide) e76 dX7_copyFrom_148 ?_
          refine pm_zastore (len := 60) hC 24 rfl rfl (by decide) ⟨by exact ow_79j_171 b37, by exact ow_79j_188 b27 c52⟩ (by decide) (by exact ow_79j_189 b77) dX7_copyFrom_149 ?_
          obtain ⟨x78, ei79⟩ : ∃ y : Int, x36 + 1 = y := ⟨_, rfl⟩
          replace hb47 := hb47.trans (pf_let_eq ei79)
          refine pm_iinc (y := x78) (lv' := [(2, (0, x78)), (0, (3, 15)), (1, (3, 4))]) hC 2 dX7_copyFrom_150 (by decide) rfl ei79 rfl ?_
          refine pm_goto (tgt := 82) hC dX7_copyFrom_153 (by decide) ?_
          refine pm_lvsub [1, 2, 0] (lv' := [(0, (3, 15)), (1, (3, 4)), (2, (0, x78))]) rfl ?_
          exact ih51 _ (by exact ow_79j_190 b27 hm49 c52 ei79) x78 (pm_up (pm_up (pm_up (pm_up (pm_up V38 20 (x36 : Int).toNat y55) 21 (x36 : Int).toNat y60) 22 (x36 : Int).toNat y65) 23 (x36 : Int).toNat y70) 24 (x36 : Int).toNat y75) ⟨by exact ow_79j_191 b37 ei79, by exact ow_79j_192 b27 c52 ei79⟩ (((((hV39.put1 20 (x36 : Int).toNat (x := y55) (lo := 0) (hi := 999) rfl (by exact ow_79j_193 b57)).put 21 (x36 : Int).toNat (x := y60) (lo := 0) (hi := 99) rfl ⟨by exact ow_79j_194 b62, by exact ow_79j_195 b62⟩).put 22 (x36 : Int).toNat (x := y65) (lo := (-99)) (hi := 99) rfl ⟨by exact ow_79j_196 b67, by exact ow_79j_197 b67⟩).put 23 (x36 : Int).toNat (x := y70) (lo := 0) (hi := 8) rfl ⟨by exact ow_79j_148 b72, by exact ow_79j_149 b72⟩).put 24 (x36 : Int).toNat (x := y75) (lo := 0) (hi := 1) rfl ⟨by exact ow_79j_198 b77, by exact ow_79j_199 b77⟩) (((((hF40.upa 20 (x36 : Int).toNat y55 rfl).upa 21 (x36 : Int).toNat y60 rfl).upa 22 (x36 : Int).toNat y65 rfl).upa 23 (x36 : Int).toNat y70 rfl).upa 24 (x36 : Int).toNat y75 rfl) e41 e42 e43 e44 (hb19.trans (pf_val_inl hb47)) rfl
      refine pm_lvsub [1, 2, 0] (lv' := [(0, (3, 15)), (1, (3, 4)), (2, (0, 0))]) rfl ?_
      exact L48 _ 0 V28 ⟨by decide, by decide⟩ hV30 hF31 e32 e33 e34 e35 hb19 rfl
    · skip
      replace hb19 := hb19.trans (if_neg (Int.not_le.mpr c24))
      refine pm_aload_n hC 0 (by decide) dX7_copyFrom_18 rfl ?_
      have e80 : V12 15 2 = 16 := hV13.one 15 2 (by decide) (by decide) rfl
      refine pm_getf (v := 16) hC 15 fl_X7_19 rfl rfl (by decide) rfl e80 dX7_copyFrom_19 ?_
      refine pm_iload_n hC 2 dX7_copyFrom_22 rfl ?_
      refine pm_aload_n hC 1 (by decide) dX7_copyFrom_23 rfl ?_
      have e81 : V12 4 2 = 5 := hV13.one 4 2 (by decide) (by decide) rfl
      refine pm_getf (v := 5) hC 4 fl_X7_19 rfl rfl (by decide) rfl e81 dX7_copyFrom_24 ?_
      refine pm_iload_n hC 2 dX7_copyFrom_27 rfl ?_
      obtain ⟨y82, e83⟩ : ∃ y, V12 5 (x10 : Int).toNat = y := ⟨_, rfl⟩
      replace hb19 := hb19.trans (pf_let_eq e83)
      have b84 := hV13.get 5 (x10 : Int).toNat (lo := (-30)) (hi := 30) (by decide) (show _ < 10 by exact ow_79j_97 b3 c24) rfl
      rw [e83] at b84
      refine pm_iaload (len := 10) (v := y82) hC 5 rfl rfl (by decide) ⟨by exact ow_79j_89 b11, by exact ow_79j_98 b3 c24⟩ (by decide) e83 dX7_copyFrom_28 ?_
      refine pm_iastore (len := 10) hC 16 rfl rfl (by decide) ⟨by exact ow_79j_89 b11, by exact ow_79j_98 b3 c24⟩ (by decide) dX7_copyFrom_29 ?_
      refine pm_aload_n hC 0 (by decide) dX7_copyFrom_30 rfl ?_
      have e85 : V12 15 3 = 17 := hV13.one 15 3 (by decide) (by decide) rfl
      refine pm_getf (v := 17) hC 15 fl_X7_23 rfl rfl (by decide) rfl e85 dX7_copyFrom_31 ?_
      refine pm_iload_n hC 2 dX7_copyFrom_34 rfl ?_
      refine pm_aload_n hC 1 (by decide) dX7_copyFrom_35 rfl ?_
      have e86 : V12 4 3 = 6 := hV13.one 4 3 (by decide) (by decide) rfl
      refine pm_getf (v := 6) hC 4 fl_X7_23 rfl rfl (by decide) rfl e86 dX7_copyFrom_36 ?_
      refine pm_iload_n hC 2 dX7_copyFrom_39 rfl ?_
      obtain ⟨y87, e88⟩ : ∃ y, V12 6 (x10 : Int).toNat = y := ⟨_, rfl⟩
      replace hb19 := hb19.trans (pf_let_eq e88)
      have b89 := hV13.get 6 (x10 : Int).toNat (lo := (-30)) (hi := 30) (by decide) (show _ < 10 by exact ow_79j_97 b3 c24) rfl
      rw [e88] at b89
      refine pm_iaload (len := 10) (v := y87) hC 6 rfl rfl (by decide) ⟨by exact ow_79j_89 b11, by exact ow_79j_98 b3 c24⟩ (by decide) e88 dX7_copyFrom_40 ?_
      refine pm_iastore (len := 10) hC 17 rfl rfl (by decide) ⟨by exact ow_79j_89 b11, by exact ow_79j_98 b3 c24⟩ (by decide) dX7_copyFrom_41 ?_
      refine pm_aload_n hC 0 (by decide) dX7_copyFrom_42 rfl ?_
      have e90 : V12 15 4 = 18 := hV13.one 15 4 (by decide) (by decide) rfl
      refine pm_getf (v := 18) hC 15 fl_X7_26 rfl rfl (by decide) rfl e90 dX7_copyFrom_43 ?_
      refine pm_iload_n hC 2 dX7_copyFrom_46 rfl ?_
      refine pm_aload_n hC 1 (by decide) dX7_copyFrom_47 rfl ?_
      have e91 : V12 4 4 = 7 := hV13.one 4 4 (by decide) (by decide) rfl
      refine pm_getf (v := 7) hC 4 fl_X7_26 rfl rfl (by decide) rfl e91 dX7_copyFrom_48 ?_
      refine pm_iload_n hC 2 dX7_copyFrom_51 rfl ?_
      obtain ⟨y92, e93⟩ : ∃ y, V12 7 (x10 : Int).toNat = y := ⟨_, rfl⟩
      replace hb19 := hb19.trans (pf_let_eq e93)
      have b94 := hV13.get 7 (x10 : Int).toNat (lo := 0) (hi := 16) (by decide) (show _ < 10 by exact ow_79j_97 b3 c24) rfl
      rw [e93] at b94
      refine pm_iaload (len := 10) (v := y92) hC 7 rfl rfl (by decide) ⟨by exact ow_79j_89 b11, by exact ow_79j_98 b3 c24⟩ (by decide) e93 dX7_copyFrom_52 ?_
      refine pm_iastore (len := 10) hC 18 rfl rfl (by decide) ⟨by exact ow_79j_89 b11, by exact ow_79j_98 b3 c24⟩ (by decide) dX7_copyFrom_53 ?_
      refine pm_aload_n hC 0 (by decide) dX7_copyFrom_54 rfl ?_
      have e95 : V12 15 5 = 19 := hV13.one 15 5 (by decide) (by decide) rfl
      refine pm_getf (v := 19) hC 15 fl_X7_29 rfl rfl (by decide) rfl e95 dX7_copyFrom_55 ?_
      refine pm_iload_n hC 2 dX7_copyFrom_58 rfl ?_
      refine pm_aload_n hC 1 (by decide) dX7_copyFrom_59 rfl ?_
      have e96 : V12 4 5 = 8 := hV13.one 4 5 (by decide) (by decide) rfl
      refine pm_getf (v := 8) hC 4 fl_X7_29 rfl rfl (by decide) rfl e96 dX7_copyFrom_60 ?_
      refine pm_iload_n hC 2 dX7_copyFrom_63 rfl ?_
      obtain ⟨y97, e98⟩ : ∃ y, V12 8 (x10 : Int).toNat = y := ⟨_, rfl⟩
      replace hb19 := hb19.trans (pf_let_eq e98)
      have b99 := hV13.get 8 (x10 : Int).toNat (lo := 0) (hi := 3) (by decide) (show _ < 10 by exact ow_79j_97 b3 c24) rfl
      rw [e98] at b99
      refine pm_iaload (len := 10) (v := y97) hC 8 rfl rfl (by decide) ⟨by exact ow_79j_89 b11, by exact ow_79j_98 b3 c24⟩ (by decide) e98 dX7_copyFrom_64 ?_
      refine pm_iastore (len := 10) hC 19 rfl rfl (by decide) ⟨by exact ow_79j_89 b11, by exact ow_79j_98 b3 c24⟩ (by decide) dX7_copyFrom_65 ?_
      obtain ⟨x100, ei101⟩ : ∃ y : Int, x10 + 1 = y := ⟨_, rfl⟩
      replace hb19 := hb19.trans (pf_let_eq ei101)
      refine pm_iinc (y := x100) (lv' := [(2, (0, x100)), (0, (3, 15)), (1, (3, 4))]) hC 2 dX7_copyFrom_66 (by decide) rfl ei101 rfl ?_
      refine pm_goto (tgt := 10) hC dX7_copyFrom_69 (by decide) ?_
      refine pm_lvsub [1, 2, 0] (lv' := [(0, (3, 15)), (1, (3, 4)), (2, (0, x100))]) rfl ?_
      exact ih23 _ (by exact ow_79j_200 b3 hm21 c24 ei101) x100 (pm_up (pm_up (pm_up (pm_up V12 16 (x10 : Int).toNat y82) 17 (x10 : Int).toNat y87) 18 (x10 : Int).toNat y92) 19 (x10 : Int).toNat y97) ⟨by exact ow_79j_92 b11 ei101, by exact ow_79j_93 b3 c24 ei101⟩ ((((hV13.put 16 (x10 : Int).toNat (x := y82) (lo := (-30)) (hi := 30) rfl ⟨by exact ow_79j_201 b84, by exact ow_79j_202 b84⟩).put 17 (x10 : Int).toNat (x := y87) (lo := (-30)) (hi := 30) rfl ⟨by exact ow_79j_201 b89, by exact ow_79j_202 b89⟩).put 18 (x10 : Int).toNat (x := y92) (lo := 0) (hi := 16) rfl ⟨by exact ow_79j_89 b94, by exact ow_79j_203 b94⟩).put 19 (x10 : Int).toNat (x := y97) (lo := 0) (hi := 3) rfl ⟨by exact ow_79j_204 b99, by exact ow_79j_205 b99⟩) ((((hF14.upa 16 (x10 : Int).toNat y82 rfl).upa 17 (x10 : Int).toNat y87 rfl).upa 18 (x10 : Int).toNat y92 rfl).upa 19 (x10 : Int).toNat y97 rfl) e15 e16 (hT.trans (pf_val_inl hb19)) rfl
  refine pm_lvsub [1, 2, 0] (lv' := [(0, (3, 15)), (1, (3, 4)), (2, (0, 0))]) rfl ?_
  exact L20 _ 0 V4 ⟨by decide, by decide⟩ hV6 hF7 e8 e9 hT rfl
