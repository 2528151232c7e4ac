theorem ow_92_0 {a0 : Int} (h0 : (((-2147483648) ≤ (a0 : Int)) ∧ (a0 ≤ (2147483647 : Int)))) : ((-2147483648) ≤ (a0 : Int)) := by omega
theorem ow_92_1 {a0 : Int} (h0 : (((-2147483648) ≤ (a0 : Int)) ∧ (a0 ≤ (2147483647 : Int)))) : (a0 ≤ (2147483647 : Int)) := by omega
theorem ow_92_2 {a0 a1 : Int} (h0 : ((0 ≤ (a0 : Int)) ∧ ((a0 ≤ (1 : Int)) ∧ ((a0 = (1 : Int)) → ((0 ≤ (a1 : Int)) ∧ (a1 ≤ (6 : Int))))))) : ((-2147483648) ≤ (a0 : Int)) := by omega
theorem ow_92_3 {a0 a1 : Int} (h0 : ((0 ≤ (a0 : Int)) ∧ ((a0 ≤ (1 : Int)) ∧ ((a0 = (1 : Int)) → ((0 ≤ (a1 : Int)) ∧ (a1 ≤ (6 : Int))))))) : (a0 ≤ (2147483647 : Int)) := by omega
theorem ow_92_4 : ((-1) ≤ ((-1) : Int)) := by omega
theorem ow_92_5 : ((-1) ≤ (60 : Int)) := by omega
theorem ow_92_6 {a0 a1 : Int} (h0 : ((0 ≤ (a0 : Int)) ∧ ((a0 ≤ (1 : Int)) ∧ ((a0 = (1 : Int)) → ((0 ≤ (a1 : Int)) ∧ (a1 ≤ (9 : Int))))))) : ((-2147483648) ≤ (a0 : Int)) := by omega
theorem ow_92_7 {a0 a1 : Int} (h0 : ((0 ≤ (a0 : Int)) ∧ ((a0 ≤ (1 : Int)) ∧ ((a0 = (1 : Int)) → ((0 ≤ (a1 : Int)) ∧ (a1 ≤ (9 : Int))))))) : (a0 ≤ (2147483647 : Int)) := by omega
theorem ow_92_8 {a0 a1 : Int} (h0 : ((0 ≤ (a0 : Int)) ∧ ((a0 ≤ (1 : Int)) ∧ ((a0 = (1 : Int)) → ((0 ≤ (a1 : Int)) ∧ (a1 ≤ (1000000 : Int))))))) : ((-2147483648) ≤ (a0 : Int)) := by omega
theorem ow_92_9 {a0 a1 : Int} (h0 : ((0 ≤ (a0 : Int)) ∧ ((a0 ≤ (1 : Int)) ∧ ((a0 = (1 : Int)) → ((0 ≤ (a1 : Int)) ∧ (a1 ≤ (1000000 : Int))))))) : (a0 ≤ (2147483647 : Int)) := by omega
theorem ow_92_10 {a0 a1 : Int} (h0 : ((0 ≤ (a0 : Int)) ∧ ((a0 ≤ (1 : Int)) ∧ ((a0 = (1 : Int)) → ((1 ≤ (a1 : Int)) ∧ (a1 ≤ (20 : Int))))))) : ((-2147483648) ≤ (a0 : Int)) := by omega
theorem ow_92_11 {a0 a1 : Int} (h0 : ((0 ≤ (a0 : Int)) ∧ ((a0 ≤ (1 : Int)) ∧ ((a0 = (1 : Int)) → ((1 ≤ (a1 : Int)) ∧ (a1 ≤ (20 : Int))))))) : (a0 ≤ (2147483647 : Int)) := by omega
theorem ow_92_12 {a0 a1 : Int} (h0 : (((-2147483648) ≤ (a0 : Int)) ∧ (a0 ≤ (2147483647 : Int)))) (h1 : ((0 ≤ (a1 : Int)) ∧ (a1 ≤ (60 : Int)))) : ((-2147483648) ≤ ((a1 + a0) : Int)) := by omega
theorem ow_92_13 {a0 a1 a2 : Int} (h0 : ((0 ≤ (a0 : Int)) ∧ (a0 ≤ (60 : Int)))) (h1 : ((0 ≤ (a1 : Int)) ∧ ((a1 ≤ (1 : Int)) ∧ ((a1 = (1 : Int)) → ((1 ≤ (a2 : Int)) ∧ (a2 ≤ (20 : Int))))))) (h2 : ¬((a1 = (0 : Int)))) : ((a0 + a2) ≤ (2147483647 : Int)) := by omega
theorem ow_92_14 {a0 : Int} (h0 : (((-2147483648) ≤ (a0 : Int)) ∧ (a0 ≤ (2147483647 : Int)))) : ((-9223372036854775808) ≤ (a0 : Int)) := by omega
theorem ow_92_15 {a0 : Int} (h0 : (((-2147483648) ≤ (a0 : Int)) ∧ (a0 ≤ (2147483647 : Int)))) : (a0 ≤ (9223372036854775807 : Int)) := by omega
theorem ow_92_16 {a0 : Int} (h0 : ((0 ≤ (a0 : Int)) ∧ (a0 ≤ (20 : Int)))) : ((-2147483648) ≤ (a0 : Int)) := by omega
theorem ow_92_17 {a0 : Int} (h0 : ((0 ≤ (a0 : Int)) ∧ (a0 ≤ (20 : Int)))) : (a0 ≤ (2147483647 : Int)) := by omega
theorem ow_92_18 {a0 a1 : Int} (h0 : ((0 ≤ (a0 : Int)) ∧ (a0 ≤ (20 : Int)))) (h1 : (a0 ≤ (a1 : Int))) : ((-2147483648) ≤ (a1 : Int)) := by omega
theorem ow_92_19 {a0 a1 : Int} (h0 : ((0 ≤ (a0 : Int)) ∧ (a0 ≤ (60 : Int)))) (h1 : ((a0 + a1) ≤ (60 : Int))) : (a1 ≤ (2147483647 : Int)) := by omega
theorem ow_92_20 {a0 : Int} (h0 : ((0 ≤ (a0 : Int)) ∧ (a0 ≤ (60 : Int)))) : ((-1) ≤ (a0 : Int)) := by omega
theorem ow_92_21 {a0 : Int} (h0 : ((0 ≤ (a0 : Int)) ∧ (a0 ≤ (60 : Int)))) : (a0 ≤ (60 : Int)) := by omega
theorem ow_92_22 {a0 : Int} (h0 : ((0 ≤ (a0 : Int)) ∧ (a0 ≤ (60 : Int)))) : (0 ≤ (a0 : Int)) := by omega
theorem ow_92_23 {a0 a1 a2 a3 a4 : Int} (h0 : (a0 ≤ (a1 : Int))) (h1 : (a2 = ((a3 + a0) : Int))) (h2 : (a2 = (a4 : Int))) (h3 : (a1 ≤ (a0 : Int))) : (a4 = ((a3 + a1) : Int)) := by omega
theorem ow_92_24 {a0 : Int} (h0 : ((2 ≤ (a0 : Int)) ∧ (a0 ≤ (9 : Int)))) : ((-2147483648) ≤ (a0 : Int)) := by omega
theorem ow_92_25 {a0 : Int} (h0 : ((2 ≤ (a0 : Int)) ∧ (a0 ≤ (9 : Int)))) : (a0 ≤ (2147483647 : Int)) := by omega
theorem ow_92_26 {a0 : Int} (h0 : ((2 ≤ (a0 : Int)) ∧ (a0 ≤ (9 : Int)))) : (1 ≤ (a0 : Int)) := by omega
theorem ow_92_27 {a0 : Int} (h0 : ((2 ≤ (a0 : Int)) ∧ (a0 ≤ (9 : Int)))) : (a0 ≤ (720000000 : Int)) := by omega
theorem ow_92_28 {a0 a1 : Int} (h0 : ((0 ≤ (a0 : Int)) ∧ ((a0 ≤ (1 : Int)) ∧ ((a0 = (1 : Int)) → ((0 ≤ (a1 : Int)) ∧ (a1 ≤ (9 : Int))))))) (h1 : ¬((a0 = (0 : Int)))) : ((0 ≤ (a1 : Int)) ∧ (a1 ≤ (9 : Int))) := by omega
theorem ow_92_29 {a0 a1 : Int} (h0 : ((2 ≤ (a0 : Int)) ∧ (a0 ≤ (9 : Int)))) (h1 : ((0 ≤ (a1 : Int)) ∧ ((a1 ≤ (8388607 : Int)) ∧ (a1 < (a0 : Int))))) : ((0 ≤ (a1 : Int)) ∧ (a1 ≤ (8 : Int))) := by omega
theorem ow_92_30 {a0 a1 a2 : Int} (h0 : ((0 ≤ (a0 : Int)) ∧ ((a0 ≤ (999 : Int)) ∧ (((a0 % 10) = (a1 : Int)) ∧ (((a0 / 10) % 10) = (a2 : Int)))))) : (0 ≤ (a0 : Int)) := by omega
theorem ow_92_31 {a0 a1 a2 : Int} (h0 : ((0 ≤ (a0 : Int)) ∧ ((a0 ≤ (999 : Int)) ∧ (((a0 % 10) = (a1 : Int)) ∧ (((a0 / 10) % 10) = (a2 : Int)))))) : (a0 ≤ (999 : Int)) := by omega
theorem ow_92_32 {a0 a1 : Int} (h0 : ((0 ≤ (a0 : Int)) ∧ ((a0 ≤ (8388607 : Int)) ∧ (a0 < (10 : Int))))) (h1 : ((0 ≤ (a1 : Int)) ∧ ((a1 ≤ (8388607 : Int)) ∧ (a1 < (10 : Int))))) : (0 ≤ (((10 * a0) + a1) : Int)) := by omega
theorem ow_92_33 {a0 a1 : Int} (h0 : ((0 ≤ (a0 : Int)) ∧ ((a0 ≤ (8388607 : Int)) ∧ (a0 < (10 : Int))))) (h1 : ((0 ≤ (a1 : Int)) ∧ ((a1 ≤ (8388607 : Int)) ∧ (a1 < (10 : Int))))) : (((10 * a0) + a1) ≤ (99 : Int)) := by omega
theorem ow_92_34 {a0 : Int} (h0 : ((0 ≤ (a0 : Int)) ∧ ((a0 ≤ (8388607 : Int)) ∧ (a0 < (199 : Int))))) : ((-99) ≤ ((a0 - 99) : Int)) := by omega
theorem ow_92_35 {a0 : Int} (h0 : ((0 ≤ (a0 : Int)) ∧ ((a0 ≤ (8388607 : Int)) ∧ (a0 < (199 : Int))))) : ((a0 - 99) ≤ (99 : Int)) := by omega
theorem ow_92_36 {a0 a1 a2 a3 : Int} (h0 : ((2 ≤ (a0 : Int)) ∧ (a0 ≤ (9 : Int)))) (h1 : ((0 ≤ (a1 : Int)) ∧ ((a1 ≤ (8388607 : Int)) ∧ (a1 < (a0 : Int))))) (h2 : ((0 ≤ (a2 : Int)) ∧ ((a2 ≤ (8388607 : Int)) ∧ (a2 < (a0 : Int))))) (h3 : ((0 ≤ (a3 : Int)) ∧ ((a3 ≤ (999 : Int)) ∧ (((a3 % 10) = (a2 : Int)) ∧ (((a3 / 10) % 10) = (a1 : Int)))))) : (((a3 % 10) ≤ (8 : Int)) ∧ (((a3 / 10) % 10) ≤ (8 : Int))) := by omega
theorem ow_92_37 {a0 a1 a2 a3 a4 : Int} (h0 : ((0 ≤ (a0 : Int)) ∧ ((a0 ≤ (8388607 : Int)) ∧ (a0 < (a1 : Int))))) (h1 : (a2 = (a1 : Int))) (h2 : ((0 ≤ (a3 : Int)) ∧ ((a3 ≤ (999 : Int)) ∧ (((a3 % 10) = (a0 : Int)) ∧ (((a3 / 10) % 10) = (a4 : Int)))))) : ((a3 % 10) < (a2 : Int)) := by omega
theorem ow_92_38 {a0 a1 a2 a3 a4 : Int} (h0 : ((0 ≤ (a0 : Int)) ∧ ((a0 ≤ (8388607 : Int)) ∧ (a0 < (a1 : Int))))) (h1 : (a2 = (a1 : Int))) (h2 : ((0 ≤ (a3 : Int)) ∧ ((a3 ≤ (999 : Int)) ∧ (((a3 % 10) = (a4 : Int)) ∧ (((a3 / 10) % 10) = (a0 : Int)))))) : (((a3 / 10) % 10) < (a2 : Int)) := by omega
theorem ow_92_39 {a0 : Int} (h0 : ((1 ≤ (a0 : Int)) ∧ (a0 ≤ (171 : Int)))) : (1 ≤ (a0 : Int)) := by omega
theorem ow_92_40 {a0 : Int} (h0 : ((1 ≤ (a0 : Int)) ∧ (a0 ≤ (171 : Int)))) : (a0 ≤ (171 : Int)) := by omega
theorem ow_92_41 {a0 a1 : Int} (h0 : ((0 ≤ (a0 : Int)) ∧ ((a0 ≤ (1 : Int)) ∧ ((a0 = (1 : Int)) → ((0 ≤ (a1 : Int)) ∧ (a1 ≤ (6 : Int))))))) (h1 : ¬((a0 = (0 : Int)))) : (0 ≤ (a1 : Int)) := by omega
theorem ow_92_42 {a0 a1 : Int} (h0 : ((0 ≤ (a0 : Int)) ∧ ((a0 ≤ (1 : Int)) ∧ ((a0 = (1 : Int)) → ((0 ≤ (a1 : Int)) ∧ (a1 ≤ (6 : Int))))))) (h1 : ¬((a0 = (0 : Int)))) : (a1 ≤ (6 : Int)) := by omega
theorem ow_92_43 {a0 : Int} (h0 : (1 ≤ (a0 : Int))) : (1 ≤ (a0 : Int)) := by omega
theorem ow_92_44 {a0 : Int} (h0 : ((0 ≤ (a0 : Int)) ∧ (a0 ≤ (720000000 : Int)))) : (a0 ≤ (720000000 : Int)) := by omega
theorem ow_92_45 {a0 a1 : Int} (h0 : ((0 ≤ (a0 : Int)) ∧ ((a0 ≤ (8388607 : Int)) ∧ (a0 < (a1 : Int))))) : ((-2147483648) ≤ (a0 : Int)) := by omega
theorem ow_92_46 {a0 a1 : Int} (h0 : ((0 ≤ (a0 : Int)) ∧ ((a0 ≤ (8388607 : Int)) ∧ (a0 < (a1 : Int))))) : (a0 ≤ (2147483647 : Int)) := by omega
theorem ow_92_47 {a0 a1 : Int} (h0 : ((2 ≤ (a0 : Int)) ∧ (a0 ≤ (9 : Int)))) (h1 : (a0 ≤ (a1 : Int))) : ((a0 : Int).toNat ≤ ((a1 : Int).toNat : Nat)) := by omega
theorem ow_92_48 {a0 : Int} {k1 : Nat} (h0 : ((0 ≤ (a0 : Int)) ∧ (a0 ≤ (9 : Int)))) (h1 : (k1 < ((a0 : Int).toNat : Nat))) : (k1 < (9 : Nat)) := by omega
theorem ow_92_49 {a0 a1 : Int} (h0 : ((2 ≤ (a0 : Int)) ∧ (a0 ≤ (9 : Int)))) (h1 : (a1 < (a0 : Int))) : ((a1 : Int).toNat < (9 : Nat)) := by omega
theorem ow_92_50 {a0 : Int} (h0 : ((0 ≤ (a0 : Int)) ∧ (a0 ≤ (9 : Int)))) : (0 ≤ (a0 : Int)) := by omega
theorem ow_92_51 {a0 a1 : Int} (h0 : ((2 ≤ (a0 : Int)) ∧ (a0 ≤ (9 : Int)))) (h1 : (a1 < (a0 : Int))) : (a1 < (((9 : Nat) : Int) : Int)) := by omega
theorem ow_92_52 {a0 : Int} (h0 : ((0 ≤ (a0 : Int)) ∧ (a0 ≤ (720000000 : Int)))) : ((-9223372036854775808) ≤ (a0 : Int)) := by omega
theorem ow_92_53 {a0 : Int} (h0 : ((0 ≤ (a0 : Int)) ∧ (a0 ≤ (720000000 : Int)))) : (a0 ≤ (9223372036854775807 : Int)) := by omega
theorem ow_92_54 {a0 : Int} (h0 : ((0 ≤ (a0 : Int)) ∧ (a0 ≤ (80000000 : Int)))) : ((-9223372036854775808) ≤ (a0 : Int)) := by omega
theorem ow_92_55 {a0 : Int} (h0 : ((0 ≤ (a0 : Int)) ∧ (a0 ≤ (80000000 : Int)))) : (a0 ≤ (9223372036854775807 : Int)) := by omega
theorem ow_92_56 {a0 a1 a2 : Int} (h0 : (((a0 = (1 : Int)) ∧ (a1 < (a2 : Int))) ∨ (((a0 = (0 : Int)) ∧ (a2 = (a1 : Int))) ∨ ((a0 = ((-1) : Int)) ∧ (a2 < (a1 : Int)))))) : ((-2147483648) ≤ (a0 : Int)) := by omega
theorem ow_92_57 {a0 a1 a2 : Int} (h0 : (((a0 = (1 : Int)) ∧ (a1 < (a2 : Int))) ∨ (((a0 = (0 : Int)) ∧ (a2 = (a1 : Int))) ∨ ((a0 = ((-1) : Int)) ∧ (a2 < (a1 : Int)))))) : (a0 ≤ (2147483647 : Int)) := by omega
theorem ow_92_58 {a0 : Int} (h0 : ((0 ≤ (a0 : Int)) ∧ ((a0 ≤ (8388607 : Int)) ∧ (a0 < (1000 : Int))))) : ((-2147483648) ≤ (a0 : Int)) := by omega
theorem ow_92_59 {a0 : Int} (h0 : ((0 ≤ (a0 : Int)) ∧ ((a0 ≤ (8388607 : Int)) ∧ (a0 < (1000 : Int))))) : (a0 ≤ (2147483647 : Int)) := by omega
theorem ow_92_60 {a0 a1 : Int} (h0 : ((2 ≤ (a0 : Int)) ∧ (a0 ≤ (9 : Int)))) (h1 : (a1 < (a0 : Int))) : (a1 ≤ (8 : Int)) := by omega
theorem ow_92_61 {a0 a1 a2 a3 a4 : Int} (h0 : ((0 ≤ (a0 : Int)) ∧ ((a0 ≤ (8388607 : Int)) ∧ (a0 < (a1 : Int))))) (h1 : ((0 ≤ (a2 : Int)) ∧ ((a2 ≤ (999 : Int)) ∧ (((a2 % 10) = (a0 : Int)) ∧ (((a2 / 10) % 10) = (a3 : Int)))))) (h2 : (a4 = (a1 : Int))) : ((a2 % 10) < (a4 : Int)) := by omega
theorem ow_92_62 {a0 a1 a2 a3 a4 : Int} (h0 : ((0 ≤ (a0 : Int)) ∧ ((a0 ≤ (8388607 : Int)) ∧ (a0 < (a1 : Int))))) (h1 : ((0 ≤ (a2 : Int)) ∧ ((a2 ≤ (999 : Int)) ∧ (((a2 % 10) = (a3 : Int)) ∧ (((a2 / 10) % 10) = (a0 : Int)))))) (h2 : (a4 = (a1 : Int))) : (((a2 / 10) % 10) < (a4 : Int)) := by omega
theorem ow_92_63 {a0 a1 a2 : Int} (h0 : (a0 < (a1 : Int))) (h1 : (a2 = (a1 : Int))) : (a0 < (a2 : Int)) := by omega
theorem ow_92_64 {a0 a1 a2 a3 a4 a5 : Int} (h0 : ((a0 + a1) ≤ (60 : Int))) (h1 : (a2 = ((a0 + a3) : Int))) (h2 : (a2 = (a4 : Int))) (h3 : (a3 < (a1 : Int))) (h4 : (a5 = (a4 : Int))) : (a5 ≤ (59 : Int)) := by omega
theorem ow_92_65 {a0 a1 a2 a4 : Int} {k3 : Nat} (h0 : ((0 ≤ (a0 : Int)) ∧ ((a0 ≤ (1 : Int)) ∧ ((a0 = (1 : Int)) → ((1 ≤ (a1 : Int)) ∧ (a1 ≤ (20 : Int))))))) (h1 : ¬((a0 = (0 : Int)))) (h2 : (((20 - a2) : Int).toNat = (k3 : Nat))) (h3 : (a2 < (a1 : Int))) (h4 : ((a2 + 1) = (a4 : Int))) : (((20 - a4) : Int).toNat < (k3 : Nat)) := by omega
theorem ow_92_66 {a0 a1 : Int} (h0 : ((0 ≤ (a0 : Int)) ∧ (a0 ≤ (20 : Int)))) (h1 : ((a0 + 1) = (a1 : Int))) : (0 ≤ (a1 : Int)) := by omega
theorem ow_92_67 {a0 a1 a2 a3 : Int} (h0 : ((0 ≤ (a0 : Int)) ∧ ((a0 ≤ (1 : Int)) ∧ ((a0 = (1 : Int)) → ((1 ≤ (a1 : Int)) ∧ (a1 ≤ (20 : Int))))))) (h1 : ¬((a0 = (0 : Int)))) (h2 : (a2 < (a1 : Int))) (h3 : ((a2 + 1) = (a3 : Int))) : (a3 ≤ (20 : Int)) := by omega
theorem ow_92_68 {a0 a1 a2 : Int} (h0 : (a0 < (a1 : Int))) (h1 : ((a0 + 1) = (a2 : Int))) : (a2 ≤ (a1 : Int)) := by omega
theorem ow_92_69 {a0 a1 a2 a3 a4 a5 a6 a7 : Int} (h0 : (a0 = ((a1 + a2) : Int))) (h1 : (a0 = (a3 : Int))) (h2 : (a4 = (a3 : Int))) (h3 : (a5 = ((a4 + 1) : Int))) (h4 : ((a2 + 1) = (a6 : Int))) (h5 : (a5 = (a7 : Int))) : (a7 = ((a1 + a6) : Int)) := by omega
theorem ow_92_70 (h0 : ¬((0 = (0 : Int)))) : False := by omega
theorem ow_92_71 (h0 : (1 = (0 : Int))) : False := by omega
theorem ow_92_72 {a0 a1 : Int} (h0 : ((0 ≤ (a0 : Int)) ∧ (a0 ≤ (9 : Int)))) (h1 : ((a0 + 1) = (a1 : Int))) : ((a1 : Int).toNat = (((a0 : Int).toNat + 1) : Nat)) := by omega
theorem ow_92_73 {a0 a1 a3 : Int} {k2 : Nat} (h0 : ((2 ≤ (a0 : Int)) ∧ (a0 ≤ (9 : Int)))) (h1 : (((9 - a1) : Int).toNat = (k2 : Nat))) (h2 : (a1 < (a0 : Int))) (h3 : ((a1 + 1) = (a3 : Int))) : (((9 - a3) : Int).toNat < (k2 : Nat)) := by omega
theorem ow_92_74 {a0 a1 a2 : Int} (h0 : (((a0 = (1 : Int)) ∧ (a1 < (a2 : Int))) ∨ (((a0 = (0 : Int)) ∧ (a2 = (a1 : Int))) ∨ ((a0 = ((-1) : Int)) ∧ (a2 < (a1 : Int)))))) (h1 : (0 ≤ (a0 : Int))) : (0 ≤ ((a2 - a1) : Int)) := by omega
theorem ow_92_75 {a0 a1 : Int} (h0 : ((0 ≤ (a0 : Int)) ∧ (a0 ≤ (720000000 : Int)))) (h1 : ((0 ≤ (a1 : Int)) ∧ (a1 ≤ (80000000 : Int)))) : ((a0 - a1) ≤ (720000000 : Int)) := by omega
theorem ow_92_76 {a0 a1 : Int} (h0 : ((0 ≤ (a0 : Int)) ∧ (a0 ≤ (9 : Int)))) (h1 : ((a0 + 1) = (a1 : Int))) : (0 ≤ (a1 : Int)) := by omega
theorem ow_92_77 {a0 a1 a2 : Int} (h0 : ((2 ≤ (a0 : Int)) ∧ (a0 ≤ (9 : Int)))) (h1 : (a1 < (a0 : Int))) (h2 : ((a1 + 1) = (a2 : Int))) : (a2 ≤ (9 : Int)) := by omega
theorem ow_92_78 {a0 a1 a2 a3 a4 : Int} (h0 : ((a0 + a1) < (a2 : Int))) (h1 : (a3 = ((a1 + a4) : Int))) : (((a0 - a4) + a3) < (a2 : Int)) := by omega
theorem ow_92_79 {a0 a1 : Int} (h0 : ((0 ≤ (a0 : Int)) ∧ ((a0 ≤ (8388607 : Int)) ∧ (a0 < (a1 : Int))))) : (0 ≤ (a0 : Int)) := by omega
theorem ow_92_80 {a0 a1 : Int} (h0 : ((0 ≤ (a0 : Int)) ∧ ((a0 ≤ (8388607 : Int)) ∧ (a0 < (a1 : Int))))) : (a0 ≤ (720000000 : Int)) := by omega
theorem ow_92_81 {a0 a1 : Int} (h0 : ((0 ≤ (a0 : Int)) ∧ ((a0 ≤ (1 : Int)) ∧ ((a0 = (1 : Int)) → ((1 ≤ (a1 : Int)) ∧ (a1 ≤ (20 : Int))))))) (h1 : ¬((a0 = (0 : Int)))) : (0 ≤ (a1 : Int)) := by omega
theorem ow_92_82 {a0 : Int} : (a0 = ((a0 + 0) : Int)) := by omega
noncomputable def F_X12_draw (a1 a2 a3 a4 : Int) (V0 : pm_M) : Int × pm_M := pf_let (V0 90 16) fun y1 => pf_let (V0 90 25) fun y4 => pf_call (F_X12_isLaw a1 V0) fun y10 _ => (if y10 = 0 then (((-1), V0)) else (pf_call (F_X12_isPerson a2 V0) fun y17 _ => (if y17 = 0 then (((-1), V0)) else (pf_call (F_X12_in a3 0 1000000 V0) fun y24 _ => (if y24 = 0 then (((-1), V0)) else (pf_call (F_X12_in a4 1 20 V0) fun y31 _ => (if y31 = 0 then (((-1), V0)) else ((if (y4 + a4) ≤ 60 then (pf_let ((pm_up V0 90 57 a3)) fun V36 => pf_val ((0 : Int), V0) (fun (q : Int × pm_M) => match q with | (x46, V49) => (pf_let (V49 90 25) fun y64 => (if a4 ≤ x46 then ((.inr (y64, V49))) else (pf_call (F_X12_draws y1 V49) fun y71 V69 => pf_call (F_X12_draws y1 V69) fun y85 V83 => pf_call (F_X12_draws 10 V83) fun y99 V97 => pf_call (F_X12_draws 10 V97) fun y113 V111 => pf_call (F_X12_draws 199 V111) fun y127 V125 => pf_let ((((100 * a2) + (10 * y71)) + y85)) fun w138 => pf_call (F_X12_works w138 ((10 * y99) + y113) (y127 - 99) V125) fun _ V141 => pf_let (V141 90 42) fun z156 => pf_let (V141 90 43) fun z158 => pf_call (F_X12_weighs a1 V141) fun _ V161 => pf_let (V161 90 51) fun y179 => pf_call (F_X12_draws y179 V161) fun y186 V184 => pf_val (.inr ((0 : Int), V0)) (fun (q : Int × Int) => match q with | (x203, x205) => (pf_let (V184 112 (x205 : Int).toNat) fun y216 => pf_let (pm_cmp x203 y216) fun y219 => (if y219 < 0 then (pf_call (F_X12_draws 1000 V184) fun y225 V223 => pf_call (F_X12_noticedNow  V223) fun y246 _ => (if y246 ≤ y225 then (pf_call (F_X12_keepsAnswer w138 ((10 * y99) + y113) (y127 - 99) x205 0 V223) fun _ V252 => pf_let (x46 + 1) fun x270 => pf_let (V252 90 25) fun y272 => (.inr (.inl (x270, V252)))) else (pf_call (F_X12_keepsAnswer w138 ((10 * y99) + y113) (y127 - 99) x205 1 V223) fun _ V277 => pf_let (x46 + 1) fun x295 => pf_let (V277 90 25) fun y297 => (.inr (.inl (x295, V277)))))) else (pf_let (x205 + 1) fun x300 => (.inl ((x203 - y216), x300)))))) (y186, 0))))) (0, V36)) else (((-1), V0)))))))))))
theorem F_X12_draw_eq (a1 a2 a3 a4 : Int) (V0 : pm_M) : F_X12_draw a1 a2 a3 a4 V0 = pf_let (V0 90 16) fun y1 => pf_let (V0 90 25) fun y4 => pf_call (F_X12_isLaw a1 V0) fun y10 _ => (if y10 = 0 then (((-1), V0)) else (pf_call (F_X12_isPerson a2 V0) fun y17 _ => (if y17 = 0 then (((-1), V0)) else (pf_call (F_X12_in a3 0 1000000 V0) fun y24 _ => (if y24 = 0 then (((-1), V0)) else (pf_call (F_X12_in a4 1 20 V0) fun y31 _ => (if y31 = 0 then (((-1), V0)) else ((if (y4 + a4) ≤ 60 then (pf_let ((pm_up V0 90 57 a3)) fun V36 => pf_val ((0 : Int), V0) (fun (q : Int × pm_M) => match q with | (x46, V49) => (pf_let (V49 90 25) fun y64 => (if a4 ≤ x46 then ((.inr (y64, V49))) else (pf_call (F_X12_draws y1 V49) fun y71 V69 => pf_call (F_X12_draws y1 V69) fun y85 V83 => pf_call (F_X12_draws 10 V83) fun y99 V97 => pf_call (F_X12_draws 10 V97) fun y113 V111 => pf_call (F_X12_draws 199 V111) fun y127 V125 => pf_let ((((100 * a2) + (10 * y71)) + y85)) fun w138 => pf_call (F_X12_works w138 ((10 * y99) + y113) (y127 - 99) V125) fun _ V141 => pf_let (V141 90 42) fun z156 => pf_let (V141 90 43) fun z158 => pf_call (F_X12_weighs a1 V141) fun _ V161 => pf_let (V161 90 51) fun y179 => pf_call (F_X12_draws y179 V161) fun y186 V184 => pf_val (.inr ((0 : Int), V0)) (fun (q : Int × Int) => match q with | (x203, x205) => (pf_let (V184 112 (x205 : Int).toNat) fun y216 => pf_let (pm_cmp x203 y216) fun y219 => (if y219 < 0 then (pf_call (F_X12_draws 1000 V184) fun y225 V223 => pf_call (F_X12_noticedNow  V223) fun y246 _ => (if y246 ≤ y225 then (pf_call (F_X12_keepsAnswer w138 ((10 * y99) + y113) (y127 - 99) x205 0 V223) fun _ V252 => pf_let (x46 + 1) fun x270 => pf_let (V252 90 25) fun y272 => (.inr (.inl (x270, V252)))) else (pf_call (F_X12_keepsAnswer w138 ((10 * y99) + y113) (y127 - 99) x205 1 V223) fun _ V277 => pf_let (x46 + 1) fun x295 => pf_let (V277 90 25) fun y297 => (.inr (.inl (x295, V277)))))) else (pf_let (x205 + 1) fun x300 => (.inl ((x203 - y216), x300)))))) (y186, 0))))) (0, V36)) else (((-1), V0))))))))))) := rfl
set_option maxHeartbeats 4000000 in
set_option maxRecDepth 100000 in
theorem fB_X12_draw (a1 a2 a3 a4 : Int) (h0 : (-2147483648) ≤ a1 ∧ a1 ≤ 2147483647) (h1 : (-2147483648) ≤ a2 ∧ a2 ≤ 2147483647) (h2 : (-2147483648) ≤ a3 ∧ a3 ≤ 2147483647) (h3 : (-2147483648) ≤ a4 ∧ a4 ≤ 2147483647) : pm_K 4 yX12_draw cX12_draw 16 (some .int) (fun av V => av = [(3, 90), (0, a1), (0, a2), (0, a3), (0, a4)] ∧ pm_oq pm_qB V ∧ pm_h1 V ∧ pm_h2 V ∧ pm_h3 V) (fun _ V r V' => ∃ y, r = some (0, y) ∧ ((-1) ≤ y ∧ y ≤ 60) ∧ pm_oq pm_qB V' ∧ pm_fs [101, 110, 111, 112] [25, 42, 43, 44, 45, 46, 47, 48, 49, 51, 57] V V' ∧ pm_h3 V' ∧ ((y = -1 ∧ V' = V) ∨ (0 ≤ y ∧ y = V 90 25 + a4 ∧ V' 90 25 = V 90 25 + a4)) ∧ F_X12_draw a1 a2 a3 a4 V = (y, V')) := by
  refine pm_MT.of (by decide) ⟨Nat.le_refl _, by decide⟩ (fun av V h => by rw [h.1]; exact (by decide : pm_words [(3, 0), (0, 0), (0, 0), (0, 0), (0, 0)] ≤ 16)) ?_
  rintro X av V0 hC - hR ⟨rfl, hV0, hn_pm_h1, hn_pm_h2, hn_pm_h3⟩
  change pm_J X 0 [(0, (3, 90)), (1, (0, a1)), (2, (0, a2)), (3, (0, a3)), (4, (0, a4))] [] 118 V0
  have hT := F_X12_draw_eq a1 a2 a3 a4 V0
  obtain ⟨y1, e2⟩ : ∃ y, V0 90 16 = y := ⟨_, rfl⟩
  have b3 := hV0.get 90 16 (lo := 2) (hi := 9) (by decide) (by decide) rfl
  rw [e2] at b3
  replace hT := hT.trans (pf_let_eq e2)
  obtain ⟨y4, e5⟩ : ∃ y, V0 90 25 = y := ⟨_, rfl⟩
  have b6 := hV0.get 90 25 (lo := 0) (hi := 60) (by decide) (by decide) rfl
  rw [e5] at b6
  replace hT := hT.trans (pf_let_eq e5)
  refine pm_iload_n hC 1 dX12_draw_0 rfl ?_
  refine pm_callS (as := [(0, a1)]) (st := []) hC (fB_X12_isLaw a1 ⟨by exact ow_92_0 h0, by exact ow_92_1 h0⟩) lm_X12_370 ls_X12_isLaw (by decide) (by decide) rfl rfl (Nat.le_of_ble_eq_true rfl) ⟨Nat.le_refl _, Or.inl rfl⟩ dX12_draw_1 ⟨rfl, hV0⟩ (fun r7 V8 hp9 => ?_)
  obtain ⟨y10, rfl, b11, rfl, hE12⟩ := hp9
  replace hT := hT.trans (pf_call_eq hE12)
  change pm_J X 4 [(0, (3, 90)), (1, (0, a1)), (2, (0, a2)), (3, (0, a3)), (4, (0, a4))] [(0, y10)] 118 V0
  refine pm_if_eq (tgt := 49) hC ⟨by exact ow_92_2 b11, by exact ow_92_3 b11⟩ dX12_draw_4 (by decide) (fun c13 => ?_) (fun c13 => ?_)
  · skip
    replace hT := hT.trans (if_pos c13)
    refine pm_iconst (v := (-1)) hC dX12_draw_49 ?_
    exact pm_iret hC hR pm_nar0 ⟨(-1), rfl, ⟨by exact ow_92_4, by exact ow_92_5⟩, hV0, (pm_fs.rf (cs := [101, 110, 111, 112]) (fs := [25, 42, 43, 44, 45, 46, 47, 48, 49, 51, 57]) (V := V0)), hn_pm_h3, (Or.inl ⟨rfl, rfl⟩), hT⟩ dX12_draw_50
  · skip
    replace hT := hT.trans (if_neg c13)
    refine pm_aload_n hC 0 (by decide) dX12_draw_7 rfl ?_
    refine pm_iload_n hC 2 dX12_draw_8 rfl ?_
    refine pm_callV (ci := 12) (as := [(0, a2)]) (st := []) hC 90 (fB_X12_isPerson a2 ⟨by exact ow_92_0 h1, by exact ow_92_1 h1⟩) lm_X12_302 li_X12_isPerson (by decide) (by decide) rfl rfl rfl (by decide) rfl rfl (Nat.le_of_ble_eq_true rfl) ⟨Nat.le_refl _, Or.inl rfl⟩ dX12_draw_9 ⟨rfl, hV0⟩ (fun r14 V15 hp16 => ?_)
    obtain ⟨y17, rfl, b18, rfl, hE19⟩ := hp16
    replace hT := hT.trans (pf_call_eq hE19)
    change pm_J X 12 [(0, (3, 90)), (1, (0, a1)), (2, (0, a2)), (3, (0, a3)), (4, (0, a4))] [(0, y17)] 118 V0
    refine pm_if_eq (tgt := 49) hC ⟨by exact ow_92_6 b18, by exact ow_92_7 b18⟩ dX12_draw_12 (by decide) (fun c20 => ?_) (fun c20 => ?_)
    · skip
      replace hT := hT.trans (if_pos c20)
      refine pm_iconst (v := (-1)) hC dX12_draw_49 ?_
      exact pm_iret hC hR pm_nar0 ⟨(-1), rfl, ⟨by exact ow_92_4, by exact ow_92_5⟩, hV0, (pm_fs.rf (cs := [101, 110, 111, 112]) (fs := [25, 42, 43, 44, 45, 46, 47, 48, 49, 51, 57]) (V := V0)), hn_pm_h3, (Or.inl ⟨rfl, rfl⟩), hT⟩ dX12_draw_50
    · skip
      replace hT := hT.trans (if_neg c20)
      refine pm_iload_n hC 3 dX12_draw_15 rfl ?_
      refine pm_iconst (v := 0) hC dX12_draw_16 ?_
      refine pm_ldcw (v := 1000000) hC 8023 dX12_draw_17 (by decide +kernel) ?_
      refine pm_callS (as := [(0, a3), (0, 0), (0, 1000000)]) (st := []) hC (fB_X12_in a3 0 1000000 ⟨by exact ow_92_0 h2, by exact ow_92_1 h2⟩ ⟨by decide, by decide⟩ ⟨by decide, by decide⟩) lm_X12_98 ls_X12_in (by decide) (by decide) rfl rfl (Nat.le_of_ble_eq_true rfl) ⟨Nat.le_refl _, Or.inl rfl⟩ dX12_draw_20 ⟨rfl, hV0⟩ (fun r21 V22 hp23 => ?_)
      obtain ⟨y24, rfl, b25, rfl, hE26⟩ := hp23
      replace hT := hT.trans (pf_call_eq hE26)
      change pm_J X 23 [(0, (3, 90)), (1, (0, a1)), (2, (0, a2)), (3, (0, a3)), (4, (0, a4))] [(0, y24)] 118 V0
      refine pm_if_eq (tgt := 49) hC ⟨by exact ow_92_8 b25, by exact ow_92_9 b25⟩ dX12_draw_23 (by decide) (fun c27 => ?_) (fun c27 => ?_)
      · skip
        replace hT := hT.trans (if_pos c27)
        refine pm_iconst (v := (-1)) hC dX12_draw_49 ?_
        exact pm_iret hC hR pm_nar0 ⟨(-1), rfl, ⟨by exact ow_92_4, by exact ow_92_5⟩, hV0, (pm_fs.rf (cs := [101, 110, 111, 112]) (fs := [25, 42, 43, 44, 45, 46, 47, 48, 49, 51, 57]) (V := V0)), hn_pm_h3, (Or.inl ⟨rfl, rfl⟩), hT⟩ dX12_draw_50
      · skip
        replace hT := hT.trans (if_neg c27)
        refine pm_iload hC 4 dX12_draw_26 rfl ?_
        refine pm_iconst (v := 1) hC dX12_draw_28 ?_
        refine pm_bipush (v := 20) hC dX12_draw_29 (by decide) ?_
        refine pm_callS (as := [(0, a4), (0, 1), (0, 20)]) (st := []) hC (fB_X12_in a4 1 20 ⟨by exact ow_92_0 h3, by exact ow_92_1 h3⟩ ⟨by decide, by decide⟩ ⟨by decide, by decide⟩) lm_X12_98 ls_X12_in (by decide) (by decide) rfl rfl (Nat.le_of_ble_eq_true rfl) ⟨Nat.le_refl _, Or.inl rfl⟩ dX12_draw_31 ⟨rfl, hV0⟩ (fun r28 V29 hp30 => ?_)
        obtain ⟨y31, rfl, b32, rfl, hE33⟩ := hp30
        replace hT := hT.trans (pf_call_eq hE33)
        change pm_J X 34 [(0, (3, 90)), (1, (0, a1)), (2, (0, a2)), (3, (0, a3)), (4, (0, a4))] [(0, y31)] 118 V0
        refine pm_if_eq (tgt := 49) hC ⟨by exact ow_92_10 b32, by exact ow_92_11 b32⟩ dX12_draw_34 (by decide) (fun c34 => ?_) (fun c34 => ?_)
        · skip
          replace hT := hT.trans (if_pos c34)
          refine pm_iconst (v := (-1)) hC dX12_draw_49 ?_
          exact pm_iret hC hR pm_nar0 ⟨(-1), rfl, ⟨by exact ow_92_4, by exact ow_92_5⟩, hV0, (pm_fs.rf (cs := [101, 110, 111, 112]) (fs := [25, 42, 43, 44, 45, 46, 47, 48, 49, 51, 57]) (V := V0)), hn_pm_h3, (Or.inl ⟨rfl, rfl⟩), hT⟩ dX12_draw_50
        · skip
          replace hT := hT.trans (if_neg c34)
          refine pm_aload_n hC 0 (by decide) dX12_draw_37 rfl ?_
          refine pm_getf (v := y4) hC 90 fl_X12_235 rfl rfl (by decide) rfl e5 dX12_draw_38 ?_
          refine pm_iload hC 4 dX12_draw_41 rfl ?_
          refine pm_iadd hC dX12_draw_43 ?_
          refine pm_bipush (v := 60) hC dX12_draw_44 (by decide) ?_
          refine pm_icmp_le (tgt := 51) hC ⟨by exact ow_92_12 h3 b6, by exact ow_92_13 b6 b32 c34⟩ ⟨by decide, by decide⟩ dX12_draw_46 (by decide) (fun c35 => ?_) (fun c35 => ?_)
          · skip
            replace hT := hT.trans (if_pos c35)
            refine pm_aload_n hC 0 (by decide) dX12_draw_51 rfl ?_
            refine pm_iload_n hC 3 dX12_draw_52 rfl ?_
            refine pm_i2l hC ⟨by exact ow_92_0 h2, by exact ow_92_1 h2⟩ dX12_draw_53 ?_
            refine pm_putf hC 90 fl_X12_464 rfl rfl rfl (by decide) rfl trivial dX12_draw_54 ?_
            refine pm_iconst (v := 0) hC dX12_draw_57 ?_
            refine pm_istore (lv' := [(5, (0, 0)), (0, (3, 90)), (1, (0, a1)), (2, (0, a2)), (3, (0, a3)), (4, (0, a4))]) hC dX12_draw_58 (by decide) rfl ?_
            have hV38 := (hV0.put 90 57 (x := a3) (lo := (-9223372036854775808)) (hi := 9223372036854775807) rfl ⟨by exact ow_92_14 h2, by exact ow_92_15 h2⟩)
            have hF39 := ((pm_fs.rf (cs := [101, 110, 111, 112]) (fs := [25, 42, 43, 44, 45, 46, 47, 48, 49, 51, 57]) (V := V0)).upf 57 a3 rfl)
            obtain ⟨V36, hv37⟩ : ∃ V, V = (pm_up V0 90 57 a3) := ⟨_, rfl⟩
            rw [← hv37] at hV38 hF39
            rw [← hv37]
            replace hT := hT.trans (pf_let_eq hv37.symm)
            have e40 : V36 90 16 = y1 := by rw [hv37]; exact e2
            have e41 : V36 90 25 = y4 := by rw [hv37]; exact e5
            have e42 : V36 90 57 = a3 := by rw [hv37]; rfl
            have hp43 : pm_h1 V36 := by rw [hv37]; exact (pm_h1.fr hn_pm_h1 rfl rfl)
            have hp44 : pm_h2 V36 := by rw [hv37]; exact (pm_h2.fr hn_pm_h2 rfl rfl rfl)
            have hp45 : pm_h3 V36 := by rw [hv37]; exact (pm_h3.fr hn_pm_h3 rfl rfl rfl)
            obtain ⟨B57, hB58, hT⟩ := pf_loop hT
            have L60 : ∀ (N62 : Nat) (x46 : Int) (V49 : pm_M), (0 ≤ x46 ∧ x46 ≤ 20) → (x46 ≤ a4) → pm_oq pm_qB V49 → pm_fs [101, 110, 111, 112] [25, 42, 43, 44, 45, 46, 47, 48, 49, 51, 57] V0 V49 → V49 90 16 = y1 → pm_h1 V49 → pm_h2 V49 → pm_h3 V49 → (V49 90 25 = y4 + x46) → F_X12_draw a1 a2 a3 a4 V0 = pf_val ((0 : Int), V0) B57 (x46, V49) → (Int.toNat (20 - x46)) = N62 → pm_J X 60 [(0, (3, 90)), (1, (0, a1)), (2, (0, a2)), (3, (0, a3)), (4, (0, a4)), (5, (0, x46))] [] 118 V49 := by
              intro N62
              induction N62 using Nat.strongRecOn with
              | _ N62 ih63 =>
              intro x46 V49 b47 b48 hV50 hF51 e52 hp53 hp54 hp55 hm56 hT hm61
              have hb59 := congrFun hB58 (x46, V49)
              obtain ⟨y64, e65⟩ : ∃ y, V49 90 25 = y := ⟨_, rfl⟩
              have b66 := hV50.get 90 25 (lo := 0) (hi := 60) (by decide) (by decide) rfl
              rw [e65] at b66
              replace hb59 := hb59.trans (pf_let_eq e65)
              refine pm_iload hC 5 dX12_draw_60 rfl ?_
              refine pm_iload hC 4 dX12_draw_62 rfl ?_
              refine pm_icmp_ge (tgt := 255) hC ⟨by exact ow_92_16 b47, by exact ow_92_17 b47⟩ ⟨by exact ow_92_18 b47 b48, by exact ow_92_19 b6 c35⟩ dX12_draw_64 (by decide) (fun c67 => ?_) (fun c67 => ?_)
              · skip
                replace hb59 := hb59.trans (if_pos c67)
                refine pm_aload_n hC 0 (by decide) dX12_draw_255 rfl ?_
                refine pm_getf (v := y64) hC 90 fl_X12_235 rfl rfl (by decide) rfl e65 dX12_draw_256 ?_
                replace hT := hT.trans (pf_val_inr hb59)
                exact pm_iret hC hR pm_nar0 ⟨y64, rfl, ⟨by exact ow_92_20 b66, by exact ow_92_21 b66⟩, hV50, hF51, hp55, (Or.inr ⟨by exact ow_92_22 b66, by rw [e5]; exact ow_92_23 b48 hm56 e65 c67, by rw [(show V49 90 25 = y64 from e65), e5]; exact ow_92_23 b48 hm56 e65 c67⟩), hT⟩ dX12_draw_259
              · skip
                replace hb59 := hb59.trans (if_neg (Int.not_le.mpr c67))
                refine pm_aload_n hC 0 (by decide) dX12_draw_67 rfl ?_
                refine pm_aload_n hC 0 (by decide) dX12_draw_68 rfl ?_
                refine pm_getf (v := y1) hC 90 fl_X12_220 rfl rfl (by decide) rfl e52 dX12_draw_69 ?_
                refine pm_i2l hC ⟨by exact ow_92_24 b3, by exact ow_92_25 b3⟩ dX12_draw_72 ?_
                refine pm_callV (ci := 12) (as := [(1, y1)]) (st := []) hC 90 (fB_X12_draws y1 ⟨by exact ow_92_26 b3, by exact ow_92_27 b3⟩) lm_X12_476 li_X12_draws (by decide) (by decide) rfl rfl rfl (by decide) rfl rfl (Nat.le_of_ble_eq_true rfl) ⟨Nat.le_refl _, Or.inl rfl⟩ dX12_draw_73 ⟨rfl, hV50⟩ (fun r68 V69 hp70 => ?_)
                obtain ⟨y71, rfl, b72, hV73, hF74, hE75⟩ := hp70
                replace hb59 := hb59.trans (pf_call_eq hE75)
                change pm_J X 76 [(0, (3, 90)), (1, (0, a1)), (2, (0, a2)), (3, (0, a3)), (4, (0, a4)), (5, (0, x46))] [(0, y71)] 118 V69
                have hF76 := pm_fs.tr hF51 hF74 (by decide) (by decide)
                have e77 : V69 90 16 = y1 := by rw [hF74.2 16 (by decide)]; exact e52
                have e78 : V69 90 25 = y64 := by rw [hF74.2 25 (by decide)]; exact e65
                have hp79 : pm_h1 V69 := (pm_h1.fr hp53 (hF74.2 16 (by decide)) (hF74.1 97 (by decide) (by decide)))
                have hp80 : pm_h2 V69 := (pm_h2.fr hp54 (hF74.2 16 (by decide)) (hF74.2 21 (by decide)) (hF74.1 99 (by decide) (by decide)))
                have hp81 : pm_h3 V69 := (pm_h3.fr hp55 (hF74.2 16 (by decide)) (hF74.2 25 (by decide)) (hF74.1 101 (by decide) (by decide)))
                refine pm_istore (lv' := [(6, (0, y71)), (0, (3, 90)), (1, (0, a1)), (2, (0, a2)), (3, (0, a3)), (4, (0, a4)), (5, (0, x46))]) hC dX12_draw_76 (by decide) rfl ?_
                refine pm_aload_n hC 1 (by decide) dX12_draw_78 rfl ?_
                refine pm_aload_n hC 1 (by decide) dX12_draw_79 rfl ?_
                refine pm_getf (v := y1) hC 90 fl_X12_220 rfl rfl (by decide) rfl e77 dX12_draw_80 ?_
                refine pm_i2l hC ⟨by exact ow_92_24 b3, by exact ow_92_25 b3⟩ dX12_draw_83 ?_
                refine pm_callV (ci := 12) (as := [(1, y1)]) (st := []) hC 90 (fB_X12_draws y1 ⟨by exact ow_92_26 b3, by exact ow_92_27 b3⟩) lm_X12_476 li_X12_draws (by decide) (by decide) rfl rfl rfl (by decide) rfl rfl (Nat.le_of_ble_eq_true rfl) ⟨Nat.le_refl _, Or.inl rfl⟩ dX12_draw_84 ⟨rfl, hV73⟩ (fun r82 V83 hp84 => ?_)
                obtain ⟨y85, rfl, b86, hV87, hF88, hE89⟩ := hp84
                replace hb59 := hb59.trans (pf_call_eq hE89)
                change pm_J X 87 [(6, (0, y71)), (0, (3, 90)), (1, (0, a1)), (2, (0, a2)), (3, (0, a3)), (4, (0, a4)), (5, (0, x46))] [(0, y85)] 118 V83
                have hF90 := pm_fs.tr hF76 hF88 (by decide) (by decide)
                have e91 : V83 90 16 = y1 := by rw [hF88.2 16 (by decide)]; exact e77
                have e92 : V83 90 25 = y64 := by rw [hF88.2 25 (by decide)]; exact e78
                have hp93 : pm_h1 V83 := (pm_h1.fr hp79 (hF88.2 16 (by decide)) (hF88.1 97 (by decide) (by decide)))
                have hp94 : pm_h2 V83 := (pm_h2.fr hp80 (hF88.2 16 (by decide)) (hF88.2 21 (by decide)) (hF88.1 99 (by decide) (by decide)))
                have hp95 : pm_h3 V83 := (pm_h3.fr hp81 (hF88.2 16 (by decide)) (hF88.2 25 (by decide)) (hF88.1 101 (by decide) (by decide)))
                refine pm_istore (lv' := [(7, (0, y85)), (6, (0, y71)), (0, (3, 90)), (1, (0, a1)), (2, (0, a2)), (3, (0, a3)), (4, (0, a4)), (5, (0, x46))]) hC dX12_draw_87 (by decide) rfl ?_
                refine pm_aload_n hC 2 (by decide) dX12_draw_89 rfl ?_
                refine pm_ldc2 (v := 10) hC 6087 dX12_draw_90 (by decide +kernel) ?_
                refine pm_callV (ci := 12) (as := [(1, 10)]) (st := []) hC 90 (fB_X12_draws 10 ⟨by decide, by decide⟩) lm_X12_476 li_X12_draws (by decide) (by decide) rfl rfl rfl (by decide) rfl rfl (Nat.le_of_ble_eq_true rfl) ⟨Nat.le_refl _, Or.inl rfl⟩ dX12_draw_93 ⟨rfl, hV87⟩ (fun r96 V97 hp98 => ?_)
                obtain ⟨y99, rfl, b100, hV101, hF102, hE103⟩ := hp98
                replace hb59 := hb59.trans (pf_call_eq hE103)
                change pm_J X 96 [(7, (0, y85)), (6, (0, y71)), (0, (3, 90)), (1, (0, a1)), (2, (0, a2)), (3, (0, a3)), (4, (0, a4)), (5, (0, x46))] [(0, y99)] 118 V97
                have hF104 := pm_fs.tr hF90 hF102 (by decide) (by decide)
                have e105 : V97 90 16 = y1 := by rw [hF102.2 16 (by decide)]; exact e91
                have e106 : V97 90 25 = y64 := by rw [hF102.2 25 (by decide)]; exact e92
                have hp107 : pm_h1 V97 := (pm_h1.fr hp93 (hF102.2 16 (by decide)) (hF102.1 97 (by decide) (by decide)))
                have hp108 : pm_h2 V97 := (pm_h2.fr hp94 (hF102.2 16 (by decide)) (hF102.2 21 (by decide)) (hF102.1 99 (by decide) (by decide)))
                have hp109 : pm_h3 V97 := (pm_h3.fr hp95 (hF102.2 16 (by decide)) (hF102.2 25 (by decide)) (hF102.1 101 (by decide) (by decide)))
                refine pm_istore (lv' := [(8, (0, y99)), (7, (0, y85)), (6, (0, y71)), (0, (3, 90)), (1, (0, a1)), (2, (0, a2)), (3, (0, a3)), (4, (0, a4)), (5, (0, x46))]) hC dX12_draw_96 (by decide) rfl ?_
                refine pm_aload_n hC 3 (by decide) dX12_draw_98 rfl ?_
                refine pm_ldc2 (v := 10) hC 6087 dX12_draw_99 (by decide +kernel) ?_
                refine pm_callV (ci := 12) (as := [(1, 10)]) (st := []) hC 90 (fB_X12_draws 10 ⟨by decide, by decide⟩) lm_X12_476 li_X12_draws (by decide) (by decide) rfl rfl rfl (by decide) rfl rfl (Nat.le_of_ble_eq_true rfl) ⟨Nat.le_refl _, Or.inl rfl⟩ dX12_draw_102 ⟨rfl, hV101⟩ (fun r110 V111 hp112 => ?_)
                obtain ⟨y113, rfl, b114, hV115, hF116, hE117⟩ := hp112
                replace hb59 := hb59.trans (pf_call_eq hE117)
                change pm_J X 105 [(8, (0, y99)), (7, (0, y85)), (6, (0, y71)), (0, (3, 90)), (1, (0, a1)), (2, (0, a2)), (3, (0, a3)), (4, (0, a4)), (5, (0, x46))] [(0, y113)] 118 V111
                have hF118 := pm_fs.tr hF104 hF116 (by decide) (by decide)
                have e119 : V111 90 16 = y1 := by rw [hF116.2 16 (by decide)]; exact e105
                have e120 : V111 90 25 = y64 := by rw [hF116.2 25 (by decide)]; exact e106
                have hp121 : pm_h1 V111 := (pm_h1.fr hp107 (hF116.2 16 (by decide)) (hF116.1 97 (by decide) (by decide)))
                have hp122 : pm_h2 V111 := (pm_h2.fr hp108 (hF116.2 16 (by decide)) (hF116.2 21 (by decide)) (hF116.1 99 (by decide) (by decide)))
                have hp123 : pm_h3 V111 := (pm_h3.fr hp109 (hF116.2 16 (by decide)) (hF116.2 25 (by decide)) (hF116.1 101 (by decide) (by decide)))
                refine pm_istore (lv' := [(9, (0, y113)), (8, (0, y99)), (7, (0, y85)), (6, (0, y71)), (0, (3, 90)), (1, (0, a1)), (2, (0, a2)), (3, (0, a3)), (4, (0, a4)), (5, (0, x46))]) hC dX12_draw_105 (by decide) rfl ?_
                refine pm_aload_n hC 4 (by decide) dX12_draw_107 rfl ?_
                refine pm_ldc2 (v := 199) hC 8032 dX12_draw_108 (by decide +kernel) ?_
                refine pm_callV (ci := 12) (as := [(1, 199)]) (st := []) hC 90 (fB_X12_draws 199 ⟨by decide, by decide⟩) lm_X12_476 li_X12_draws (by decide) (by decide) rfl rfl rfl (by decide) rfl rfl (Nat.le_of_ble_eq_true rfl) ⟨Nat.le_refl _, Or.inl rfl⟩ dX12_draw_111 ⟨rfl, hV115⟩ (fun r124 V125 hp126 => ?_)
                obtain ⟨y127, rfl, b128, hV129, hF130, hE131⟩ := hp126
                replace hb59 := hb59.trans (pf_call_eq hE131)
                change pm_J X 114 [(9, (0, y113)), (8, (0, y99)), (7, (0, y85)), (6, (0, y71)), (0, (3, 90)), (1, (0, a1)), (2, (0, a2)), (3, (0, a3)), (4, (0, a4)), (5, (0, x46))] [(0, y127)] 118 V125
                have hF132 := pm_fs.tr hF118 hF130 (by decide) (by decide)
                have e133 : V125 90 16 = y1 := by rw [hF130.2 16 (by decide)]; exact e119
                have e134 : V125 90 25 = y64 := by rw [hF130.2 25 (by decide)]; exact e120
                have hp135 : pm_h1 V125 := (pm_h1.fr hp121 (hF130.2 16 (by decide)) (hF130.1 97 (by decide) (by decide)))
                have hp136 : pm_h2 V125 := (pm_h2.fr hp122 (hF130.2 16 (by decide)) (hF130.2 21 (by decide)) (hF130.1 99 (by decide) (by decide)))
                have hp137 : pm_h3 V125 := (pm_h3.fr hp123 (hF130.2 16 (by decide)) (hF130.2 25 (by decide)) (hF130.1 101 (by decide) (by decide)))
                refine pm_bipush (v := 99) hC dX12_draw_114 (by decide) ?_
                refine pm_isub hC dX12_draw_116 ?_
                refine pm_istore (lv' := [(10, (0, (y127 - 99))), (9, (0, y113)), (8, (0, y99)), (7, (0, y85)), (6, (0, y71)), (0, (3, 90)), (1, (0, a1)), (2, (0, a2)), (3, (0, a3)), (4, (0, a4)), (5, (0, x46))]) hC dX12_draw_117 (by decide) rfl ?_
                refine pm_bipush (v := 100) hC dX12_draw_119 (by decide) ?_
                refine pm_iload_n hC 7 dX12_draw_121 rfl ?_
                refine pm_imul hC dX12_draw_122 ?_
                refine pm_bipush (v := 10) hC dX12_draw_123 (by decide) ?_
                refine pm_iload hC 4 dX12_draw_125 rfl ?_
                refine pm_imul hC dX12_draw_127 ?_
                refine pm_iadd hC dX12_draw_128 ?_
                refine pm_iload hC 3 dX12_draw_129 rfl ?_
                refine pm_iadd hC dX12_draw_131 ?_
                have b139 := pm_wvf (a := a2) (v := y71) (f := y85) (by exact ow_92_28 b18 c20) (by exact ow_92_29 b3 b72) (by exact ow_92_29 b3 b86)
                obtain ⟨w138, hew138⟩ : ∃ z, (((100 * a2) + (10 * y71)) + y85) = z := ⟨_, rfl⟩
                rw [hew138] at b139 ⊢
                replace hb59 := hb59.trans (pf_let_eq hew138)
                clear hew138
                refine pm_istore (lv' := [(11, (0, w138)), (10, (0, (y127 - 99))), (9, (0, y113)), (8, (0, y99)), (7, (0, y85)), (6, (0, y71)), (0, (3, 90)), (1, (0, a1)), (2, (0, a2)), (3, (0, a3)), (4, (0, a4)), (5, (0, x46))]) hC dX12_draw_132 (by decide) rfl ?_
                refine pm_aload_n hC 6 (by decide) dX12_draw_134 rfl ?_
                refine pm_iload hC 0 dX12_draw_135 rfl ?_
                refine pm_bipush (v := 10) hC dX12_draw_137 (by decide) ?_
                refine pm_iload hC 3 dX12_draw_139 rfl ?_
                refine pm_imul hC dX12_draw_141 ?_
                refine pm_iload hC 2 dX12_draw_142 rfl ?_
                refine pm_iadd hC dX12_draw_144 ?_
                refine pm_iload hC 1 dX12_draw_145 rfl ?_
                refine pm_callV (ci := 12) (as := [(0, w138), (0, ((10 * y99) + y113)), (0, (y127 - 99))]) (st := []) hC 90 (fB_X12_works w138 ((10 * y99) + y113) (y127 - 99) ⟨by exact ow_92_30 b139, by exact ow_92_31 b139⟩ ⟨by exact ow_92_32 b100 b114, by exact ow_92_33 b100 b114⟩ ⟨by exact ow_92_34 b128, by exact ow_92_35 b128⟩ (by exact ow_92_36 b3 b72 b86 b139)) lm_X12_376 li_X12_works (by decide) (by decide) rfl rfl rfl (by decide) rfl rfl (Nat.le_of_ble_eq_true rfl) ⟨Nat.le_refl _, Or.inl rfl⟩ dX12_draw_147 ⟨rfl, hV129, (show (w138) % 10 < V125 90 16 by exact ow_92_37 b86 e133 b139), (show (w138) / 10 % 10 < V125 90 16 by exact ow_92_38 b72 e133 b139), hp135⟩ (fun r140 V141 hp142 => ?_)
                obtain ⟨rfl, hV143, hF144, hq145, hq146, hg147, hg148, hE149⟩ := hp142
                replace hb59 := hb59.trans (pf_call_eq hE149)
                change pm_J X 150 [(11, (0, w138)), (10, (0, (y127 - 99))), (9, (0, y113)), (8, (0, y99)), (7, (0, y85)), (6, (0, y71)), (0, (3, 90)), (1, (0, a1)), (2, (0, a2)), (3, (0, a3)), (4, (0, a4)), (5, (0, x46))] [] 118 V141
                have hF150 := pm_fs.tr hF132 hF144 (by decide) (by decide)
                have e151 : V141 90 16 = y1 := by rw [hF144.2 16 (by decide)]; exact e133
                have e152 : V141 90 25 = y64 := by rw [hF144.2 25 (by decide)]; exact e134
                have hp153 : pm_h1 V141 := (pm_h1.fr hp135 (hF144.2 16 (by decide)) (hF144.1 97 (by decide) (by decide)))
                have hp154 : pm_h2 V141 := (pm_h2.fr hp136 (hF144.2 16 (by decide)) (hF144.2 21 (by decide)) (hF144.1 99 (by decide) (by decide)))
                have hp155 : pm_h3 V141 := (pm_h3.fr hp137 (hF144.2 16 (by decide)) (hF144.2 25 (by decide)) (hF144.1 101 (by decide) (by decide)))
                obtain ⟨z156, ez157⟩ : ∃ z, V141 90 42 = z := ⟨_, rfl⟩
                rw [ez157] at hq145
                replace hb59 := hb59.trans (pf_let_eq ez157)
                obtain ⟨z158, ez159⟩ : ∃ z, V141 90 43 = z := ⟨_, rfl⟩
                rw [ez159] at hq146
                replace hb59 := hb59.trans (pf_let_eq ez159)
                refine pm_aload_n hC 6 (by decide) dX12_draw_150 rfl ?_
                refine pm_iload_n hC 7 dX12_draw_151 rfl ?_
                have q163 : 1 ≤ V141 90 42 ∧ V141 90 42 ≤ 171 := by (have e : V141 90 42 = z156 := ez157); rw [e]; exact ⟨by exact ow_92_39 hq145, by exact ow_92_40 hq145⟩
                have q164 : 1 ≤ V141 90 43 ∧ V141 90 43 ≤ 171 := by (have e : V141 90 43 = z158 := ez159); rw [e]; exact ⟨by exact ow_92_39 hq146, by exact ow_92_40 hq146⟩
                refine pm_callV (ci := 12) (as := [(0, a1)]) (st := []) hC 90 (fB_X12_weighs a1 ⟨by exact ow_92_41 b11 c13, by exact ow_92_42 b11 c13⟩) lm_X12_380 li_X12_weighs (by decide) (by decide) rfl rfl rfl (by decide) rfl rfl (Nat.le_of_ble_eq_true rfl) ⟨Nat.le_refl _, Or.inl rfl⟩ dX12_draw_152 ⟨rfl, hV143, q163, q164, hg147, hp153, hp154, hg148⟩ (fun r160 V161 hp162 => ?_)
                obtain ⟨rfl, hV165, hF166, hg167, hE168⟩ := hp162
                replace hb59 := hb59.trans (pf_call_eq hE168)
                change pm_J X 155 [(11, (0, w138)), (10, (0, (y127 - 99))), (9, (0, y113)), (8, (0, y99)), (7, (0, y85)), (6, (0, y71)), (0, (3, 90)), (1, (0, a1)), (2, (0, a2)), (3, (0, a3)), (4, (0, a4)), (5, (0, x46))] [] 118 V161
                have hF169 := pm_fs.tr hF150 hF166 (by decide) (by decide)
                have e170 : V161 90 16 = y1 := by rw [hF166.2 16 (by decide)]; exact e151
                have e171 : V161 90 25 = y64 := by rw [hF166.2 25 (by decide)]; exact e152
                have e172 : V161 90 42 = z156 := by rw [hF166.2 42 (by decide)]; exact ez157
                have e173 : V161 90 43 = z158 := by rw [hF166.2 43 (by decide)]; exact ez159
                have hp174 : pm_h1 V161 := (pm_h1.fr hp153 (hF166.2 16 (by decide)) (hF166.1 97 (by decide) (by decide)))
                have hp175 : pm_h2 V161 := (pm_h2.fr hp154 (hF166.2 16 (by decide)) (hF166.2 21 (by decide)) (hF166.1 99 (by decide) (by decide)))
                have hp176 : pm_h3 V161 := (pm_h3.fr hp155 (hF166.2 16 (by decide)) (hF166.2 25 (by decide)) (hF166.1 101 (by decide) (by decide)))
                have hp177 : pm_w1 V161 := (pm_w1.fr hg147 (hF166.2 16 (by decide)) (hF166.2 48 (by decide)) (hF166.2 49 (by decide)) (hF166.1 110 (by decide) (by decide)) (hF166.1 111 (by decide) (by decide)))
                have hp178 : pm_w3 V161 := (pm_w3.fr hg148 (hF166.2 16 (by decide)) (hF166.2 46 (by decide)) (hF166.1 110 (by decide) (by decide)) (hF166.1 111 (by decide) (by decide)))
                refine pm_aload_n hC 6 (by decide) dX12_draw_155 rfl ?_
                refine pm_aload_n hC 6 (by decide) dX12_draw_156 rfl ?_
                obtain ⟨y179, e180⟩ : ∃ y, V161 90 51 = y := ⟨_, rfl⟩
                have b181 := hV165.get 90 51 (lo := 0) (hi := 720000000) (by decide) (by decide) rfl
                rw [e180] at b181
                replace hb59 := hb59.trans (pf_let_eq e180)
                refine pm_getf (v := y179) hC 90 fl_X12_362 rfl rfl (by decide) rfl e180 dX12_draw_157 ?_
                have hwp182 := hg167.1
                rw [(show V161 90 51 = y179 from e180)] at hwp182
                refine pm_callV (ci := 12) (as := [(1, y179)]) (st := []) hC 90 (fB_X12_draws y179 ⟨by exact ow_92_43 hwp182, by exact ow_92_44 b181⟩) lm_X12_476 li_X12_draws (by decide) (by decide) rfl rfl rfl (by decide) rfl rfl (Nat.le_of_ble_eq_true rfl) ⟨Nat.le_refl _, Or.inl rfl⟩ dX12_draw_160 ⟨rfl, hV165⟩ (fun r183 V184 hp185 => ?_)
                obtain ⟨y186, rfl, b187, hV188, hF189, hE190⟩ := hp185
                replace hb59 := hb59.trans (pf_call_eq hE190)
                change pm_J X 163 [(11, (0, w138)), (10, (0, (y127 - 99))), (9, (0, y113)), (8, (0, y99)), (7, (0, y85)), (6, (0, y71)), (0, (3, 90)), (1, (0, a1)), (2, (0, a2)), (3, (0, a3)), (4, (0, a4)), (5, (0, x46))] [(0, y186)] 118 V184
                have hF191 := pm_fs.tr hF169 hF189 (by decide) (by decide)
                have e192 : V184 90 16 = y1 := by rw [hF189.2 16 (by decide)]; exact e170
                have e193 : V184 90 25 = y64 := by rw [hF189.2 25 (by decide)]; exact e171
                have e194 : V184 90 42 = z156 := by rw [hF189.2 42 (by decide)]; exact e172
                have e195 : V184 90 43 = z158 := by rw [hF189.2 43 (by decide)]; exact e173
                have e196 : V184 90 51 = y179 := by rw [hF189.2 51 (by decide)]; exact e180
                have hp197 : pm_h1 V184 := (pm_h1.fr hp174 (hF189.2 16 (by decide)) (hF189.1 97 (by decide) (by decide)))
                have hp198 : pm_h2 V184 := (pm_h2.fr hp175 (hF189.2 16 (by decide)) (hF189.2 21 (by decide)) (hF189.1 99 (by decide) (by decide)))
                have hp199 : pm_h3 V184 := (pm_h3.fr hp176 (hF189.2 16 (by decide)) (hF189.2 25 (by decide)) (hF189.1 101 (by decide) (by decide)))
                have hp200 : pm_w1 V184 := (pm_w1.fr hp177 (hF189.2 16 (by decide)) (hF189.2 48 (by decide)) (hF189.2 49 (by decide)) (hF189.1 110 (by decide) (by decide)) (hF189.1 111 (by decide) (by decide)))
                have hp201 : pm_w3 V184 := (pm_w3.fr hp178 (hF189.2 16 (by decide)) (hF189.2 46 (by decide)) (hF189.1 110 (by decide) (by decide)) (hF189.1 111 (by decide) (by decide)))
                have hp202 : pm_w2 V184 := (pm_w2.fr hg167 (hF189.2 16 (by decide)) (hF189.2 51 (by decide)) (hF189.1 112 (by decide) (by decide)))
                refine pm_i2l hC ⟨by exact ow_92_45 b187, by exact ow_92_46 b187⟩ dX12_draw_163 ?_
                refine pm_lstore (lv' := [(12, (1, y186)), (11, (0, w138)), (10, (0, (y127 - 99))), (9, (0, y113)), (8, (0, y99)), (7, (0, y85)), (6, (0, y71)), (0, (3, 90)), (1, (0, a1)), (2, (0, a2)), (3, (0, a3)), (4, (0, a4)), (5, (0, x46))]) hC dX12_draw_164 (by decide) rfl ?_
                have hs0 : pm_sum (V184 112) ((0 : Int)).toNat = 0 := rfl
                have hw20 := hp202
                obtain ⟨hw21, hw22⟩ := hw20
                rw [e196] at hw21
                rw [e196, e192] at hw22
                refine pm_iconst (v := 0) hC dX12_draw_166 ?_
                refine pm_istore (lv' := [(14, (0, 0)), (12, (1, y186)), (11, (0, w138)), (10, (0, (y127 - 99))), (9, (0, y113)), (8, (0, y99)), (7, (0, y85)), (6, (0, y71)), (0, (3, 90)), (1, (0, a1)), (2, (0, a2)), (3, (0, a3)), (4, (0, a4)), (5, (0, x46))]) hC dX12_draw_167 (by decide) rfl ?_
                obtain ⟨B208, hB209, hb59⟩ := pf_loop hb59
                have L211 : ∀ (N213 : Nat) (x203 : Int) (x205 : Int), (0 ≤ x203 ∧ x203 ≤ 720000000) → (0 ≤ x205 ∧ x205 ≤ 9) → (x203 + pm_sum (V184 112) ((x205) : Int).toNat < y179) → B57 (x46, V49) = pf_val (.inr ((0 : Int), V0)) B208 (x203, x205) → (Int.toNat (9 - x205)) = N213 → pm_J X 169 [(0, (3, 90)), (1, (0, a1)), (2, (0, a2)), (3, (0, a3)), (4, (0, a4)), (5, (0, x46)), (6, (0, y71)), (7, (0, y85)), (8, (0, y99)), (9, (0, y113)), (10, (0, (y127 - 99))), (11, (0, w138)), (12, (1, x203)), (14, (0, x205))] [] 118 V184 := by
                  intro N213
                  induction N213 using Nat.strongRecOn with
                  | _ N213 ih214 =>
                  intro x203 x205 b204 b206 b207 hb59 hm212
                  have hb210 := congrFun hB209 (x203, x205)
                  have hlt : x205 < y1 := by
                    rcases Int.lt_or_le x205 y1 with q | q
                    · exact q
                    · have q1 := pm_sum_mono (f := V184 112) (n := (y1 : Int).toNat) (m := (x205 : Int).toNat) (by (exact ow_92_47 b3 q)) (fun j hj => (hV188.get 112 j (lo := 0) (hi := 80000000) (t := 0) (by decide) (show j < 9 by exact ow_92_48 b206 hj) rfl).1)
                      omega
                  refine pm_lload hC 12 dX12_draw_169 rfl ?_
                  refine pm_aload_n hC 0 (by decide) dX12_draw_171 rfl ?_
                  have e215 : V184 90 50 = 112 := hV188.one 90 50 (by decide) (by decide) rfl
                  refine pm_getf (v := 112) hC 90 fl_X12_76 rfl rfl (by decide) rfl e215 dX12_draw_172 ?_
                  refine pm_iload hC 13 dX12_draw_175 rfl ?_
                  obtain ⟨y216, e217⟩ : ∃ y, V184 112 (x205 : Int).toNat = y := ⟨_, rfl⟩
                  replace hb210 := hb210.trans (pf_let_eq e217)
                  have b218 := hV188.get 112 (x205 : Int).toNat (lo := 0) (hi := 80000000) (t := 0) (by decide) (show _ < 9 by (exact ow_92_49 b3 hlt)) rfl
                  rw [e217] at b218
                  refine pm_laload (len := 9) (v := y216) hC 112 rfl rfl (by decide) ⟨by exact ow_92_50 b206, by (exact ow_92_51 b3 hlt)⟩ (by decide) e217 dX12_draw_177 ?_
                  refine pm_lcmp hC ⟨by exact ow_92_52 b204, by exact ow_92_53 b204⟩ ⟨by exact ow_92_54 b218, by exact ow_92_55 b218⟩ dX12_draw_178 (fun y219 b220 => ?_)
                  replace hb210 := hb210.trans (pf_let_eq (pm_cmp_u b220))
                  refine pm_if_lt (tgt := 200) hC ⟨by exact ow_92_56 b220, by exact ow_92_57 b220⟩ dX12_draw_179 (by decide) (fun c221 => ?_) (fun c221 => ?_)
                  · skip
                    replace hb210 := hb210.trans (if_pos c221)
                    refine pm_aload_n hC 0 (by decide) dX12_draw_200 rfl ?_
                    refine pm_ldc2 (v := 1000) hC 7092 dX12_draw_201 (by decide +kernel) ?_
                    refine pm_callV (ci := 12) (as := [(1, 1000)]) (st := []) hC 90 (fB_X12_draws 1000 ⟨by decide, by decide⟩) lm_X12_476 li_X12_draws (by decide) (by decide) rfl rfl rfl (by decide) rfl rfl (Nat.le_of_ble_eq_true rfl) ⟨Nat.le_refl _, Or.inl rfl⟩ dX12_draw_204 ⟨rfl, hV188⟩ (fun r222 V223 hp224 => ?_)
                    obtain ⟨y225, rfl, b226, hV227, hF228, hE229⟩ := hp224
                    replace hb210 := hb210.trans (pf_call_eq hE229)
                    change pm_J X 207 [(0, (3, 90)), (1, (0, a1)), (2, (0, a2)), (3, (0, a3)), (4, (0, a4)), (5, (0, x46)), (6, (0, y71)), (7, (0, y85)), (8, (0, y99)), (9, (0, y113)), (10, (0, (y127 - 99))), (11, (0, w138)), (12, (1, x203)), (14, (0, x205))] [(0, y225)] 118 V223
                    have hF230 := pm_fs.tr hF191 hF228 (by decide) (by decide)
                    have e231 : V223 90 16 = y1 := by rw [hF228.2 16 (by decide)]; exact e192
                    have e232 : V223 90 25 = y64 := by rw [hF228.2 25 (by decide)]; exact e193
                    have e233 : V223 90 42 = z156 := by rw [hF228.2 42 (by decide)]; exact e194
                    have e234 : V223 90 43 = z158 := by rw [hF228.2 43 (by decide)]; exact e195
                    have e235 : V223 90 51 = y179 := by rw [hF228.2 51 (by decide)]; exact e196
                    have e236 : V223 90 50 = 112 := by rw [hF228.2 50 (by decide)]; exact e215
                    have hp237 : pm_h1 V223 := (pm_h1.fr hp197 (hF228.2 16 (by decide)) (hF228.1 97 (by decide) (by decide)))
                    have hp238 : pm_h2 V223 := (pm_h2.fr hp198 (hF228.2 16 (by decide)) (hF228.2 21 (by decide)) (hF228.1 99 (by decide) (by decide)))
                    have hp239 : pm_h3 V223 := (pm_h3.fr hp199 (hF228.2 16 (by decide)) (hF228.2 25 (by decide)) (hF228.1 101 (by decide) (by decide)))
                    have hp240 : pm_w1 V223 := (pm_w1.fr hp200 (hF228.2 16 (by decide)) (hF228.2 48 (by decide)) (hF228.2 49 (by decide)) (hF228.1 110 (by decide) (by decide)) (hF228.1 111 (by decide) (by decide)))
                    have hp241 : pm_w3 V223 := (pm_w3.fr hp201 (hF228.2 16 (by decide)) (hF228.2 46 (by decide)) (hF228.1 110 (by decide) (by decide)) (hF228.1 111 (by decide) (by decide)))
                    have hp242 : pm_w2 V223 := (pm_w2.fr hp202 (hF228.2 16 (by decide)) (hF228.2 51 (by decide)) (hF228.1 112 (by decide) (by decide)))
                    refine pm_aload_n hC 0 (by decide) dX12_draw_207 rfl ?_
                    refine pm_callV (ci := 12) (as := []) (st := [(0, y225)]) hC 90 fB_X12_noticedNow lm_X12_396 li_X12_noticedNow (by decide) (by decide) rfl rfl rfl (by decide) rfl rfl (Nat.le_of_ble_eq_true rfl) ⟨Nat.le_refl _, Or.inl rfl⟩ dX12_draw_208 ⟨rfl, hV227⟩ (fun r243 V244 hp245 => ?_)
                    obtain ⟨y246, rfl, b247, rfl, hE248⟩ := hp245
                    replace hb210 := hb210.trans (pf_call_eq hE248)
                    change pm_J X 211 [(0, (3, 90)), (1, (0, a1)), (2, (0, a2)), (3, (0, a3)), (4, (0, a4)), (5, (0, x46)), (6, (0, y71)), (7, (0, y85)), (8, (0, y99)), (9, (0, y113)), (10, (0, (y127 - 99))), (11, (0, w138)), (12, (1, x203)), (14, (0, x205))] [(0, y246), (0, y225)] 118 V223
                    refine pm_icmp_ge (tgt := 218) hC ⟨by exact ow_92_58 b226, by exact ow_92_59 b226⟩ ⟨by exact ow_92_0 b247, by exact ow_92_1 b247⟩ dX12_draw_211 (by decide) (fun c249 => ?_) (fun c249 => ?_)
                    · skip
                      replace hb210 := hb210.trans (if_pos c249)
                      refine pm_iconst (v := 0) hC dX12_draw_218 ?_
                      refine pm_istore (lv' := [(15, (0, 0)), (0, (3, 90)), (1, (0, a1)), (2, (0, a2)), (3, (0, a3)), (4, (0, a4)), (5, (0, x46)), (6, (0, y71)), (7, (0, y85)), (8, (0, y99)), (9, (0, y113)), (10, (0, (y127 - 99))), (11, (0, w138)), (12, (1, x203)), (14, (0, x205))]) hC dX12_draw_219 (by decide) rfl ?_
                      refine pm_aload_n hC 1 (by decide) dX12_draw_221 rfl ?_
                      refine pm_iload hC 12 dX12_draw_222 rfl ?_
                      refine pm_bipush (v := 10) hC dX12_draw_224 (by decide) ?_
                      refine pm_iload hC 9 dX12_draw_226 rfl ?_
                      refine pm_imul hC dX12_draw_228 ?_
                      refine pm_iload hC 10 dX12_draw_229 rfl ?_
                      refine pm_iadd hC dX12_draw_231 ?_
                      refine pm_iload hC 11 dX12_draw_232 rfl ?_
                      refine pm_iload hC 14 dX12_draw_234 rfl ?_
                      refine pm_iload hC 0 dX12_draw_236 rfl ?_
                      refine pm_if_eq (tgt := 245) hC ⟨by decide, by decide⟩ dX12_draw_238 (by decide) (fun c250 => ?_) (fun c250 => ?_)
                      · skip
                        refine pm_iconst (v := 0) hC dX12_draw_245 ?_
                        clear hs0 hw22
                        refine pm_callV (ci := 12) (as := [(0, w138), (0, ((10 * y99) + y113)), (0, (y127 - 99)), (0, x205), (0, 0)]) (st := []) hC 90 (fB_X12_keepsAnswer w138 ((10 * y99) + y113) (y127 - 99) x205 0 ⟨by exact ow_92_30 b139, by exact ow_92_31 b139⟩ ⟨by exact ow_92_32 b100 b114, by exact ow_92_33 b100 b114⟩ ⟨by exact ow_92_34 b128, by exact ow_92_35 b128⟩ ⟨by exact ow_92_50 b206, by (exact ow_92_60 b3 hlt)⟩ ⟨by decide, by decide⟩ (by (exact ow_92_36 b3 b72 b86 b139))) lm_X12_399 li_X12_keepsAnswer (by decide) (by decide) rfl rfl rfl (by decide) rfl rfl (Nat.le_of_ble_eq_true rfl) ⟨Nat.le_refl _, Or.inl rfl⟩ dX12_draw_246 ⟨rfl, hV227, (show (w138) % 10 < V223 90 16 by (exact ow_92_61 b86 b139 e231)), (show (w138) / 10 % 10 < V223 90 16 by (exact ow_92_62 b72 b139 e231)), (show (x205) < V223 90 16 by (exact ow_92_63 hlt e231)), (show V223 90 25 ≤ 59 by (exact ow_92_64 c35 hm56 e65 c67 e232)), hp239⟩ (fun r251 V252 hp253 => ?_)
                        obtain ⟨rfl, hV254, hF255, hg256, hxp257, hE258⟩ := hp253
                        replace hb210 := hb210.trans (pf_call_eq hE258)
                        change pm_J X 249 [(15, (0, 0)), (0, (3, 90)), (1, (0, a1)), (2, (0, a2)), (3, (0, a3)), (4, (0, a4)), (5, (0, x46)), (6, (0, y71)), (7, (0, y85)), (8, (0, y99)), (9, (0, y113)), (10, (0, (y127 - 99))), (11, (0, w138)), (12, (1, x203)), (14, (0, x205))] [] 118 V252
                        have hF259 := pm_fs.tr hF230 hF255 (by decide) (by decide)
                        have e260 : V252 90 16 = y1 := by rw [hF255.2 16 (by decide)]; exact e231
                        have e261 : V252 90 42 = z156 := by rw [hF255.2 42 (by decide)]; exact e233
                        have e262 : V252 90 43 = z158 := by rw [hF255.2 43 (by decide)]; exact e234
                        have e263 : V252 90 51 = y179 := by rw [hF255.2 51 (by decide)]; exact e235
                        have e264 : V252 90 50 = 112 := by rw [hF255.2 50 (by decide)]; exact e236
                        have hp265 : pm_h1 V252 := (pm_h1.fr hp237 (hF255.2 16 (by decide)) (hF255.1 97 (by decide) (by decide)))
                        have hp266 : pm_h2 V252 := (pm_h2.fr hp238 (hF255.2 16 (by decide)) (hF255.2 21 (by decide)) (hF255.1 99 (by decide) (by decide)))
                        have hp267 : pm_w1 V252 := (pm_w1.fr hp240 (hF255.2 16 (by decide)) (hF255.2 48 (by decide)) (hF255.2 49 (by decide)) (hF255.1 110 (by decide) (by decide)) (hF255.1 111 (by decide) (by decide)))
                        have hp268 : pm_w3 V252 := (pm_w3.fr hp241 (hF255.2 16 (by decide)) (hF255.2 46 (by decide)) (hF255.1 110 (by decide) (by decide)) (hF255.1 111 (by decide) (by decide)))
                        have hp269 : pm_w2 V252 := (pm_w2.fr hp242 (hF255.2 16 (by decide)) (hF255.2 51 (by decide)) (hF255.1 112 (by decide) (by decide)))
                        obtain ⟨x270, ei271⟩ : ∃ y : Int, x46 + 1 = y := ⟨_, rfl⟩
                        replace hb210 := hb210.trans (pf_let_eq ei271)
                        refine pm_iinc (y := x270) (lv' := [(5, (0, x270)), (15, (0, 0)), (0, (3, 90)), (1, (0, a1)), (2, (0, a2)), (3, (0, a3)), (4, (0, a4)), (6, (0, y71)), (7, (0, y85)), (8, (0, y99)), (9, (0, y113)), (10, (0, (y127 - 99))), (11, (0, w138)), (12, (1, x203)), (14, (0, x205))]) hC 6 dX12_draw_249 (by decide) rfl ei271 rfl ?_
                        refine pm_goto (tgt := 60) hC dX12_draw_252 (by decide) ?_
                        obtain ⟨y272, e273⟩ : ∃ y, V252 90 25 = y := ⟨_, rfl⟩
                        have b274 := hV254.get 90 25 (lo := 0) (hi := 60) (by decide) (by decide) rfl
                        rw [e273] at b274
                        replace hb210 := hb210.trans (pf_let_eq e273)
                        replace hb59 := hb59.trans (pf_val_inr hb210)
                        refine pm_lvsub [2, 3, 4, 5, 6, 0] (lv' := [(0, (3, 90)), (1, (0, a1)), (2, (0, a2)), (3, (0, a3)), (4, (0, a4)), (5, (0, x270))]) rfl ?_
                        exact ih63 _ (by (exact ow_92_65 b32 c34 hm61 c67 ei271)) x270 V252 ⟨by exact ow_92_66 b47 ei271, by (exact ow_92_67 b32 c34 c67 ei271)⟩ (by exact ow_92_68 c67 ei271) hV254 hF259 e260 hp265 hp266 hg256 (by (have e : V252 90 25 = y272 := e273); rw [e]; (exact ow_92_69 hm56 e65 e232 hxp257 ei271 e273)) (hT.trans (pf_val_inl hb59)) rfl
                      · skip
                        exfalso; exact ow_92_70 c250
                    · skip
                      replace hb210 := hb210.trans (if_neg (Int.not_le.mpr c249))
                      refine pm_iconst (v := 1) hC dX12_draw_214 ?_
                      refine pm_goto (tgt := 219) hC dX12_draw_215 (by decide) ?_
                      refine pm_istore (lv' := [(15, (0, 1)), (0, (3, 90)), (1, (0, a1)), (2, (0, a2)), (3, (0, a3)), (4, (0, a4)), (5, (0, x46)), (6, (0, y71)), (7, (0, y85)), (8, (0, y99)), (9, (0, y113)), (10, (0, (y127 - 99))), (11, (0, w138)), (12, (1, x203)), (14, (0, x205))]) hC dX12_draw_219 (by decide) rfl ?_
                      refine pm_aload_n hC 1 (by decide) dX12_draw_221 rfl ?_
                      refine pm_iload hC 12 dX12_draw_222 rfl ?_
                      refine pm_bipush (v := 10) hC dX12_draw_224 (by decide) ?_
                      refine pm_iload hC 9 dX12_draw_226 rfl ?_
                      refine pm_imul hC dX12_draw_228 ?_
                      refine pm_iload hC 10 dX12_draw_229 rfl ?_
                      refine pm_iadd hC dX12_draw_231 ?_
                      refine pm_iload hC 11 dX12_draw_232 rfl ?_
                      refine pm_iload hC 14 dX12_draw_234 rfl ?_
                      refine pm_iload hC 0 dX12_draw_236 rfl ?_
                      refine pm_if_eq (tgt := 245) hC ⟨by decide, by decide⟩ dX12_draw_238 (by decide) (fun c275 => ?_) (fun c275 => ?_)
                      · skip
                        exfalso; exact ow_92_71 c275
                      · skip
                        refine pm_iconst (v := 1) hC dX12_draw_241 ?_
                        refine pm_goto (tgt := 246) hC dX12_draw_242 (by decide) ?_
                        clear hs0 hw22
                        refine pm_callV (ci := 12) (as := [(0, w138), (0, ((10 * y99) + y113)), (0, (y127 - 99)), (0, x205), (0, 1)]) (st := []) hC 90 (fB_X12_keepsAnswer w138 ((10 * y99) + y113) (y127 - 99) x205 1 ⟨by exact ow_92_30 b139, by exact ow_92_31 b139⟩ ⟨by exact ow_92_32 b100 b114, by exact ow_92_33 b100 b114⟩ ⟨by exact ow_92_34 b128, by exact ow_92_35 b128⟩ ⟨by exact ow_92_50 b206, by (exact ow_92_60 b3 hlt)⟩ ⟨by decide, by decide⟩ (by (exact ow_92_36 b3 b72 b86 b139))) lm_X12_399 li_X12_keepsAnswer (by decide) (by decide) rfl rfl rfl (by decide) rfl rfl (Nat.le_of_ble_eq_true rfl) ⟨Nat.le_refl _, Or.inl rfl⟩ dX12_draw_246 ⟨rfl, hV227, (show (w138) % 10 < V223 90 16 by (exact ow_92_61 b86 b139 e231)), (show (w138) / 10 % 10 < V223 90 16 by (exact ow_92_62 b72 b139 e231)), (show (x205) < V223 90 16 by (exact ow_92_63 hlt e231)), (show V223 90 25 ≤ 59 by (exact ow_92_64 c35 hm56 e65 c67 e232)), hp239⟩ (fun r276 V277 hp278 => ?_)
                        obtain ⟨rfl, hV279, hF280, hg281, hxp282, hE283⟩ := hp278
                        replace hb210 := hb210.trans (pf_call_eq hE283)
                        change pm_J X 249 [(15, (0, 1)), (0, (3, 90)), (1, (0, a1)), (2, (0, a2)), (3, (0, a3)), (4, (0, a4)), (5, (0, x46)), (6, (0, y71)), (7, (0, y85)), (8, (0, y99)), (9, (0, y113)), (10, (0, (y127 - 99))), (11, (0, w138)), (12, (1, x203)), (14, (0, x205))] [] 118 V277
                        have hF284 := pm_fs.tr hF230 hF280 (by decide) (by decide)
                        have e285 : V277 90 16 = y1 := by rw [hF280.2 16 (by decide)]; exact e231
                        have e286 : V277 90 42 = z156 := by rw [hF280.2 42 (by decide)]; exact e233
                        have e287 : V277 90 43 = z158 := by rw [hF280.2 43 (by decide)]; exact e234
                        have e288 : V277 90 51 = y179 := by rw [hF280.2 51 (by decide)]; exact e235
                        have e289 : V277 90 50 = 112 := by rw [hF280.2 50 (by decide)]; exact e236
                        have hp290 : pm_h1 V277 := (pm_h1.fr hp237 (hF280.2 16 (by decide)) (hF280.1 97 (by decide) (by decide)))
                        have hp291 : pm_h2 V277 := (pm_h2.fr hp238 (hF280.2 16 (by decide)) (hF280.2 21 (by decide)) (hF280.1 99 (by decide) (by decide)))
                        have hp292 : pm_w1 V277 := (pm_w1.fr hp240 (hF280.2 16 (by decide)) (hF280.2 48 (by decide)) (hF280.2 49 (by decide)) (hF280.1 110 (by decide) (by decide)) (hF280.1 111 (by decide) (by decide)))
                        have hp293 : pm_w3 V277 := (pm_w3.fr hp241 (hF280.2 16 (by decide)) (hF280.2 46 (by decide)) (hF280.1 110 (by decide) (by decide)) (hF280.1 111 (by decide) (by decide)))
                        have hp294 : pm_w2 V277 := (pm_w2.fr hp242 (hF280.2 16 (by decide)) (hF280.2 51 (by decide)) (hF280.1 112 (by decide) (by decide)))
                        obtain ⟨x295, ei296⟩ : ∃ y : Int, x46 + 1 = y := ⟨_, rfl⟩
                        replace hb210 := hb210.trans (pf_let_eq ei296)
                        refine pm_iinc (y := x295) (lv' := [(5, (0, x295)), (15, (0, 1)), (0, (3, 90)), (1, (0, a1)), (2, (0, a2)), (3, (0, a3)), (4, (0, a4)), (6, (0, y71)), (7, (0, y85)), (8, (0, y99)), (9, (0, y113)), (10, (0, (y127 - 99))), (11, (0, w138)), (12, (1, x203)), (14, (0, x205))]) hC 6 dX12_draw_249 (by decide) rfl ei296 rfl ?_
                        refine pm_goto (tgt := 60) hC dX12_draw_252 (by decide) ?_
                        obtain ⟨y297, e298⟩ : ∃ y, V277 90 25 = y := ⟨_, rfl⟩
                        have b299 := hV279.get 90 25 (lo := 0) (hi := 60) (by decide) (by decide) rfl
                        rw [e298] at b299
                        replace hb210 := hb210.trans (pf_let_eq e298)
                        replace hb59 := hb59.trans (pf_val_inr hb210)
                        refine pm_lvsub [2, 3, 4, 5, 6, 0] (lv' := [(0, (3, 90)), (1, (0, a1)), (2, (0, a2)), (3, (0, a3)), (4, (0, a4)), (5, (0, x295))]) rfl ?_
                        exact ih63 _ (by (exact ow_92_65 b32 c34 hm61 c67 ei296)) x295 V277 ⟨by exact ow_92_66 b47 ei296, by (exact ow_92_67 b32 c34 c67 ei296)⟩ (by exact ow_92_68 c67 ei296) hV279 hF284 e285 hp290 hp291 hg281 (by (have e : V277 90 25 = y297 := e298); rw [e]; (exact ow_92_69 hm56 e65 e232 hxp282 ei296 e298)) (hT.trans (pf_val_inl hb59)) rfl
                  · skip
                    replace hb210 := hb210.trans (if_neg (Int.not_lt.mpr c221))
                    refine pm_lload hC 12 dX12_draw_182 rfl ?_
                    refine pm_aload_n hC 0 (by decide) dX12_draw_184 rfl ?_
                    refine pm_getf (v := 112) hC 90 fl_X12_76 rfl rfl (by decide) rfl e215 dX12_draw_185 ?_
                    refine pm_iload hC 13 dX12_draw_188 rfl ?_
                    refine pm_laload (len := 9) (v := y216) hC 112 rfl rfl (by decide) ⟨by exact ow_92_50 b206, by (exact ow_92_51 b3 hlt)⟩ (by decide) e217 dX12_draw_190 ?_
                    refine pm_lsub hC dX12_draw_191 ?_
                    refine pm_lstore (lv' := [(12, (1, (x203 - y216))), (0, (3, 90)), (1, (0, a1)), (2, (0, a2)), (3, (0, a3)), (4, (0, a4)), (5, (0, x46)), (6, (0, y71)), (7, (0, y85)), (8, (0, y99)), (9, (0, y113)), (10, (0, (y127 - 99))), (11, (0, w138)), (14, (0, x205))]) hC dX12_draw_192 (by decide) rfl ?_
                    obtain ⟨x300, ei301⟩ : ∃ y : Int, x205 + 1 = y := ⟨_, rfl⟩
                    replace hb210 := hb210.trans (pf_let_eq ei301)
                    refine pm_iinc (y := x300) (lv' := [(14, (0, x300)), (12, (1, (x203 - y216))), (0, (3, 90)), (1, (0, a1)), (2, (0, a2)), (3, (0, a3)), (4, (0, a4)), (5, (0, x46)), (6, (0, y71)), (7, (0, y85)), (8, (0, y99)), (9, (0, y113)), (10, (0, (y127 - 99))), (11, (0, w138))]) hC 13 dX12_draw_194 (by decide) rfl ei301 rfl ?_
                    have hs1 : pm_sum (V184 112) (x300 : Int).toNat = pm_sum (V184 112) (x205 : Int).toNat + y216 := by
                      rw [show (x300 : Int).toNat = (x205 : Int).toNat + 1 by exact ow_92_72 b206 ei301]
                      show pm_sum (V184 112) (x205 : Int).toNat + V184 112 (x205 : Int).toNat = _
                      rw [e217]
                    refine pm_goto (tgt := 169) hC dX12_draw_197 (by decide) ?_
                    refine pm_lvsub [2, 3, 4, 5, 6, 7, 8, 9, 10, 11, 12, 13, 1, 0] (lv' := [(0, (3, 90)), (1, (0, a1)), (2, (0, a2)), (3, (0, a3)), (4, (0, a4)), (5, (0, x46)), (6, (0, y71)), (7, (0, y85)), (8, (0, y99)), (9, (0, y113)), (10, (0, (y127 - 99))), (11, (0, w138)), (12, (1, (x203 - y216))), (14, (0, x300))]) rfl ?_
                    exact ih214 _ (by (exact ow_92_73 b3 hm212 hlt ei301)) (x203 - y216) x300 ⟨by exact ow_92_74 b220 c221, by exact ow_92_75 b204 b218⟩ ⟨by exact ow_92_76 b206 ei301, by (exact ow_92_77 b3 hlt ei301)⟩ (by exact ow_92_78 b207 hs1) (hb59.trans (pf_val_inl hb210)) rfl
                refine pm_lvsub [8, 9, 10, 11, 12, 13, 7, 6, 5, 4, 3, 2, 1, 0] (lv' := [(0, (3, 90)), (1, (0, a1)), (2, (0, a2)), (3, (0, a3)), (4, (0, a4)), (5, (0, x46)), (6, (0, y71)), (7, (0, y85)), (8, (0, y99)), (9, (0, y113)), (10, (0, (y127 - 99))), (11, (0, w138)), (12, (1, y186)), (14, (0, 0))]) rfl ?_
                exact L211 _ y186 0 ⟨by exact ow_92_79 b187, by exact ow_92_80 b187⟩ ⟨by decide, by decide⟩ (by omega) hb59 rfl
            refine pm_lvsub [1, 2, 3, 4, 5, 0] (lv' := [(0, (3, 90)), (1, (0, a1)), (2, (0, a2)), (3, (0, a3)), (4, (0, a4)), (5, (0, 0))]) rfl ?_
            exact L60 _ 0 V36 ⟨by decide, by decide⟩ (by exact ow_92_81 b32 c34) hV38 hF39 e40 hp43 hp44 hp45 (by (have e : V36 90 25 = y4 := e41); rw [e]; exact ow_92_82) hT rfl
          · skip
            replace hT := hT.trans (if_neg (Int.not_le.mpr c35))
            refine pm_iconst (v := (-1)) hC dX12_draw_49 ?_
            exact pm_iret hC hR pm_nar0 ⟨(-1), rfl, ⟨by exact ow_92_4, by exact ow_92_5⟩, hV0, (pm_fs.rf (cs := [101, 110, 111, 112]) (fs := [25, 42, 43, 44, 45, 46, 47, 48, 49, 51, 57]) (V := V0)), hn_pm_h3, (Or.inl ⟨rfl, rfl⟩), hT⟩ dX12_draw_50
