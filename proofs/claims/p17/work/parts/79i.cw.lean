theorem ow_79i_0 {a0 : Int} (h0 : (((-2147483648) ≤ (a0 : Int)) ∧ (a0 ≤ (2147483647 : Int)))) : ((-2147483648) ≤ (a0 : Int)) := by omega
theorem ow_79i_1 {a0 : Int} (h0 : (((-2147483648) ≤ (a0 : Int)) ∧ (a0 ≤ (2147483647 : Int)))) : (a0 ≤ (2147483647 : Int)) := by omega
theorem ow_79i_2 : ((76 = (76 : Int)) ∨ (76 = (77 : Int))) := by omega
theorem ow_79i_3 {a0 : Int} (h0 : ((0 ≤ (a0 : Int)) ∧ (a0 ≤ (9 : Int)))) : ((-2147483648) ≤ (a0 : Int)) := by omega
theorem ow_79i_4 {a0 : Int} (h0 : ((0 ≤ (a0 : Int)) ∧ (a0 ≤ (9 : Int)))) : (a0 ≤ (2147483647 : Int)) := by omega
theorem ow_79i_5 {a0 : Int} (h0 : (((-9223372036854775808) ≤ (a0 : Int)) ∧ (a0 ≤ (9223372036854775807 : Int)))) : ((-9223372036854775808) ≤ (a0 : Int)) := by omega
theorem ow_79i_6 {a0 : Int} (h0 : (((-9223372036854775808) ≤ (a0 : Int)) ∧ (a0 ≤ (9223372036854775807 : Int)))) : (a0 ≤ (9223372036854775807 : Int)) := by omega
theorem ow_79i_7 {a0 a1 : Int} (h0 : ((0 ≤ (a0 : Int)) ∧ (a0 ≤ (9 : Int)))) (h1 : (a1 < (a0 : Int))) : ((a1 : Int).toNat < (9 : Nat)) := by omega
theorem ow_79i_8 {a0 : Int} (h0 : ((0 ≤ (a0 : Int)) ∧ (a0 ≤ (9 : Int)))) : (0 ≤ (a0 : Int)) := by omega
theorem ow_79i_9 {a0 a1 : Int} (h0 : ((0 ≤ (a0 : Int)) ∧ (a0 ≤ (9 : Int)))) (h1 : (a1 < (a0 : Int))) : (a1 < (((9 : Nat) : Int) : Int)) := by omega
theorem ow_79i_10 {a0 a2 a3 : Int} {k1 : Nat} (h0 : (((9 - a0) : Int).toNat = (k1 : Nat))) (h1 : ((0 ≤ (a2 : Int)) ∧ (a2 ≤ (9 : Int)))) (h2 : (a0 < (a2 : Int))) (h3 : ((a0 + 1) = (a3 : Int))) : (((9 - a3) : Int).toNat < (k1 : Nat)) := by omega
theorem ow_79i_11 {a0 a1 : Int} (h0 : ((0 ≤ (a0 : Int)) ∧ (a0 ≤ (9 : Int)))) (h1 : ((a0 + 1) = (a1 : Int))) : (0 ≤ (a1 : Int)) := by omega
theorem ow_79i_12 {a0 a1 a2 : Int} (h0 : ((0 ≤ (a0 : Int)) ∧ (a0 ≤ (9 : Int)))) (h1 : (a1 < (a0 : Int))) (h2 : ((a1 + 1) = (a2 : Int))) : (a2 ≤ (9 : Int)) := by omega
theorem ow_79i_13 : ((77 = (76 : Int)) ∨ (77 = (77 : Int))) := by omega
theorem ow_79i_14 {a0 a1 : Int} (h0 : ((0 ≤ (a0 : Int)) ∧ ((a0 ≤ (1 : Int)) ∧ ((a0 = (1 : Int)) → ((0 ≤ (a1 : Int)) ∧ (a1 ≤ (69 : Int))))))) : ((-2147483648) ≤ (a0 : Int)) := by omega
theorem ow_79i_15 {a0 a1 : Int} (h0 : ((0 ≤ (a0 : Int)) ∧ ((a0 ≤ (1 : Int)) ∧ ((a0 = (1 : Int)) → ((0 ≤ (a1 : Int)) ∧ (a1 ≤ (69 : Int))))))) : (a0 ≤ (2147483647 : Int)) := by omega
theorem ow_79i_16 : ((-2147483648) ≤ ((-1) : Int)) := by omega
theorem ow_79i_17 : ((-1) ≤ (2147483647 : Int)) := by omega
theorem ow_79i_18 {a0 a1 a2 a3 : Int} (h0 : ((0 ≤ (a0 : Int)) ∧ ((a0 ≤ (1 : Int)) ∧ ((a0 = (1 : Int)) → ((0 ≤ (a1 : Int)) ∧ ((a1 ≤ (999 : Int)) ∧ ((0 ≤ (a2 : Int)) ∧ ((a2 ≤ (99 : Int)) ∧ (((-99) ≤ (a3 : Int)) ∧ ((a3 ≤ (99 : Int)) ∧ (((a1 % 10) ≤ (8 : Int)) ∧ (((a1 / 10) % 10) ≤ (8 : Int))))))))))))) : ((-2147483648) ≤ (a0 : Int)) := by omega
theorem ow_79i_19 {a0 a1 a2 a3 : Int} (h0 : ((0 ≤ (a0 : Int)) ∧ ((a0 ≤ (1 : Int)) ∧ ((a0 = (1 : Int)) → ((0 ≤ (a1 : Int)) ∧ ((a1 ≤ (999 : Int)) ∧ ((0 ≤ (a2 : Int)) ∧ ((a2 ≤ (99 : Int)) ∧ (((-99) ≤ (a3 : Int)) ∧ ((a3 ≤ (99 : Int)) ∧ (((a1 % 10) ≤ (8 : Int)) ∧ (((a1 / 10) % 10) ≤ (8 : Int))))))))))))) : (a0 ≤ (2147483647 : Int)) := by omega
theorem ow_79i_20 {a0 a1 a2 a3 : Int} (h0 : ((0 ≤ (a0 : Int)) ∧ ((a0 ≤ (1 : Int)) ∧ ((a0 = (1 : Int)) → ((0 ≤ (a1 : Int)) ∧ ((a1 ≤ (999 : Int)) ∧ ((0 ≤ (a2 : Int)) ∧ ((a2 ≤ (99 : Int)) ∧ (((-99) ≤ (a3 : Int)) ∧ ((a3 ≤ (99 : Int)) ∧ (((a1 % 10) ≤ (8 : Int)) ∧ (((a1 / 10) % 10) ≤ (8 : Int))))))))))))) (h1 : ¬((a0 = (0 : Int)))) : (0 ≤ (a1 : Int)) := by omega
theorem ow_79i_21 {a0 a1 a2 a3 : Int} (h0 : ((0 ≤ (a0 : Int)) ∧ ((a0 ≤ (1 : Int)) ∧ ((a0 = (1 : Int)) → ((0 ≤ (a1 : Int)) ∧ ((a1 ≤ (999 : Int)) ∧ ((0 ≤ (a2 : Int)) ∧ ((a2 ≤ (99 : Int)) ∧ (((-99) ≤ (a3 : Int)) ∧ ((a3 ≤ (99 : Int)) ∧ (((a1 % 10) ≤ (8 : Int)) ∧ (((a1 / 10) % 10) ≤ (8 : Int))))))))))))) (h1 : ¬((a0 = (0 : Int)))) : (a1 ≤ (999 : Int)) := by omega
theorem ow_79i_22 {a0 a1 a2 a3 : Int} (h0 : ((0 ≤ (a0 : Int)) ∧ ((a0 ≤ (1 : Int)) ∧ ((a0 = (1 : Int)) → ((0 ≤ (a1 : Int)) ∧ ((a1 ≤ (999 : Int)) ∧ ((0 ≤ (a2 : Int)) ∧ ((a2 ≤ (99 : Int)) ∧ (((-99) ≤ (a3 : Int)) ∧ ((a3 ≤ (99 : Int)) ∧ (((a1 % 10) ≤ (8 : Int)) ∧ (((a1 / 10) % 10) ≤ (8 : Int))))))))))))) (h1 : ¬((a0 = (0 : Int)))) : (0 ≤ (a2 : Int)) := by omega
theorem ow_79i_23 {a0 a1 a2 a3 : Int} (h0 : ((0 ≤ (a0 : Int)) ∧ ((a0 ≤ (1 : Int)) ∧ ((a0 = (1 : Int)) → ((0 ≤ (a1 : Int)) ∧ ((a1 ≤ (999 : Int)) ∧ ((0 ≤ (a2 : Int)) ∧ ((a2 ≤ (99 : Int)) ∧ (((-99) ≤ (a3 : Int)) ∧ ((a3 ≤ (99 : Int)) ∧ (((a1 % 10) ≤ (8 : Int)) ∧ (((a1 / 10) % 10) ≤ (8 : Int))))))))))))) (h1 : ¬((a0 = (0 : Int)))) : (a2 ≤ (99 : Int)) := by omega
theorem ow_79i_24 {a0 a1 a2 a3 : Int} (h0 : ((0 ≤ (a0 : Int)) ∧ ((a0 ≤ (1 : Int)) ∧ ((a0 = (1 : Int)) → ((0 ≤ (a1 : Int)) ∧ ((a1 ≤ (999 : Int)) ∧ ((0 ≤ (a2 : Int)) ∧ ((a2 ≤ (99 : Int)) ∧ (((-99) ≤ (a3 : Int)) ∧ ((a3 ≤ (99 : Int)) ∧ (((a1 % 10) ≤ (8 : Int)) ∧ (((a1 / 10) % 10) ≤ (8 : Int))))))))))))) (h1 : ¬((a0 = (0 : Int)))) : ((-99) ≤ (a3 : Int)) := by omega
theorem ow_79i_25 {a0 a1 a2 a3 : Int} (h0 : ((0 ≤ (a0 : Int)) ∧ ((a0 ≤ (1 : Int)) ∧ ((a0 = (1 : Int)) → ((0 ≤ (a1 : Int)) ∧ ((a1 ≤ (999 : Int)) ∧ ((0 ≤ (a2 : Int)) ∧ ((a2 ≤ (99 : Int)) ∧ (((-99) ≤ (a3 : Int)) ∧ ((a3 ≤ (99 : Int)) ∧ (((a1 % 10) ≤ (8 : Int)) ∧ (((a1 / 10) % 10) ≤ (8 : Int))))))))))))) (h1 : ¬((a0 = (0 : Int)))) : (a3 ≤ (99 : Int)) := by omega
theorem ow_79i_26 {a0 a1 a2 a3 : Int} (h0 : ((0 ≤ (a0 : Int)) ∧ ((a0 ≤ (1 : Int)) ∧ ((a0 = (1 : Int)) → ((0 ≤ (a1 : Int)) ∧ ((a1 ≤ (999 : Int)) ∧ ((0 ≤ (a2 : Int)) ∧ ((a2 ≤ (99 : Int)) ∧ (((-99) ≤ (a3 : Int)) ∧ ((a3 ≤ (99 : Int)) ∧ (((a1 % 10) ≤ (8 : Int)) ∧ (((a1 / 10) % 10) ≤ (8 : Int))))))))))))) (h1 : ¬((a0 = (0 : Int)))) : (((a1 % 10) ≤ (8 : Int)) ∧ (((a1 / 10) % 10) ≤ (8 : Int))) := by omega
theorem ow_79i_27 {a0 a1 : Int} (h0 : ((0 ≤ (a0 : Int)) ∧ ((a0 ≤ (1 : Int)) ∧ ((a0 = (1 : Int)) → ((0 ≤ (a1 : Int)) ∧ (a1 ≤ (69 : Int))))))) (h1 : ¬((a0 = (0 : Int)))) : (0 ≤ (a1 : Int)) := by omega
theorem ow_79i_28 {a0 : Int} (h0 : (((-2147483648) ≤ (a0 : Int)) ∧ (a0 ≤ (2147483647 : Int)))) : ((-2147483648) ≤ ((a0 / 10) : Int)) := by omega
theorem ow_79i_29 {a0 : Int} (h0 : (((-2147483648) ≤ (a0 : Int)) ∧ (a0 ≤ (2147483647 : Int)))) : ((a0 / 10) ≤ (2147483647 : Int)) := by omega
theorem ow_79i_30 {a0 : Int} : ((-2147483648) ≤ ((a0 % 10) : Int)) := by omega
theorem ow_79i_31 {a0 : Int} : ((a0 % 10) ≤ (2147483647 : Int)) := by omega
theorem ow_79i_32 : ((-1) ≤ ((-1) : Int)) := by omega
theorem ow_79i_33 (h0 : ¬((0 = (0 : Int)))) : False := by omega
theorem ow_79i_34 {a0 : Int} (h0 : (0 ≤ (a0 : Int))) : ((-2147483648) ≤ (a0 : Int)) := by omega
theorem ow_79i_35 (h0 : (1 = (0 : Int))) : False := by omega
theorem ow_79i_36 {a0 a1 : Int} (h0 : ((0 ≤ (a0 : Int)) ∧ ((a0 ≤ (1 : Int)) ∧ ((a0 = (1 : Int)) → ((0 ≤ (a1 : Int)) ∧ (a1 ≤ (9 : Int))))))) : ((-2147483648) ≤ (a0 : Int)) := by omega
theorem ow_79i_37 {a0 a1 : Int} (h0 : ((0 ≤ (a0 : Int)) ∧ ((a0 ≤ (1 : Int)) ∧ ((a0 = (1 : Int)) → ((0 ≤ (a1 : Int)) ∧ (a1 ≤ (9 : Int))))))) : (a0 ≤ (2147483647 : Int)) := by omega
theorem ow_79i_38 {a0 : Int} (h0 : (a0 = (0 : Int))) : ((-2147483648) ≤ (a0 : Int)) := by omega
theorem ow_79i_39 {a0 : Int} (h0 : (a0 = (0 : Int))) : (a0 ≤ (2147483647 : Int)) := by omega
theorem ow_79i_40 {a0 : Int} (h0 : (a0 = (0 : Int))) (h1 : ¬((a0 = (0 : Int)))) : False := by omega
theorem ow_79i_41 {a0 : Int} (h0 : (((-1) ≤ (a0 : Int)) ∧ (a0 ≤ (1000 : Int)))) : ((-1) ≤ (a0 : Int)) := by omega
theorem ow_79i_42 {a0 : Int} (h0 : (((-1) ≤ (a0 : Int)) ∧ (a0 ≤ (1000 : Int)))) : (a0 ≤ (2147483647 : Int)) := by omega
theorem ow_79i_43 {a0 : Int} (h0 : (((-1) ≤ (a0 : Int)) ∧ (a0 ≤ (2147483647 : Int)))) : ((-1) ≤ (a0 : Int)) := by omega
theorem ow_79i_44 {a0 : Int} (h0 : (((-1) ≤ (a0 : Int)) ∧ (a0 ≤ (2147483647 : Int)))) : (a0 ≤ (2147483647 : Int)) := by omega
theorem ow_79i_45 {a0 : Int} (h0 : (((-1) ≤ (a0 : Int)) ∧ (a0 ≤ (1000 : Int)))) : (a0 ≤ (1000 : Int)) := by omega
theorem ow_79i_46 {a0 : Int} (h0 : ((0 ≤ (a0 : Int)) ∧ (a0 ≤ (16 : Int)))) : ((-2147483648) ≤ (a0 : Int)) := by omega
theorem ow_79i_47 {a0 : Int} (h0 : ((0 ≤ (a0 : Int)) ∧ (a0 ≤ (16 : Int)))) : (a0 ≤ (2147483647 : Int)) := by omega
theorem ow_79i_48 {a0 a1 a3 : Int} {k2 : Nat} (h0 : ((0 ≤ (a0 : Int)) ∧ (a0 ≤ (9 : Int)))) (h1 : (((9 - a1) : Int).toNat = (k2 : Nat))) (h2 : (a1 < (a0 : Int))) (h3 : ((a1 + 1) = (a3 : Int))) : (((9 - a3) : Int).toNat < (k2 : Nat)) := by omega
theorem ow_79i_49 {a0 a1 a2 a3 : Int} (h0 : ((0 ≤ (a0 : Int)) ∧ ((a0 ≤ (1 : Int)) ∧ ((a0 = (1 : Int)) → ((0 ≤ (a1 : Int)) ∧ (a1 ≤ (9 : Int))))))) (h1 : ¬((a0 = (0 : Int)))) (h2 : ((0 ≤ (a2 : Int)) ∧ (a2 ≤ (9 : Int)))) (h3 : ((0 ≤ (a3 : Int)) ∧ (a3 ≤ (9 : Int)))) : (0 ≤ ((((a1 * 100) + (a2 * 10)) + a3) : Int)) := by omega
theorem ow_79i_50 {a0 a1 a2 a3 a4 : Int} (h0 : ((0 ≤ (a0 : Int)) ∧ ((a0 ≤ (1 : Int)) ∧ ((a0 = (1 : Int)) → ((0 ≤ (a1 : Int)) ∧ (a1 ≤ (9 : Int))))))) (h1 : ¬((a0 = (0 : Int)))) (h2 : ((0 ≤ (a2 : Int)) ∧ (a2 ≤ (9 : Int)))) (h3 : (a3 < (a2 : Int))) (h4 : (a4 < (a2 : Int))) : ((((a1 * 100) + (a3 * 10)) + a4) ≤ (999 : Int)) := by omega
theorem ow_79i_51 {a0 a1 : Int} (h0 : (0 ≤ (a0 : Int))) (h1 : ((0 ≤ (a1 : Int)) ∧ (a1 ≤ (16 : Int)))) : (0 ≤ (((a1 * 10) + a0) : Int)) := by omega
theorem ow_79i_52 {a0 a1 : Int} (h0 : (a0 < (10 : Int))) (h1 : (a1 < (10 : Int))) : (((a1 * 10) + a0) ≤ (99 : Int)) := by omega
theorem ow_79i_53 {a0 : Int} (h0 : (((-1) ≤ (a0 : Int)) ∧ (a0 ≤ (2147483647 : Int)))) : ((-2147483648) ≤ (a0 : Int)) := by omega
theorem ow_79i_54 {a0 a2 : Int} {k1 : Nat} (h0 : (((16 - a0) : Int).toNat = (k1 : Nat))) (h1 : (a0 < (10 : Int))) (h2 : ((a0 + 1) = (a2 : Int))) : (((16 - a2) : Int).toNat < (k1 : Nat)) := by omega
theorem ow_79i_55 {a0 a1 : Int} (h0 : ((0 ≤ (a0 : Int)) ∧ (a0 ≤ (16 : Int)))) (h1 : ((a0 + 1) = (a1 : Int))) : (0 ≤ (a1 : Int)) := by omega
theorem ow_79i_56 {a0 a1 : Int} (h0 : (a0 < (10 : Int))) (h1 : ((a0 + 1) = (a1 : Int))) : (a1 ≤ (16 : Int)) := by omega
theorem ow_79i_57 {a0 a1 : Int} (h0 : (((-1) ≤ (a0 : Int)) ∧ (a0 ≤ (2147483647 : Int)))) (h1 : (a0 < (a1 : Int))) : ((-1) ≤ (a1 : Int)) := by omega
theorem ow_79i_58 {a0 a1 a2 : Int} (h0 : ((0 ≤ (a0 : Int)) ∧ (a0 ≤ (9 : Int)))) (h1 : ((0 ≤ (a1 : Int)) ∧ (a1 ≤ (9 : Int)))) (h2 : ((0 ≤ (a2 : Int)) ∧ (a2 ≤ (16 : Int)))) : ((-1) ≤ ((((a0 * 100) + (a1 * 10)) + a2) : Int)) := by omega
theorem ow_79i_59 {a0 a1 a2 a3 : Int} (h0 : ((0 ≤ (a0 : Int)) ∧ (a0 ≤ (9 : Int)))) (h1 : (a1 < (a0 : Int))) (h2 : (a2 < (a0 : Int))) (h3 : (a3 < (10 : Int))) : ((((a1 * 100) + (a2 * 10)) + a3) ≤ (1000 : Int)) := by omega
theorem ow_79i_60 {a0 : Int} (h0 : (a0 = (1 : Int))) : ((-2147483648) ≤ (a0 : Int)) := by omega
theorem ow_79i_61 {a0 : Int} (h0 : (a0 = (1 : Int))) : (a0 ≤ (2147483647 : Int)) := by omega
theorem ow_79i_62 {a0 : Int} (h0 : (a0 = (1 : Int))) (h1 : (a0 = (0 : Int))) : False := by omega
theorem ow_79i_63 {a0 a1 a2 a3 a4 : Int} (h0 : ((0 ≤ (a0 : Int)) ∧ ((a0 ≤ (1 : Int)) ∧ ((a0 = (1 : Int)) → ((0 ≤ (a1 : Int)) ∧ ((a1 ≤ (6 : Int)) ∧ ((0 ≤ (a2 : Int)) ∧ ((a2 ≤ (999 : Int)) ∧ ((0 ≤ (a3 : Int)) ∧ ((a3 ≤ (99 : Int)) ∧ (((-99) ≤ (a4 : Int)) ∧ ((a4 ≤ (99 : Int)) ∧ (((a2 % 10) ≤ (8 : Int)) ∧ (((a2 / 10) % 10) ≤ (8 : Int))))))))))))))) : ((-2147483648) ≤ (a0 : Int)) := by omega
theorem ow_79i_64 {a0 a1 a2 a3 a4 : Int} (h0 : ((0 ≤ (a0 : Int)) ∧ ((a0 ≤ (1 : Int)) ∧ ((a0 = (1 : Int)) → ((0 ≤ (a1 : Int)) ∧ ((a1 ≤ (6 : Int)) ∧ ((0 ≤ (a2 : Int)) ∧ ((a2 ≤ (999 : Int)) ∧ ((0 ≤ (a3 : Int)) ∧ ((a3 ≤ (99 : Int)) ∧ (((-99) ≤ (a4 : Int)) ∧ ((a4 ≤ (99 : Int)) ∧ (((a2 % 10) ≤ (8 : Int)) ∧ (((a2 / 10) % 10) ≤ (8 : Int))))))))))))))) : (a0 ≤ (2147483647 : Int)) := by omega
theorem ow_79i_65 {a0 a1 a2 a3 a4 : Int} (h0 : ((0 ≤ (a0 : Int)) ∧ ((a0 ≤ (1 : Int)) ∧ ((a0 = (1 : Int)) → ((0 ≤ (a1 : Int)) ∧ ((a1 ≤ (6 : Int)) ∧ ((0 ≤ (a2 : Int)) ∧ ((a2 ≤ (999 : Int)) ∧ ((0 ≤ (a3 : Int)) ∧ ((a3 ≤ (99 : Int)) ∧ (((-99) ≤ (a4 : Int)) ∧ ((a4 ≤ (99 : Int)) ∧ (((a2 % 10) ≤ (8 : Int)) ∧ (((a2 / 10) % 10) ≤ (8 : Int))))))))))))))) (h1 : ¬((a0 = (0 : Int)))) : ((-99) ≤ (a4 : Int)) := by omega
theorem ow_79i_66 {a0 a1 a2 a3 a4 : Int} (h0 : ((0 ≤ (a0 : Int)) ∧ ((a0 ≤ (1 : Int)) ∧ ((a0 = (1 : Int)) → ((0 ≤ (a1 : Int)) ∧ ((a1 ≤ (6 : Int)) ∧ ((0 ≤ (a2 : Int)) ∧ ((a2 ≤ (999 : Int)) ∧ ((0 ≤ (a3 : Int)) ∧ ((a3 ≤ (99 : Int)) ∧ (((-99) ≤ (a4 : Int)) ∧ ((a4 ≤ (99 : Int)) ∧ (((a2 % 10) ≤ (8 : Int)) ∧ (((a2 / 10) % 10) ≤ (8 : Int))))))))))))))) (h1 : ¬((a0 = (0 : Int)))) : (a4 ≤ (99 : Int)) := by omega
theorem ow_79i_67 {a0 : Int} (h0 : ((0 ≤ (a0 : Int)) ∧ (a0 ≤ (8 : Int)))) : ((-2147483648) ≤ (a0 : Int)) := by omega
theorem ow_79i_68 {a0 : Int} (h0 : ((0 ≤ (a0 : Int)) ∧ (a0 ≤ (8 : Int)))) : (a0 ≤ (2147483647 : Int)) := by omega
theorem ow_79i_69 : ((-1) ≤ (0 : Int)) := by omega
theorem ow_79i_70 : (0 ≤ (1 : Int)) := by omega
theorem ow_79i_71 : ((-1) ≤ (1 : Int)) := by omega
theorem ow_79i_72 : (1 ≤ (1 : Int)) := by omega
theorem ow_79i_73 {a0 : Int} (h0 : (((-2147483648) ≤ (a0 : Int)) ∧ (a0 ≤ (2147483647 : Int)))) : ((-9223372036854775808) ≤ (a0 : Int)) := by omega
theorem ow_79i_74 {a0 : Int} (h0 : (((-2147483648) ≤ (a0 : Int)) ∧ (a0 ≤ (2147483647 : Int)))) : (a0 ≤ (9223372036854775807 : Int)) := by omega
theorem ow_79i_75 {a0 : Int} (h0 : ((0 ≤ (a0 : Int)) ∧ (a0 ≤ (8 : Int)))) : (0 ≤ (a0 : Int)) := by omega
theorem ow_79i_76 {a0 : Int} (h0 : ((0 ≤ (a0 : Int)) ∧ (a0 ≤ (8 : Int)))) : (a0 ≤ (8 : Int)) := by omega
theorem ow_79i_77 {a0 : Int} (h0 : (((-99) ≤ (a0 : Int)) ∧ (a0 ≤ (99 : Int)))) : ((-2147483648) ≤ (a0 : Int)) := by omega
theorem ow_79i_78 {a0 : Int} (h0 : (((-99) ≤ (a0 : Int)) ∧ (a0 ≤ (99 : Int)))) : (a0 ≤ (2147483647 : Int)) := by omega
theorem ow_79i_79 {a0 a1 : Int} (h0 : (((-2147483648) ≤ (a0 : Int)) ∧ ((a0 ≤ (2147483647 : Int)) ∧ ((a1 = ((-2147483648) : Int)) ∨ ((0 ≤ (a0 : Int)) ∧ ((a0 = (a1 : Int)) ∨ (a0 = ((-a1) : Int)))))))) : ((-2147483648) ≤ (a0 : Int)) := by omega
theorem ow_79i_80 {a0 a1 : Int} (h0 : (((-2147483648) ≤ (a0 : Int)) ∧ ((a0 ≤ (2147483647 : Int)) ∧ ((a1 = ((-2147483648) : Int)) ∨ ((0 ≤ (a0 : Int)) ∧ ((a0 = (a1 : Int)) ∨ (a0 = ((-a1) : Int)))))))) : (a0 ≤ (2147483647 : Int)) := by omega
theorem ow_79i_81 {a0 : Int} (h0 : ((0 ≤ (a0 : Int)) ∧ (a0 ≤ (9 : Int)))) : ((-9223372036854775808) ≤ (a0 : Int)) := by omega
theorem ow_79i_82 {a0 : Int} (h0 : ((0 ≤ (a0 : Int)) ∧ (a0 ≤ (9 : Int)))) : (a0 ≤ (9223372036854775807 : Int)) := by omega
theorem ow_79i_83 {a0 a1 : Int} (h0 : (((-2147483648) ≤ (a0 : Int)) ∧ ((a0 ≤ (2147483647 : Int)) ∧ ((a1 = ((-2147483648) : Int)) ∨ ((0 ≤ (a0 : Int)) ∧ ((a0 = (a1 : Int)) ∨ (a0 = ((-a1) : Int)))))))) : ((-9223372036854775808) ≤ (a0 : Int)) := by omega
theorem ow_79i_84 {a0 a1 : Int} (h0 : (((-2147483648) ≤ (a0 : Int)) ∧ ((a0 ≤ (2147483647 : Int)) ∧ ((a1 = ((-2147483648) : Int)) ∨ ((0 ≤ (a0 : Int)) ∧ ((a0 = (a1 : Int)) ∨ (a0 = ((-a1) : Int)))))))) : (a0 ≤ (9223372036854775807 : Int)) := by omega
theorem ow_79i_85 {a0 : Int} (h0 : ((0 ≤ (a0 : Int)) ∧ (a0 ≤ (64 : Int)))) : ((-2147483648) ≤ (a0 : Int)) := by omega
theorem ow_79i_86 {a0 : Int} (h0 : ((0 ≤ (a0 : Int)) ∧ (a0 ≤ (64 : Int)))) : (a0 ≤ (2147483647 : Int)) := by omega
theorem ow_79i_87 {a0 : Int} (h0 : ((0 ≤ (a0 : Int)) ∧ (a0 ≤ (64 : Int)))) : (((a0 - 1) : Int).toNat < (64 : Nat)) := by omega
theorem ow_79i_88 {a0 : Int} (h0 : (0 < (a0 : Int))) : (0 ≤ ((a0 - 1) : Int)) := by omega
theorem ow_79i_89 {a0 : Int} (h0 : ((0 ≤ (a0 : Int)) ∧ (a0 ≤ (64 : Int)))) : ((a0 - 1) < (((64 : Nat) : Int) : Int)) := by omega
theorem ow_79i_90 {a0 : Int} (h0 : ((0 ≤ (a0 : Int)) ∧ (a0 ≤ (64 : Int)))) : ((a0 - 1) ≤ (64 : Int)) := by omega
theorem ow_79i_91 : ((-9223372036854775808) ≤ (0 : Int)) := by omega
theorem ow_79i_92 : (0 ≤ (9223372036854775807 : Int)) := by omega
theorem ow_79i_93 {a0 a1 : Int} (h0 : (((-9223372036854775808) ≤ (a0 : Int)) ∧ (a0 ≤ (9223372036854775807 : Int)))) (h1 : ((a1 ≤ (1000000 : Int)) ∧ ((a1 ≤ (a0 : Int)) ∧ ((a1 = (1000000 : Int)) ∨ (a1 = (a0 : Int)))))) : ((-9223372036854775808) ≤ (a1 : Int)) := by omega
theorem ow_79i_94 {a0 a1 : Int} (h0 : ((a0 ≤ (1000000 : Int)) ∧ ((a0 ≤ (a1 : Int)) ∧ ((a0 = (1000000 : Int)) ∨ (a0 = (a1 : Int)))))) : (a0 ≤ (1000000 : Int)) := by omega
theorem ow_79i_95 {a0 a1 : Int} (h0 : (((-9223372036854775808) ≤ (a0 : Int)) ∧ ((a0 ≤ (1000000 : Int)) ∧ ((a0 ≤ (1000000 : Int)) ∧ (a0 ≤ (a1 : Int)))))) : ((-9223372036854775808) ≤ (a0 : Int)) := by omega
theorem ow_79i_96 {a0 a1 : Int} (h0 : (((-9223372036854775808) ≤ (a0 : Int)) ∧ ((a0 ≤ (1000000 : Int)) ∧ ((a0 ≤ (1000000 : Int)) ∧ (a0 ≤ (a1 : Int)))))) : (a0 ≤ (9223372036854775807 : Int)) := by omega
theorem ow_79i_97 {a0 a1 : Int} (h0 : (((-1000000) ≤ (a0 : Int)) ∧ ((a1 ≤ (a0 : Int)) ∧ ((a0 = ((-1000000) : Int)) ∨ (a0 = (a1 : Int)))))) : ((-1000000) ≤ (a0 : Int)) := by omega
theorem ow_79i_98 {a0 a1 a2 : Int} (h0 : (((-9223372036854775808) ≤ (a0 : Int)) ∧ ((a0 ≤ (1000000 : Int)) ∧ ((a0 ≤ (1000000 : Int)) ∧ (a0 ≤ (a1 : Int)))))) (h1 : (((-1000000) ≤ (a2 : Int)) ∧ ((a0 ≤ (a2 : Int)) ∧ ((a2 = ((-1000000) : Int)) ∨ (a2 = (a0 : Int)))))) : (a2 ≤ (1000000 : Int)) := by omega
theorem ow_79i_99 {a0 a1 : Int} (h0 : (((-1000000) ≤ (a0 : Int)) ∧ ((a0 ≤ (1000000 : Int)) ∧ (((-1000000) ≤ (a0 : Int)) ∧ (a1 ≤ (a0 : Int)))))) : ((-1000000) ≤ (a0 : Int)) := by omega
theorem ow_79i_100 {a0 a1 : Int} (h0 : (((-1000000) ≤ (a0 : Int)) ∧ ((a0 ≤ (1000000 : Int)) ∧ (((-1000000) ≤ (a0 : Int)) ∧ (a1 ≤ (a0 : Int)))))) : (a0 ≤ (1000000 : Int)) := by omega
theorem ow_79i_101 {a0 : Int} (h0 : ((0 ≤ (a0 : Int)) ∧ (a0 ≤ (64 : Int)))) : (0 ≤ (a0 : Int)) := by omega
theorem ow_79i_102 {a0 : Int} (h0 : (a0 < (64 : Int))) : (a0 < (((64 : Nat) : Int) : Int)) := by omega
theorem ow_79i_103 {a0 : Int} (h0 : ((0 ≤ (a0 : Int)) ∧ (a0 ≤ (64 : Int)))) : (0 ≤ ((a0 + 1) : Int)) := by omega
theorem ow_79i_104 {a0 : Int} (h0 : (a0 < (64 : Int))) : ((a0 + 1) ≤ (64 : Int)) := by omega
noncomputable def F_X10_partedBy (a1 a2 : Int) (V0 : pm_M) : Int × pm_M := pf_call (F_X10_weigh a1 V0) fun _ V2 => (if V2 73 13 = 76 then ((if V2 73 15 = 76 then (pf_let (V2 73 14) fun y10 => pf_call (F_X10_weigh a2 (pm_up (pm_up V2 73 13 76) 73 15 76)) fun _ V14 => pf_val ((0 : Int), V0) (fun (q : Int × Int) => match q with | (x22, x24) => ((if V14 73 0 = 45 then (pf_let (V14 45 0) fun y34 => (if y34 ≤ x24 then (pf_let (V14 73 14) fun y38 => pf_let (pm_w64 (2 * y38)) fun y41 => pf_let (pm_w64 (y41 * y10)) fun y44 => pf_call (F_X11_ofThousand x22 y44 V14) fun y50 _ => (.inr (y50, V14))) else (pf_let (V14 76 (x24 : Int).toNat) fun y53 => pf_let (pm_w64 (y53 * y10)) fun y56 => pf_let (V14 73 14) fun y59 => pf_let (pm_w64 (y53 * y59)) fun y62 => pf_let (pm_w64 (y56 - y62)) fun y65 => pf_let (pm_abL y65) fun y68 => pf_let (pm_w64 (x22 + y68)) fun y71 => pf_let (x24 + 1) fun x74 => (.inl (y71, x74))))) else (pf_let (V14 51 0) fun y76 => (if y76 ≤ x24 then (pf_let (V14 73 14) fun y80 => pf_let (pm_w64 (2 * y80)) fun y83 => pf_let (pm_w64 (y83 * y10)) fun y86 => pf_call (F_X11_ofThousand x22 y86 V14) fun y92 _ => (.inr (y92, V14))) else (pf_let (V14 76 (x24 : Int).toNat) fun y95 => pf_let (pm_w64 (y95 * y10)) fun y98 => pf_let (V14 73 14) fun y101 => pf_let (pm_w64 (y95 * y101)) fun y104 => pf_let (pm_w64 (y98 - y104)) fun y107 => pf_let (pm_abL y107) fun y110 => pf_let (pm_w64 (x22 + y110)) fun y113 => pf_let (x24 + 1) fun x116 => (.inl (y113, x116)))))))) (0, 0)) else (pf_let (V2 73 14) fun y118 => pf_call (F_X10_weigh a2 (pm_up (pm_up V2 73 13 77) 73 15 76)) fun _ V122 => pf_val ((0 : Int), V0) (fun (q : Int × Int) => match q with | (x130, x132) => ((if V122 73 0 = 45 then (pf_let (V122 45 0) fun y142 => (if y142 ≤ x132 then (pf_let (V122 73 14) fun y146 => pf_let (pm_w64 (2 * y146)) fun y149 => pf_let (pm_w64 (y149 * y118)) fun y152 => pf_call (F_X11_ofThousand x130 y152 V122) fun y158 _ => (.inr (y158, V122))) else (pf_let (V122 77 (x132 : Int).toNat) fun y161 => pf_let (pm_w64 (y161 * y118)) fun y164 => pf_let (V122 76 (x132 : Int).toNat) fun y167 => pf_let (V122 73 14) fun y170 => pf_let (pm_w64 (y167 * y170)) fun y173 => pf_let (pm_w64 (y164 - y173)) fun y176 => pf_let (pm_abL y176) fun y179 => pf_let (pm_w64 (x130 + y179)) fun y182 => pf_let (x132 + 1) fun x185 => (.inl (y182, x185))))) else (pf_let (V122 51 0) fun y187 => (if y187 ≤ x132 then (pf_let (V122 73 14) fun y191 => pf_let (pm_w64 (2 * y191)) fun y194 => pf_let (pm_w64 (y194 * y118)) fun y197 => pf_call (F_X11_ofThousand x130 y197 V122) fun y203 _ => (.inr (y203, V122))) else (pf_let (V122 77 (x132 : Int).toNat) fun y206 => pf_let (pm_w64 (y206 * y118)) fun y209 => pf_let (V122 76 (x132 : Int).toNat) fun y212 => pf_let (V122 73 14) fun y215 => pf_let (pm_w64 (y212 * y215)) fun y218 => pf_let (pm_w64 (y209 - y218)) fun y221 => pf_let (pm_abL y221) fun y224 => pf_let (pm_w64 (x130 + y224)) fun y227 => pf_let (x132 + 1) fun x230 => (.inl (y227, x230)))))))) (0, 0)))) else ((if V2 73 15 = 76 then (pf_let (V2 73 14) fun y233 => pf_call (F_X10_weigh a2 (pm_up (pm_up V2 73 13 76) 73 15 77)) fun _ V237 => pf_val ((0 : Int), V0) (fun (q : Int × Int) => match q with | (x245, x247) => ((if V237 73 0 = 45 then (pf_let (V237 45 0) fun y257 => (if y257 ≤ x247 then (pf_let (V237 73 14) fun y261 => pf_let (pm_w64 (2 * y261)) fun y264 => pf_let (pm_w64 (y264 * y233)) fun y267 => pf_call (F_X11_ofThousand x245 y267 V237) fun y273 _ => (.inr (y273, V237))) else (pf_let (V237 76 (x247 : Int).toNat) fun y276 => pf_let (pm_w64 (y276 * y233)) fun y279 => pf_let (V237 77 (x247 : Int).toNat) fun y282 => pf_let (V237 73 14) fun y285 => pf_let (pm_w64 (y282 * y285)) fun y288 => pf_let (pm_w64 (y279 - y288)) fun y291 => pf_let (pm_abL y291) fun y294 => pf_let (pm_w64 (x245 + y294)) fun y297 => pf_let (x247 + 1) fun x300 => (.inl (y297, x300))))) else (pf_let (V237 51 0) fun y302 => (if y302 ≤ x247 then (pf_let (V237 73 14) fun y306 => pf_let (pm_w64 (2 * y306)) fun y309 => pf_let (pm_w64 (y309 * y233)) fun y312 => pf_call (F_X11_ofThousand x245 y312 V237) fun y318 _ => (.inr (y318, V237))) else (pf_let (V237 76 (x247 : Int).toNat) fun y321 => pf_let (pm_w64 (y321 * y233)) fun y324 => pf_let (V237 77 (x247 : Int).toNat) fun y327 => pf_let (V237 73 14) fun y330 => pf_let (pm_w64 (y327 * y330)) fun y333 => pf_let (pm_w64 (y324 - y333)) fun y336 => pf_let (pm_abL y336) fun y339 => pf_let (pm_w64 (x245 + y339)) fun y342 => pf_let (x247 + 1) fun x345 => (.inl (y342, x345)))))))) (0, 0)) else (pf_let (V2 73 14) fun y347 => pf_call (F_X10_weigh a2 (pm_up (pm_up V2 73 13 77) 73 15 77)) fun _ V351 => pf_val ((0 : Int), V0) (fun (q : Int × Int) => match q with | (x359, x361) => ((if V351 73 0 = 45 then (pf_let (V351 45 0) fun y371 => (if y371 ≤ x361 then (pf_let (V351 73 14) fun y375 => pf_let (pm_w64 (2 * y375)) fun y378 => pf_let (pm_w64 (y378 * y347)) fun y381 => pf_call (F_X11_ofThousand x359 y381 V351) fun y387 _ => (.inr (y387, V351))) else (pf_let (V351 77 (x361 : Int).toNat) fun y390 => pf_let (pm_w64 (y390 * y347)) fun y393 => pf_let (V351 73 14) fun y396 => pf_let (pm_w64 (y390 * y396)) fun y399 => pf_let (pm_w64 (y393 - y399)) fun y402 => pf_let (pm_abL y402) fun y405 => pf_let (pm_w64 (x359 + y405)) fun y408 => pf_let (x361 + 1) fun x411 => (.inl (y408, x411))))) else (pf_let (V351 51 0) fun y413 => (if y413 ≤ x361 then (pf_let (V351 73 14) fun y417 => pf_let (pm_w64 (2 * y417)) fun y420 => pf_let (pm_w64 (y420 * y347)) fun y423 => pf_call (F_X11_ofThousand x359 y423 V351) fun y429 _ => (.inr (y429, V351))) else (pf_let (V351 77 (x361 : Int).toNat) fun y432 => pf_let (pm_w64 (y432 * y347)) fun y435 => pf_let (V351 73 14) fun y438 => pf_let (pm_w64 (y432 * y438)) fun y441 => pf_let (pm_w64 (y435 - y441)) fun y444 => pf_let (pm_abL y444) fun y447 => pf_let (pm_w64 (x359 + y447)) fun y450 => pf_let (x361 + 1) fun x453 => (.inl (y450, x453)))))))) (0, 0)))))
theorem F_X10_partedBy_eq (a1 a2 : Int) (V0 : pm_M) : F_X10_partedBy a1 a2 V0 = pf_call (F_X10_weigh a1 V0) fun _ V2 => (if V2 73 13 = 76 then ((if V2 73 15 = 76 then (pf_let (V2 73 14) fun y10 => pf_call (F_X10_weigh a2 (pm_up (pm_up V2 73 13 76) 73 15 76)) fun _ V14 => pf_val ((0 : Int), V0) (fun (q : Int × Int) => match q with | (x22, x24) => ((if V14 73 0 = 45 then (pf_let (V14 45 0) fun y34 => (if y34 ≤ x24 then (pf_let (V14 73 14) fun y38 => pf_let (pm_w64 (2 * y38)) fun y41 => pf_let (pm_w64 (y41 * y10)) fun y44 => pf_call (F_X11_ofThousand x22 y44 V14) fun y50 _ => (.inr (y50, V14))) else (pf_let (V14 76 (x24 : Int).toNat) fun y53 => pf_let (pm_w64 (y53 * y10)) fun y56 => pf_let (V14 73 14) fun y59 => pf_let (pm_w64 (y53 * y59)) fun y62 => pf_let (pm_w64 (y56 - y62)) fun y65 => pf_let (pm_abL y65) fun y68 => pf_let (pm_w64 (x22 + y68)) fun y71 => pf_let (x24 + 1) fun x74 => (.inl (y71, x74))))) else (pf_let (V14 51 0) fun y76 => (if y76 ≤ x24 then (pf_let (V14 73 14) fun y80 => pf_let (pm_w64 (2 * y80)) fun y83 => pf_let (pm_w64 (y83 * y10)) fun y86 => pf_call (F_X11_ofThousand x22 y86 V14) fun y92 _ => (.inr (y92, V14))) else (pf_let (V14 76 (x24 : Int).toNat) fun y95 => pf_let (pm_w64 (y95 * y10)) fun y98 => pf_let (V14 73 14) fun y101 => pf_let (pm_w64 (y95 * y101)) fun y104 => pf_let (pm_w64 (y98 - y104)) fun y107 => pf_let (pm_abL y107) fun y110 => pf_let (pm_w64 (x22 + y110)) fun y113 => pf_let (x24 + 1) fun x116 => (.inl (y113, x116)))))))) (0, 0)) else (pf_let (V2 73 14) fun y118 => pf_call (F_X10_weigh a2 (pm_up (pm_up V2 73 13 77) 73 15 76)) fun _ V122 => pf_val ((0 : Int), V0) (fun (q : Int × Int) => match q with | (x130, x132) => ((if V122 73 0 = 45 then (pf_let (V122 45 0) fun y142 => (if y142 ≤ x132 then (pf_let (V122 73 14) fun y146 => pf_let (pm_w64 (2 * y146)) fun y149 => pf_let (pm_w64 (y149 * y118)) fun y152 => pf_call (F_X11_ofThousand x130 y152 V122) fun y158 _ => (.inr (y158, V122))) else (pf_let (V122 77 (x132 : Int).toNat) fun y161 => pf_let (pm_w64 (y161 * y118)) fun y164 => pf_let (V122 76 (x132 : Int).toNat) fun y167 => pf_let (V122 73 14) fun y170 => pf_let (pm_w64 (y167 * y170)) fun y173 => pf_let (pm_w64 (y164 - y173)) fun y176 => pf_let (pm_abL y176) fun y179 => pf_let (pm_w64 (x130 + y179)) fun y182 => pf_let (x132 + 1) fun x185 => (.inl (y182, x185))))) else (pf_let (V122 51 0) fun y187 => (if y187 ≤ x132 then (pf_let (V122 73 14) fun y191 => pf_let (pm_w64 (2 * y191)) fun y194 => pf_let (pm_w64 (y194 * y118)) fun y197 => pf_call (F_X11_ofThousand x130 y197 V122) fun y203 _ => (.inr (y203, V122))) else (pf_let (V122 77 (x132 : Int).toNat) fun y206 => pf_let (pm_w64 (y206 * y118)) fun y209 => pf_let (V122 76 (x132 : Int).toNat) fun y212 => pf_let (V122 73 14) fun y215 => pf_let (pm_w64 (y212 * y215)) fun y218 => pf_let (pm_w64 (y209 - y218)) fun y221 => pf_let (pm_abL y221) fun y224 => pf_let (pm_w64 (x130 + y224)) fun y227 => pf_let (x132 + 1) fun x230 => (.inl (y227, x230)))))))) (0, 0)))) else ((if V2 73 15 = 76 then (pf_let (V2 73 14) fun y233 => pf_call (F_X10_weigh a2 (pm_up (pm_up V2 73 13 76) 73 15 77)) fun _ V237 => pf_val ((0 : Int), V0) (fun (q : Int × Int) => match q with | (x245, x247) => ((if V237 73 0 = 45 then (pf_let (V237 45 0) fun y257 => (if y257 ≤ x247 then (pf_let (V237 73 14) fun y261 => pf_let (pm_w64 (2 * y261)) fun y264 => pf_let (pm_w64 (y264 * y233)) fun y267 => pf_call (F_X11_ofThousand x245 y267 V237) fun y273 _ => (.inr (y273, V237))) else (pf_let (V237 76 (x247 : Int).toNat) fun y276 => pf_let (pm_w64 (y276 * y233)) fun y279 => pf_let (V237 77 (x247 : Int).toNat) fun y282 => pf_let (V237 73 14) fun y285 => pf_let (pm_w64 (y282 * y285)) fun y288 => pf_let (pm_w64 (y279 - y288)) fun y291 => pf_let (pm_abL y291) fun y294 => pf_let (pm_w64 (x245 + y294)) fun y297 => pf_let (x247 + 1) fun x300 => (.inl (y297, x300))))) else (pf_let (V237 51 0) fun y302 => (if y302 ≤ x247 then (pf_let (V237 73 14) fun y306 => pf_let (pm_w64 (2 * y306)) fun y309 => pf_let (pm_w64 (y309 * y233)) fun y312 => pf_call (F_X11_ofThousand x245 y312 V237) fun y318 _ => (.inr (y318, V237))) else (pf_let (V237 76 (x247 : Int).toNat) fun y321 => pf_let (pm_w64 (y321 * y233)) fun y324 => pf_let (V237 77 (x247 : Int).toNat) fun y327 => pf_let (V237 73 14) fun y330 => pf_let (pm_w64 (y327 * y330)) fun y333 => pf_let (pm_w64 (y324 - y333)) fun y336 => pf_let (pm_abL y336) fun y339 => pf_let (pm_w64 (x245 + y339)) fun y342 => pf_let (x247 + 1) fun x345 => (.inl (y342, x345)))))))) (0, 0)) else (pf_let (V2 73 14) fun y347 => pf_call (F_X10_weigh a2 (pm_up (pm_up V2 73 13 77) 73 15 77)) fun _ V351 => pf_val ((0 : Int), V0) (fun (q : Int × Int) => match q with | (x359, x361) => ((if V351 73 0 = 45 then (pf_let (V351 45 0) fun y371 => (if y371 ≤ x361 then (pf_let (V351 73 14) fun y375 => pf_let (pm_w64 (2 * y375)) fun y378 => pf_let (pm_w64 (y378 * y347)) fun y381 => pf_call (F_X11_ofThousand x359 y381 V351) fun y387 _ => (.inr (y387, V351))) else (pf_let (V351 77 (x361 : Int).toNat) fun y390 => pf_let (pm_w64 (y390 * y347)) fun y393 => pf_let (V351 73 14) fun y396 => pf_let (pm_w64 (y390 * y396)) fun y399 => pf_let (pm_w64 (y393 - y399)) fun y402 => pf_let (pm_abL y402) fun y405 => pf_let (pm_w64 (x359 + y405)) fun y408 => pf_let (x361 + 1) fun x411 => (.inl (y408, x411))))) else (pf_let (V351 51 0) fun y413 => (if y413 ≤ x361 then (pf_let (V351 73 14) fun y417 => pf_let (pm_w64 (2 * y417)) fun y420 => pf_let (pm_w64 (y420 * y347)) fun y423 => pf_call (F_X11_ofThousand x359 y423 V351) fun y429 _ => (.inr (y429, V351))) else (pf_let (V351 77 (x361 : Int).toNat) fun y432 => pf_let (pm_w64 (y432 * y347)) fun y435 => pf_let (V351 73 14) fun y438 => pf_let (pm_w64 (y432 * y438)) fun y441 => pf_let (pm_w64 (y435 - y441)) fun y444 => pf_let (pm_abL y444) fun y447 => pf_let (pm_w64 (x359 + y447)) fun y450 => pf_let (x361 + 1) fun x453 => (.inl (y450, x453)))))))) (0, 0))))) := rfl
noncomputable def F_X11_parted (a1 a2 a3 a4 : Int) (V0 : pm_M) : Int × pm_M := pf_call (F_X11_areLaws a1 V0) fun y4 _ => (if y4 = 0 then (((-1), V0)) else (pf_call (F_X11_isTrial a2 a3 a4 V0) fun y11 _ => (if ¬ (y11 = 0) then (pf_call (F_X11_pose a2 a3 a4 V0) fun _ V16 => pf_call (F_X10_partedBy (a1 / 10) (a1 % 10) V16) fun y26 V24 => (y26, V24)) else (((-1), V0)))))
theorem F_X11_parted_eq (a1 a2 a3 a4 : Int) (V0 : pm_M) : F_X11_parted a1 a2 a3 a4 V0 = pf_call (F_X11_areLaws a1 V0) fun y4 _ => (if y4 = 0 then (((-1), V0)) else (pf_call (F_X11_isTrial a2 a3 a4 V0) fun y11 _ => (if ¬ (y11 = 0) then (pf_call (F_X11_pose a2 a3 a4 V0) fun _ V16 => pf_call (F_X10_partedBy (a1 / 10) (a1 % 10) V16) fun y26 V24 => (y26, V24)) else (((-1), V0))))) := rfl
noncomputable def F_X11_next (a1 a2 a3 a4 : Int) (V0 : pm_M) : Int × pm_M := pf_call (F_X11_areLaws a1 V0) fun y4 _ => (if y4 = 0 then (((-1), V0)) else ((if a3 < 0 then (((-1), V0)) else ((if 10 ≤ a3 then (((-1), V0)) else ((if a4 = 0 then (pf_call (F_X11_isPerson a2 V0) fun y18 _ => (if ¬ (y18 = 0) then (pf_val ((0 : Int), V0) (fun (q : Int × Int × Int × pm_M) => match q with | (x22, x24, x26, V28) => ((if V28 0 8 = 45 then (pf_let (V28 45 0) fun y39 => (if y39 ≤ x26 then ((if ¬ (a4 = 0) then ((.inr ((0 : Int), V0))) else ((.inr (x24, V28))))) else (pf_val (.inr ((0 : Int), V0)) (fun (q : Int × Int × Int × pm_M) => match q with | (x44, x46, x48, V50) => ((if y39 ≤ x48 then (pf_let (x26 + 1) fun x63 => (.inr (.inl (x44, x46, x63, V50)))) else (pf_val (.inr (.inr ((0 : Int), V0))) (fun (q : Int × Int × Int × pm_M) => match q with | (x65, x67, x69, V71) => ((if 10 ≤ x69 then (pf_let (x48 + 1) fun x84 => (.inr (.inl (x65, x67, x84, V71)))) else (pf_call (F_X11_pose (((a2 * 100) + (x26 * 10)) + x48) ((x69 * 10) + a3) 0 V71) fun _ V87 => pf_call (F_X10_partedBy (a1 / 10) (a1 % 10) V87) fun y99 V97 => (if y99 ≤ x65 then (pf_let (x69 + 1) fun x109 => (.inl (x65, x67, x109, V97))) else (pf_let (x69 + 1) fun x111 => (.inl (y99, (((x26 * 100) + (x48 * 10)) + x69), x111, V97)))))))) (x44, x46, 0, V50))))) (x22, x24, 0, V28)))) else (pf_let (V28 51 0) fun y113 => (if y113 ≤ x26 then ((if ¬ (a4 = 0) then ((.inr ((0 : Int), V0))) else ((.inr (x24, V28))))) else (pf_val (.inr ((0 : Int), V0)) (fun (q : Int × Int × Int × pm_M) => match q with | (x118, x120, x122, V124) => ((if y113 ≤ x122 then (pf_let (x26 + 1) fun x137 => (.inr (.inl (x118, x120, x137, V124)))) else (pf_val (.inr (.inr ((0 : Int), V0))) (fun (q : Int × Int × Int × pm_M) => match q with | (x139, x141, x143, V145) => ((if 10 ≤ x143 then (pf_let (x122 + 1) fun x158 => (.inr (.inl (x139, x141, x158, V145)))) else (pf_call (F_X11_pose (((a2 * 100) + (x26 * 10)) + x122) ((x143 * 10) + a3) 0 V145) fun _ V161 => pf_call (F_X10_partedBy (a1 / 10) (a1 % 10) V161) fun y173 V171 => (if y173 ≤ x139 then (pf_let (x143 + 1) fun x183 => (.inl (x139, x141, x183, V171))) else (pf_let (x143 + 1) fun x185 => (.inl (y173, (((x26 * 100) + (x122 * 10)) + x143), x185, V171)))))))) (x118, x120, 0, V124))))) (x22, x24, 0, V28))))))) ((-1), (-1), 0, V0)) else (((-1), V0)))) else ((if ¬ (a4 = 1) then (((-1), V0)) else (pf_call (F_X11_isPerson a2 V0) fun y193 _ => (if ¬ (y193 = 0) then (pf_val ((0 : Int), V0) (fun (q : Int × Int × Int × pm_M) => match q with | (x197, x199, x201, V203) => ((if V203 0 8 = 45 then (pf_let (V203 45 0) fun y214 => (if y214 ≤ x201 then ((if ¬ (a4 = 0) then ((.inr (x197, V203))) else ((.inr ((0 : Int), V0))))) else (pf_val (.inr ((0 : Int), V0)) (fun (q : Int × Int × Int × pm_M) => match q with | (x219, x221, x223, V225) => ((if y214 ≤ x223 then (pf_let (x201 + 1) fun x238 => (.inr (.inl (x219, x221, x238, V225)))) else (pf_val (.inr (.inr ((0 : Int), V0))) (fun (q : Int × Int × Int × pm_M) => match q with | (x240, x242, x244, V246) => ((if 10 ≤ x244 then (pf_let (x223 + 1) fun x259 => (.inr (.inl (x240, x242, x259, V246)))) else (pf_call (F_X11_pose (((a2 * 100) + (x201 * 10)) + x223) ((x244 * 10) + a3) 0 V246) fun _ V262 => pf_call (F_X10_partedBy (a1 / 10) (a1 % 10) V262) fun y274 V272 => (if y274 ≤ x240 then (pf_let (x244 + 1) fun x284 => (.inl (x240, x242, x284, V272))) else (pf_let (x244 + 1) fun x286 => (.inl (y274, (((x201 * 100) + (x223 * 10)) + x244), x286, V272)))))))) (x219, x221, 0, V225))))) (x197, x199, 0, V203)))) else (pf_let (V203 51 0) fun y288 => (if y288 ≤ x201 then ((if ¬ (a4 = 0) then ((.inr (x197, V203))) else ((.inr ((0 : Int), V0))))) else (pf_val (.inr ((0 : Int), V0)) (fun (q : Int × Int × Int × pm_M) => match q with | (x293, x295, x297, V299) => ((if y288 ≤ x297 then (pf_let (x201 + 1) fun x312 => (.inr (.inl (x293, x295, x312, V299)))) else (pf_val (.inr (.inr ((0 : Int), V0))) (fun (q : Int × Int × Int × pm_M) => match q with | (x314, x316, x318, V320) => ((if 10 ≤ x318 then (pf_let (x297 + 1) fun x333 => (.inr (.inl (x314, x316, x333, V320)))) else (pf_call (F_X11_pose (((a2 * 100) + (x201 * 10)) + x297) ((x318 * 10) + a3) 0 V320) fun _ V336 => pf_call (F_X10_partedBy (a1 / 10) (a1 % 10) V336) fun y348 V346 => (if y348 ≤ x314 then (pf_let (x318 + 1) fun x358 => (.inl (x314, x316, x358, V346))) else (pf_let (x318 + 1) fun x360 => (.inl (y348, (((x201 * 100) + (x297 * 10)) + x318), x360, V346)))))))) (x293, x295, 0, V299))))) (x197, x199, 0, V203))))))) ((-1), (-1), 0, V0)) else (((-1), V0)))))))))))))
theorem F_X11_next_eq (a1 a2 a3 a4 : Int) (V0 : pm_M) : F_X11_next a1 a2 a3 a4 V0 = pf_call (F_X11_areLaws a1 V0) fun y4 _ => (if y4 = 0 then (((-1), V0)) else ((if a3 < 0 then (((-1), V0)) else ((if 10 ≤ a3 then (((-1), V0)) else ((if a4 = 0 then (pf_call (F_X11_isPerson a2 V0) fun y18 _ => (if ¬ (y18 = 0) then (pf_val ((0 : Int), V0) (fun (q : Int × Int × Int × pm_M) => match q with | (x22, x24, x26, V28) => ((if V28 0 8 = 45 then (pf_let (V28 45 0) fun y39 => (if y39 ≤ x26 then ((if ¬ (a4 = 0) then ((.inr ((0 : Int), V0))) else ((.inr (x24, V28))))) else (pf_val (.inr ((0 : Int), V0)) (fun (q : Int × Int × Int × pm_M) => match q with | (x44, x46, x48, V50) => ((if y39 ≤ x48 then (pf_let (x26 + 1) fun x63 => (.inr (.inl (x44, x46, x63, V50)))) else (pf_val (.inr (.inr ((0 : Int), V0))) (fun (q : Int × Int × Int × pm_M) => match q with | (x65, x67, x69, V71) => ((if 10 ≤ x69 then (pf_let (x48 + 1) fun x84 => (.inr (.inl (x65, x67, x84, V71)))) else (pf_call (F_X11_pose (((a2 * 100) + (x26 * 10)) + x48) ((x69 * 10) + a3) 0 V71) fun _ V87 => pf_call (F_X10_partedBy (a1 / 10) (a1 % 10) V87) fun y99 V97 => (if y99 ≤ x65 then (pf_let (x69 + 1) fun x109 => (.inl (x65, x67, x109, V97))) else (pf_let (x69 + 1) fun x111 => (.inl (y99, (((x26 * 100) + (x48 * 10)) + x69), x111, V97)))))))) (x44, x46, 0, V50))))) (x22, x24, 0, V28)))) else (pf_let (V28 51 0) fun y113 => (if y113 ≤ x26 then ((if ¬ (a4 = 0) then ((.inr ((0 : Int), V0))) else ((.inr (x24, V28))))) else (pf_val (.inr ((0 : Int), V0)) (fun (q : Int × Int × Int × pm_M) => match q with | (x118, x120, x122, V124) => ((if y113 ≤ x122 then (pf_let (x26 + 1) fun x137 => (.inr (.inl (x118, x120, x137, V124)))) else (pf_val (.inr (.inr ((0 : Int), V0))) (fun (q : Int × Int × Int × pm_M) => match q with | (x139, x141, x143, V145) => ((if 10 ≤ x143 then (pf_let (x122 + 1) fun x158 => (.inr (.inl (x139, x141, x158, V145)))) else (pf_call (F_X11_pose (((a2 * 100) + (x26 * 10)) + x122) ((x143 * 10) + a3) 0 V145) fun _ V161 => pf_call (F_X10_partedBy (a1 / 10) (a1 % 10) V161) fun y173 V171 => (if y173 ≤ x139 then (pf_let (x143 + 1) fun x183 => (.inl (x139, x141, x183, V171))) else (pf_let (x143 + 1) fun x185 => (.inl (y173, (((x26 * 100) + (x122 * 10)) + x143), x185, V171)))))))) (x118, x120, 0, V124))))) (x22, x24, 0, V28))))))) ((-1), (-1), 0, V0)) else (((-1), V0)))) else ((if ¬ (a4 = 1) then (((-1), V0)) else (pf_call (F_X11_isPerson a2 V0) fun y193 _ => (if ¬ (y193 = 0) then (pf_val ((0 : Int), V0) (fun (q : Int × Int × Int × pm_M) => match q with | (x197, x199, x201, V203) => ((if V203 0 8 = 45 then (pf_let (V203 45 0) fun y214 => (if y214 ≤ x201 then ((if ¬ (a4 = 0) then ((.inr (x197, V203))) else ((.inr ((0 : Int), V0))))) else (pf_val (.inr ((0 : Int), V0)) (fun (q : Int × Int × Int × pm_M) => match q with | (x219, x221, x223, V225) => ((if y214 ≤ x223 then (pf_let (x201 + 1) fun x238 => (.inr (.inl (x219, x221, x238, V225)))) else (pf_val (.inr (.inr ((0 : Int), V0))) (fun (q : Int × Int × Int × pm_M) => match q with | (x240, x242, x244, V246) => ((if 10 ≤ x244 then (pf_let (x223 + 1) fun x259 => (.inr (.inl (x240, x242, x259, V246)))) else (pf_call (F_X11_pose (((a2 * 100) + (x201 * 10)) + x223) ((x244 * 10) + a3) 0 V246) fun _ V262 => pf_call (F_X10_partedBy (a1 / 10) (a1 % 10) V262) fun y274 V272 => (if y274 ≤ x240 then (pf_let (x244 + 1) fun x284 => (.inl (x240, x242, x284, V272))) else (pf_let (x244 + 1) fun x286 => (.inl (y274, (((x201 * 100) + (x223 * 10)) + x244), x286, V272)))))))) (x219, x221, 0, V225))))) (x197, x199, 0, V203)))) else (pf_let (V203 51 0) fun y288 => (if y288 ≤ x201 then ((if ¬ (a4 = 0) then ((.inr (x197, V203))) else ((.inr ((0 : Int), V0))))) else (pf_val (.inr ((0 : Int), V0)) (fun (q : Int × Int × Int × pm_M) => match q with | (x293, x295, x297, V299) => ((if y288 ≤ x297 then (pf_let (x201 + 1) fun x312 => (.inr (.inl (x293, x295, x312, V299)))) else (pf_val (.inr (.inr ((0 : Int), V0))) (fun (q : Int × Int × Int × pm_M) => match q with | (x314, x316, x318, V320) => ((if 10 ≤ x318 then (pf_let (x297 + 1) fun x333 => (.inr (.inl (x314, x316, x333, V320)))) else (pf_call (F_X11_pose (((a2 * 100) + (x201 * 10)) + x297) ((x318 * 10) + a3) 0 V320) fun _ V336 => pf_call (F_X10_partedBy (a1 / 10) (a1 % 10) V336) fun y348 V346 => (if y348 ≤ x314 then (pf_let (x318 + 1) fun x358 => (.inl (x314, x316, x358, V346))) else (pf_let (x318 + 1) fun x360 => (.inl (y348, (((x201 * 100) + (x297 * 10)) + x318), x360, V346)))))))) (x293, x295, 0, V299))))) (x197, x199, 0, V203))))))) ((-1), (-1), 0, V0)) else (((-1), V0))))))))))))) := rfl
noncomputable def F_X11_knowing (a1 a2 a3 a4 : Int) (V0 : pm_M) : Int × pm_M := pf_call (F_X11_weighs a1 a2 a3 a4 V0) fun y4 V2 => (if ¬ (y4 = 0) then (pf_call (F_X10_mostLikely  V2) fun y15 _ => pf_call (F_X10_trustAt 0 a4 V2) fun _ V19 => pf_call (F_X10_weigh a1 V19) fun _ V27 => pf_call (F_X10_mostLikely  V27) fun y37 _ => (if ¬ (y37 = y15) then ((0, V27)) else ((1, V27)))) else (((-1), V2)))
theorem F_X11_knowing_eq (a1 a2 a3 a4 : Int) (V0 : pm_M) : F_X11_knowing a1 a2 a3 a4 V0 = pf_call (F_X11_weighs a1 a2 a3 a4 V0) fun y4 V2 => (if ¬ (y4 = 0) then (pf_call (F_X10_mostLikely  V2) fun y15 _ => pf_call (F_X10_trustAt 0 a4 V2) fun _ V19 => pf_call (F_X10_weigh a1 V19) fun _ V27 => pf_call (F_X10_mostLikely  V27) fun y37 _ => (if ¬ (y37 = y15) then ((0, V27)) else ((1, V27)))) else (((-1), V2))) := rfl
noncomputable def F_X11_fillAtoms (a1 : Int) (V0 : pm_M) : Int × pm_M := pf_call (F_X10_weigh 4 V0) fun _ V3 => pf_call (F_X10_chanceOfKind 3 V3) fun y14 _ => pf_call (F_X10_chanceNoticed  (pm_up V3 83 (0 : Int).toNat y14)) fun y20 _ => pf_let (V3 73 1) fun y23 => pf_call (F_X10_chanceOf y23 (pm_up (pm_up V3 83 (0 : Int).toNat y14) 83 (1 : Int).toNat y20)) fun y29 _ => pf_let (V3 73 2) fun y32 => pf_call (F_X10_chanceOf y32 (pm_up (pm_up (pm_up V3 83 (0 : Int).toNat y14) 83 (1 : Int).toNat y20) 83 (2 : Int).toNat y29)) fun y38 _ => pf_let (V3 73 3) fun y41 => pf_let (V3 73 4) fun y44 => pf_let (pm_ab a1) fun y47 => (0, (pm_up (pm_up (pm_up (pm_up (pm_up (pm_up (pm_up V3 83 (0 : Int).toNat y14) 83 (1 : Int).toNat y20) 83 (2 : Int).toNat y29) 83 (3 : Int).toNat y38) 83 (4 : Int).toNat y41) 83 (5 : Int).toNat y44) 83 (6 : Int).toNat y47))
theorem F_X11_fillAtoms_eq (a1 : Int) (V0 : pm_M) : F_X11_fillAtoms a1 V0 = pf_call (F_X10_weigh 4 V0) fun _ V3 => pf_call (F_X10_chanceOfKind 3 V3) fun y14 _ => pf_call (F_X10_chanceNoticed  (pm_up V3 83 (0 : Int).toNat y14)) fun y20 _ => pf_let (V3 73 1) fun y23 => pf_call (F_X10_chanceOf y23 (pm_up (pm_up V3 83 (0 : Int).toNat y14) 83 (1 : Int).toNat y20)) fun y29 _ => pf_let (V3 73 2) fun y32 => pf_call (F_X10_chanceOf y32 (pm_up (pm_up (pm_up V3 83 (0 : Int).toNat y14) 83 (1 : Int).toNat y20) 83 (2 : Int).toNat y29)) fun y38 _ => pf_let (V3 73 3) fun y41 => pf_let (V3 73 4) fun y44 => pf_let (pm_ab a1) fun y47 => (0, (pm_up (pm_up (pm_up (pm_up (pm_up (pm_up (pm_up V3 83 (0 : Int).toNat y14) 83 (1 : Int).toNat y20) 83 (2 : Int).toNat y29) 83 (3 : Int).toNat y38) 83 (4 : Int).toNat y41) 83 (5 : Int).toNat y44) 83 (6 : Int).toNat y47)) := rfl
noncomputable def F_X2_pop (rc : Nat) (V0 : pm_M) : Int × pm_M := pf_let (V0 rc 7) fun y1 => (if 0 < y1 then (pf_let (V0 (rc + 5) ((y1 - 1) : Int).toNat) fun y6 => (y6, (pm_up V0 rc 7 (y1 - 1)))) else ((0, V0)))
theorem F_X2_pop_eq (rc : Nat) (V0 : pm_M) : F_X2_pop rc V0 = pf_let (V0 rc 7) fun y1 => (if 0 < y1 then (pf_let (V0 (rc + 5) ((y1 - 1) : Int).toNat) fun y6 => (y6, (pm_up V0 rc 7 (y1 - 1)))) else ((0, V0))) := rfl
noncomputable def F_X2_bounded (a1 : Int) (V0 : pm_M) : Int × pm_M := pf_let (pm_mn 1000000 a1) fun y1 => pf_let (pm_mx (-1000000) y1) fun y4 => (y4, V0)
theorem F_X2_bounded_eq (a1 : Int) (V0 : pm_M) : F_X2_bounded a1 V0 = pf_let (pm_mn 1000000 a1) fun y1 => pf_let (pm_mx (-1000000) y1) fun y4 => (y4, V0) := rfl
noncomputable def F_X2_push (rc : Nat) (a1 : Int) (V0 : pm_M) : Int × pm_M := pf_let (V0 rc 7) fun y1 => (if 64 ≤ y1 then ((0, V0)) else ((0, (pm_up (pm_up V0 (rc + 5) (y1 : Int).toNat a1) rc 7 (y1 + 1)))))
theorem F_X2_push_eq (rc : Nat) (a1 : Int) (V0 : pm_M) : F_X2_push rc a1 V0 = pf_let (V0 rc 7) fun y1 => (if 64 ≤ y1 then ((0, V0)) else ((0, (pm_up (pm_up V0 (rc + 5) (y1 : Int).toNat a1) rc 7 (y1 + 1))))) := rfl
set_option maxHeartbeats 4000000 in
set_option maxRecDepth 100000 in
theorem fD_X10_partedBy_73 (a1 a2 : Int) (h0 : (-2147483648) ≤ a1 ∧ a1 ≤ 2147483647) (h1 : (-2147483648) ≤ a2 ∧ a2 ≤ 2147483647) : pm_K 5 yX10_partedBy cX10_partedBy 9 (some .int) (fun av V => av = [(3, 73), (0, a1), (0, a2)] ∧ pm_ok 0 90 V) (fun _ V r V' => ∃ y, r = some (0, y) ∧ ((-2147483648) ≤ y ∧ y ≤ 2147483647) ∧ pm_ok 0 90 V' ∧ pm_ff [76, 77] [(73, 13), (73, 14), (73, 15)] V V' ∧ F_X10_partedBy a1 a2 V = (y, V')) := by
  refine pm_MT.of (by decide) ⟨Nat.le_refl _, by decide⟩ (fun av V h => by rw [h.1]; exact (by decide : pm_words [(3, 0), (0, 0), (0, 0)] ≤ 9)) ?_
  rintro X av V0 hC - hR ⟨rfl, hV0⟩
  change pm_J X 0 [(0, (3, 73)), (1, (0, a1)), (2, (0, a2))] [] 118 V0
  have hT := F_X10_partedBy_eq a1 a2 V0
  refine pm_aload_n hC 0 (by decide) dX10_partedBy_0 rfl ?_
  refine pm_iload_n hC 1 dX10_partedBy_1 rfl ?_
  refine pm_callV (ci := 10) (as := [(0, a1)]) (st := []) hC 73 (fD_X10_weigh_73 a1 ⟨by exact ow_79i_0 h0, by exact ow_79i_1 h0⟩) lm_X10_148 li_X10_weigh (by decide) (by decide) rfl rfl rfl (by decide) rfl rfl (Nat.le_of_ble_eq_true rfl) ⟨Nat.le_refl _, Or.inl rfl⟩ dX10_partedBy_2 ⟨rfl, hV0⟩ (fun r1 V2 hp3 => ?_)
  obtain ⟨rfl, hV4, hF5, hE6⟩ := hp3
  replace hT := hT.trans (pf_call_eq hE6)
  change pm_J X 5 [(0, (3, 73)), (1, (0, a1)), (2, (0, a2))] [] 118 V2
  have hF7 := pm_ff.tr (pm_ff.rf (cs := [76, 77]) (fs := [(73, 13), (73, 14), (73, 15)]) (V := V0)) hF5 (by decide) (by decide)
  refine pm_aload_n hC 0 (by decide) dX10_partedBy_5 rfl ?_
  rcases hV4.get2 73 13 (lo := 76) (hi := 77) (by decide) (by decide) rfl with e8 | e8
  · skip
    replace hT := hT.trans (if_pos e8)
    refine pm_getf (v := 76) hC 73 fl_X10_50 rfl rfl (by decide) rfl e8 dX10_partedBy_6 ?_
    refine pm_astore_n (lv' := [(3, (3, 76)), (0, (3, 73)), (1, (0, a1)), (2, (0, a2))]) hC (by decide) dX10_partedBy_9 (by decide) rfl ?_
    refine pm_aload_n hC 1 (by decide) dX10_partedBy_10 rfl ?_
    refine pm_aload_n hC 1 (by decide) dX10_partedBy_11 rfl ?_
    rcases hV4.get2 73 15 (lo := 76) (hi := 77) (by decide) (by decide) rfl with e9 | e9
    · skip
      replace hT := hT.trans (if_pos e9)
      refine pm_getf (v := 76) hC 73 fl_X10_56 rfl rfl (by decide) rfl e9 dX10_partedBy_12 ?_
      refine pm_putf hC 73 fl_X10_50 rfl rfl rfl (by decide) rfl trivial dX10_partedBy_15 ?_
      refine pm_aload_n hC 1 (by decide) dX10_partedBy_18 rfl ?_
      refine pm_aload_n hC 0 (by decide) dX10_partedBy_19 rfl ?_
      refine pm_putf hC 73 fl_X10_56 rfl rfl rfl (by decide) rfl trivial dX10_partedBy_20 ?_
      refine pm_aload_n hC 1 (by decide) dX10_partedBy_23 rfl ?_
      obtain ⟨y10, e11⟩ : ∃ y, V2 73 14 = y := ⟨_, rfl⟩
      have b12 := hV4.get 73 14 (lo := (-9223372036854775808)) (hi := 9223372036854775807) (by decide) (by decide) rfl
      rw [e11] at b12
      replace hT := hT.trans (pf_let_eq e11)
      refine pm_getf (v := y10) hC 73 fl_X10_53 rfl rfl (by decide) rfl e11 dX10_partedBy_24 ?_
      refine pm_lstore (lv' := [(4, (1, y10)), (3, (3, 76)), (0, (3, 73)), (1, (0, a1)), (2, (0, a2))]) hC dX10_partedBy_27 (by decide) rfl ?_
      refine pm_aload_n hC 2 (by decide) dX10_partedBy_29 rfl ?_
      refine pm_iload_n hC 4 dX10_partedBy_30 rfl ?_
      refine pm_callV (ci := 10) (as := [(0, a2)]) (st := []) hC 73 (fD_X10_weigh_73 a2 ⟨by exact ow_79i_0 h1, by exact ow_79i_1 h1⟩) lm_X10_148 li_X10_weigh (by decide) (by decide) rfl rfl rfl (by decide) rfl rfl (Nat.le_of_ble_eq_true rfl) ⟨Nat.le_refl _, Or.inl rfl⟩ dX10_partedBy_31 ⟨rfl, ((hV4.put2 73 13 (x := 76) (lo := 76) (hi := 77) rfl ⟨by exact ow_79i_2, by decide⟩).put2 73 15 (x := 76) (lo := 76) (hi := 77) rfl ⟨by exact ow_79i_2, by decide⟩)⟩ (fun r13 V14 hp15 => ?_)
      obtain ⟨rfl, hV16, hF17, hE18⟩ := hp15
      replace hT := hT.trans (pf_call_eq hE18)
      change pm_J X 34 [(4, (1, y10)), (3, (3, 76)), (0, (3, 73)), (1, (0, a1)), (2, (0, a2))] [] 118 V14
      have hF19 := pm_ff.tr ((hF7.upf 73 13 76 rfl).upf 73 15 76 rfl) hF17 (by decide) (by decide)
      have e20 : V14 73 13 = 76 := by rw [hF17 73 13 (by decide) (by decide)]; rfl
      have e21 : V14 73 15 = 76 := by rw [hF17 73 15 (by decide) (by decide)]; rfl
      refine pm_lconst (x := 0) hC dX10_partedBy_34 rfl ?_
      refine pm_lstore (lv' := [(6, (1, 0)), (4, (1, y10)), (3, (3, 76)), (0, (3, 73)), (1, (0, a1)), (2, (0, a2))]) hC dX10_partedBy_35 (by decide) rfl ?_
      refine pm_iconst (v := 0) hC dX10_partedBy_37 ?_
      refine pm_istore (lv' := [(8, (0, 0)), (6, (1, 0)), (4, (1, y10)), (3, (3, 76)), (0, (3, 73)), (1, (0, a1)), (2, (0, a2))]) hC dX10_partedBy_38 (by decide) rfl ?_
      obtain ⟨B26, hB27, hT⟩ := pf_loop hT
      have L29 : ∀ (N31 : Nat) (x22 : Int) (x24 : Int), ((-9223372036854775808) ≤ x22 ∧ x22 ≤ 9223372036854775807) → (0 ≤ x24 ∧ x24 ≤ 9) → F_X10_partedBy a1 a2 V0 = pf_val ((0 : Int), V0) B26 (x22, x24) → (Int.toNat (9 - x24)) = N31 → pm_J X 40 [(0, (3, 73)), (1, (0, a1)), (2, (0, a2)), (3, (3, 76)), (4, (1, y10)), (6, (1, x22)), (8, (0, x24))] [] 118 V14 := by
        intro N31
        induction N31 using Nat.strongRecOn with
        | _ N31 ih32 =>
        intro x22 x24 b23 b25 hT hm30
        have hb28 := congrFun hB27 (x22, x24)
        refine pm_iload hC 6 dX10_partedBy_40 rfl ?_
        refine pm_aload_n hC 0 (by decide) dX10_partedBy_42 rfl ?_
        rcases hV16.get2 73 0 (lo := 45) (hi := 51) (by decide) (by decide) rfl with e33 | e33
        · skip
          replace hb28 := hb28.trans (if_pos e33)
          refine pm_getf (v := 45) hC 73 fl_X10_59 rfl rfl (by decide) rfl e33 dX10_partedBy_43 ?_
          obtain ⟨y34, e35⟩ : ∃ y, V14 45 0 = y := ⟨_, rfl⟩
          have b36 := hV16.get 45 0 (lo := 0) (hi := 9) (by decide) (by decide) rfl
          rw [e35] at b36
          replace hb28 := hb28.trans (pf_let_eq e35)
          refine pm_getf (v := y34) hC 45 fl_X10_79 rfl rfl (by decide) rfl e35 dX10_partedBy_46 ?_
          refine pm_icmp_ge (tgt := 89) hC ⟨by exact ow_79i_3 b25, by exact ow_79i_4 b25⟩ ⟨by exact ow_79i_3 b36, by exact ow_79i_4 b36⟩ dX10_partedBy_49 (by decide) (fun c37 => ?_) (fun c37 => ?_)
          · skip
            replace hb28 := hb28.trans (if_pos c37)
            refine pm_lload hC 5 dX10_partedBy_89 rfl ?_
            refine pm_ldc2 (v := 2) hC 5038 dX10_partedBy_91 (by decide +kernel) ?_
            refine pm_aload_n hC 0 (by decide) dX10_partedBy_94 rfl ?_
            obtain ⟨y38, e39⟩ : ∃ y, V14 73 14 = y := ⟨_, rfl⟩
            have b40 := hV16.get 73 14 (lo := (-9223372036854775808)) (hi := 9223372036854775807) (by decide) (by decide) rfl
            rw [e39] at b40
            replace hb28 := hb28.trans (pf_let_eq e39)
            refine pm_getf (v := y38) hC 73 fl_X10_53 rfl rfl (by decide) rfl e39 dX10_partedBy_95 ?_
            refine pm_lmul hC dX10_partedBy_98 ?_
            refine pm_wrL hC (fun y41 hw43 b42 => ?_)
            replace hb28 := hb28.trans (pf_let_eq hw43)
            have b42 := And.intro b42.1 b42.2
            refine pm_lload hC 4 dX10_partedBy_99 rfl ?_
            refine pm_lmul hC dX10_partedBy_101 ?_
            refine pm_wrL hC (fun y44 hw46 b45 => ?_)
            replace hb28 := hb28.trans (pf_let_eq hw46)
            have b45 := And.intro b45.1 b45.2
            refine pm_callSN (as := [(1, x22), (1, y44)]) (st := []) hC (fD_X11_ofThousand x22 y44 ⟨by exact ow_79i_5 b23, by exact ow_79i_6 b23⟩ ⟨by exact ow_79i_5 b45, by exact ow_79i_6 b45⟩) lm_X10_141 ls_X11_ofThousand (by decide) (by decide) rfl rfl (Nat.le_of_ble_eq_true rfl) ⟨Nat.le_refl _, Or.inl rfl⟩ dX10_partedBy_102 ⟨rfl, hV16⟩ (fun r47 V48 hp49 => ?_)
            obtain ⟨y50, rfl, b51, rfl, hE52⟩ := hp49
            replace hb28 := hb28.trans (pf_call_eq hE52)
            change pm_J X 105 [(0, (3, 73)), (1, (0, a1)), (2, (0, a2)), (3, (3, 76)), (4, (1, y10)), (6, (1, x22)), (8, (0, x24))] [(0, y50)] 118 V14
            replace hT := hT.trans (pf_val_inr hb28)
            exact pm_iret hC hR pm_nar0 ⟨y50, rfl, ⟨by exact ow_79i_0 b51, by exact ow_79i_1 b51⟩, hV16, hF19, hT⟩ dX10_partedBy_105
          · skip
            replace hb28 := hb28.trans (if_neg (Int.not_le.mpr c37))
            refine pm_lload hC 5 dX10_partedBy_52 rfl ?_
            refine pm_aload_n hC 0 (by decide) dX10_partedBy_54 rfl ?_
            refine pm_getf (v := 76) hC 73 fl_X10_50 rfl rfl (by decide) rfl e20 dX10_partedBy_55 ?_
            refine pm_iload hC 6 dX10_partedBy_58 rfl ?_
            obtain ⟨y53, e54⟩ : ∃ y, V14 76 (x24 : Int).toNat = y := ⟨_, rfl⟩
            replace hb28 := hb28.trans (pf_let_eq e54)
            have b55 := hV16.get 76 (x24 : Int).toNat (lo := (-9223372036854775808)) (hi := 9223372036854775807) (by decide) (show _ < 9 by exact ow_79i_7 b36 c37) rfl
            rw [e54] at b55
            refine pm_laload (len := 9) (v := y53) hC 76 rfl rfl (by decide) ⟨by exact ow_79i_8 b25, by exact ow_79i_9 b36 c37⟩ (by decide) e54 dX10_partedBy_60 ?_
            refine pm_lload hC 4 dX10_partedBy_61 rfl ?_
            refine pm_lmul hC dX10_partedBy_63 ?_
            refine pm_wrL hC (fun y56 hw58 b57 => ?_)
            replace hb28 := hb28.trans (pf_let_eq hw58)
            have b57 := And.intro b57.1 b57.2
            refine pm_aload_n hC 0 (by decide) dX10_partedBy_64 rfl ?_
            refine pm_getf (v := 76) hC 73 fl_X10_56 rfl rfl (by decide) rfl e21 dX10_partedBy_65 ?_
            refine pm_iload hC 6 dX10_partedBy_68 rfl ?_
            refine pm_laload (len := 9) (v := y53) hC 76 rfl rfl (by decide) ⟨by exact ow_79i_8 b25, by exact ow_79i_9 b36 c37⟩ (by decide) e54 dX10_partedBy_70 ?_
            refine pm_aload_n hC 0 (by decide) dX10_partedBy_71 rfl ?_
            obtain ⟨y59, e60⟩ : ∃ y, V14 73 14 = y := ⟨_, rfl⟩
            have b61 := hV16.get 73 14 (lo := (-9223372036854775808)) (hi := 9223372036854775807) (by decide) (by decide) rfl
            rw [e60] at b61
            replace hb28 := hb28.trans (pf_let_eq e60)
            refine pm_getf (v := y59) hC 73 fl_X10_53 rfl rfl (by decide) rfl e60 dX10_partedBy_72 ?_
            refine pm_lmul hC dX10_partedBy_75 ?_
            refine pm_wrL hC (fun y62 hw64 b63 => ?_)
            replace hb28 := hb28.trans (pf_let_eq hw64)
            have b63 := And.intro b63.1 b63.2
            refine pm_lsub hC dX10_partedBy_76 ?_
            refine pm_wrL hC (fun y65 hw67 b66 => ?_)
            replace hb28 := hb28.trans (pf_let_eq hw67)
            have b66 := And.intro b66.1 b66.2
            refine pm_mabsLT hC 5035 5036 1018 5037 ⟨by exact ow_79i_5 b66, by exact ow_79i_6 b66⟩ (by decide) wL_X10_151 wS_mabsL wI_math wC_mabsL (Nat.le_of_ble_eq_true rfl) dX10_partedBy_77 (fun y68 he70 b69 => ?_)
            have b69 := And.intro b69.1.1 (And.intro b69.1.2 b69.2)
            replace hb28 := hb28.trans (pf_let_eq he70)
            refine pm_ladd hC dX10_partedBy_80 ?_
            refine pm_wrL hC (fun y71 hw73 b72 => ?_)
            replace hb28 := hb28.trans (pf_let_eq hw73)
            have b72 := And.intro b72.1 b72.2
            refine pm_lstore (lv' := [(6, (1, y71)), (0, (3, 73)), (1, (0, a1)), (2, (0, a2)), (3, (3, 76)), (4, (1, y10)), (8, (0, x24))]) hC dX10_partedBy_81 (by decide) rfl ?_
            obtain ⟨x74, ei75⟩ : ∃ y : Int, x24 + 1 = y := ⟨_, rfl⟩
            replace hb28 := hb28.trans (pf_let_eq ei75)
            refine pm_iinc (y := x74) (lv' := [(8, (0, x74)), (6, (1, y71)), (0, (3, 73)), (1, (0, a1)), (2, (0, a2)), (3, (3, 76)), (4, (1, y10))]) hC 6 dX10_partedBy_83 (by decide) rfl ei75 rfl ?_
            refine pm_goto (tgt := 40) hC dX10_partedBy_86 (by decide) ?_
            refine pm_lvsub [2, 3, 4, 5, 6, 1, 0] (lv' := [(0, (3, 73)), (1, (0, a1)), (2, (0, a2)), (3, (3, 76)), (4, (1, y10)), (6, (1, y71)), (8, (0, x74))]) rfl ?_
            exact ih32 _ (by exact ow_79i_10 hm30 b36 c37 ei75) y71 x74 ⟨by exact ow_79i_5 b72, by exact ow_79i_6 b72⟩ ⟨by exact ow_79i_11 b25 ei75, by exact ow_79i_12 b36 c37 ei75⟩ (hT.trans (pf_val_inl hb28)) rfl
        · skip
          replace hb28 := hb28.trans (if_neg (by rw [e33]; decide))
          refine pm_getf (v := 51) hC 73 fl_X10_59 rfl rfl (by decide) rfl e33 dX10_partedBy_43 ?_
          obtain ⟨y76, e77⟩ : ∃ y, V14 51 0 = y := ⟨_, rfl⟩
          have b78 := hV16.get 51 0 (lo := 0) (hi := 9) (by decide) (by decide) rfl
          rw [e77] at b78
          replace hb28 := hb28.trans (pf_let_eq e77)
          refine pm_getf (v := y76) hC 51 fl_X10_79 rfl rfl (by decide) rfl e77 dX10_partedBy_46 ?_
          refine pm_icmp_ge (tgt := 89) hC ⟨by exact ow_79i_3 b25, by exact ow_79i_4 b25⟩ ⟨by exact ow_79i_3 b78, by exact ow_79i_4 b78⟩ dX10_partedBy_49 (by decide) (fun c79 => ?_) (fun c79 => ?_)
          · skip
            replace hb28 := hb28.trans (if_pos c79)
            refine pm_lload hC 5 dX10_partedBy_89 rfl ?_
            refine pm_ldc2 (v := 2) hC 5038 dX10_partedBy_91 (by decide +kernel) ?_
            refine pm_aload_n hC 0 (by decide) dX10_partedBy_94 rfl ?_
            obtain ⟨y80, e81⟩ : ∃ y, V14 73 14 = y := ⟨_, rfl⟩
            have b82 := hV16.get 73 14 (lo := (-9223372036854775808)) (hi := 9223372036854775807) (by decide) (by decide) rfl
            rw [e81] at b82
            replace hb28 := hb28.trans (pf_let_eq e81)
            refine pm_getf (v := y80) hC 73 fl_X10_53 rfl rfl (by decide) rfl e81 dX10_partedBy_95 ?_
            refine pm_lmul hC dX10_partedBy_98 ?_
            refine pm_wrL hC (fun y83 hw85 b84 => ?_)
            replace hb28 := hb28.trans (pf_let_eq hw85)
            have b84 := And.intro b84.1 b84.2
            refine pm_lload hC 4 dX10_partedBy_99 rfl ?_
            refine pm_lmul hC dX10_partedBy_101 ?_
            refine pm_wrL hC (fun y86 hw88 b87 => ?_)
            replace hb28 := hb28.trans (pf_let_eq hw88)
            have b87 := And.intro b87.1 b87.2
            refine pm_callSN (as := [(1, x22), (1, y86)]) (st := []) hC (fD_X11_ofThousand x22 y86 ⟨by exact ow_79i_5 b23, by exact ow_79i_6 b23⟩ ⟨by exact ow_79i_5 b87, by exact ow_79i_6 b87⟩) lm_X10_141 ls_X11_ofThousand (by decide) (by decide) rfl rfl (Nat.le_of_ble_eq_true rfl) ⟨Nat.le_refl _, Or.inl rfl⟩ dX10_partedBy_102 ⟨rfl, hV16⟩ (fun r89 V90 hp91 => ?_)
            obtain ⟨y92, rfl, b93, rfl, hE94⟩ := hp91
            replace hb28 := hb28.trans (pf_call_eq hE94)
            change pm_J X 105 [(0, (3, 73)), (1, (0, a1)), (2, (0, a2)), (3, (3, 76)), (4, (1, y10)), (6, (1, x22)), (8, (0, x24))] [(0, y92)] 118 V14
            replace hT := hT.trans (pf_val_inr hb28)
            exact pm_iret hC hR pm_nar0 ⟨y92, rfl, ⟨by exact ow_79i_0 b93, by exact ow_79i_1 b93⟩, hV16, hF19, hT⟩ dX10_partedBy_105
          · skip
            replace hb28 := hb28.trans (if_neg (Int.not_le.mpr c79))
            refine pm_lload hC 5 dX10_partedBy_52 rfl ?_
            refine pm_aload_n hC 0 (by decide) dX10_partedBy_54 rfl ?_
            refine pm_getf (v := 76) hC 73 fl_X10_50 rfl rfl (by decide) rfl e20 dX10_partedBy_55 ?_
            refine pm_iload hC 6 dX10_partedBy_58 rfl ?_
            obtain ⟨y95, e96⟩ : ∃ y, V14 76 (x24 : Int).toNat = y := ⟨_, rfl⟩
            replace hb28 := hb28.trans (pf_let_eq e96)
            have b97 := hV16.get 76 (x24 : Int).toNat (lo := (-9223372036854775808)) (hi := 9223372036854775807) (by decide) (show _ < 9 by exact ow_79i_7 b78 c79) rfl
            rw [e96] at b97
            refine pm_laload (len := 9) (v := y95) hC 76 rfl rfl (by decide) ⟨by exact ow_79i_8 b25, by exact ow_79i_9 b78 c79⟩ (by decide) e96 dX10_partedBy_60 ?_
            refine pm_lload hC 4 dX10_partedBy_61 rfl ?_
            refine pm_lmul hC dX10_partedBy_63 ?_
            refine pm_wrL hC (fun y98 hw100 b99 => ?_)
            replace hb28 := hb28.trans (pf_let_eq hw100)
            have b99 := And.intro b99.1 b99.2
            refine pm_aload_n hC 0 (by decide) dX10_partedBy_64 rfl ?_
            refine pm_getf (v := 76) hC 73 fl_X10_56 rfl rfl (by decide) rfl e21 dX10_partedBy_65 ?_
            refine pm_iload hC 6 dX10_partedBy_68 rfl ?_
            refine pm_laload (len := 9) (v := y95) hC 76 rfl rfl (by decide) ⟨by exact ow_79i_8 b25, by exact ow_79i_9 b78 c79⟩ (by decide) e96 dX10_partedBy_70 ?_
            refine pm_aload_n hC 0 (by decide) dX10_partedBy_71 rfl ?_
            obtain ⟨y101, e102⟩ : ∃ y, V14 73 14 = y := ⟨_, rfl⟩
            have b103 := hV16.get 73 14 (lo := (-9223372036854775808)) (hi := 9223372036854775807) (by decide) (by decide) rfl
            rw [e102] at b103
            replace hb28 := hb28.trans (pf_let_eq e102)
            refine pm_getf (v := y101) hC 73 fl_X10_53 rfl rfl (by decide) rfl e102 dX10_partedBy_72 ?_
            refine pm_lmul hC dX10_partedBy_75 ?_
            refine pm_wrL hC (fun y104 hw106 b105 => ?_)
            replace hb28 := hb28.trans (pf_let_eq hw106)
            have b105 := And.intro b105.1 b105.2
            refine pm_lsub hC dX10_partedBy_76 ?_
            refine pm_wrL hC (fun y107 hw109 b108 => ?_)
            replace hb28 := hb28.trans (pf_let_eq hw109)
            have b108 := And.intro b108.1 b108.2
            refine pm_mabsLT hC 5035 5036 1018 5037 ⟨by exact ow_79i_5 b108, by exact ow_79i_6 b108⟩ (by decide) wL_X10_151 wS_mabsL wI_math wC_mabsL (Nat.le_of_ble_eq_true rfl) dX10_partedBy_77 (fun y110 he112 b111 => ?_)
            have b111 := And.intro b111.1.1 (And.intro b111.1.2 b111.2)
            replace hb28 := hb28.trans (pf_let_eq he112)
            refine pm_ladd hC dX10_partedBy_80 ?_
            refine pm_wrL hC (fun y113 hw115 b114 => ?_)
            replace hb28 := hb28.trans (pf_let_eq hw115)
            have b114 := And.intro b114.1 b114.2
            refine pm_lstore (lv' := [(6, (1, y113)), (0, (3, 73)), (1, (0, a1)), (2, (0, a2)), (3, (3, 76)), (4, (1, y10)), (8, (0, x24))]) hC dX10_partedBy_81 (by decide) rfl ?_
            obtain ⟨x116, ei117⟩ : ∃ y : Int, x24 + 1 = y := ⟨_, rfl⟩
            replace hb28 := hb28.trans (pf_let_eq ei117)
            refine pm_iinc (y := x116) (lv' := [(8, (0, x116)), (6, (1, y113)), (0, (3, 73)), (1, (0, a1)), (2, (0, a2)), (3, (3, 76)), (4, (1, y10))]) hC 6 dX10_partedBy_83 (by decide) rfl ei117 rfl ?_
            refine pm_goto (tgt := 40) hC dX10_partedBy_86 (by decide) ?_
            refine pm_lvsub [2, 3, 4, 5, 6, 1, 0] (lv' := [(0, (3, 73)), (1, (0, a1)), (2, (0, a2)), (3, (3, 76)), (4, (1, y10)), (6, (1, y113)), (8, (0, x116))]) rfl ?_
            exact ih32 _ (by exact ow_79i_10 hm30 b78 c79 ei117) y113 x116 ⟨by exact ow_79i_5 b114, by exact ow_79i_6 b114⟩ ⟨by exact ow_79i_11 b25 ei117, by exact ow_79i_12 b78 c79 ei117⟩ (hT.trans (pf_val_inl hb28)) rfl
      refine pm_lvsub [4, 5, 6, 3, 2, 1, 0] (lv' := [(0, (3, 73)), (1, (0, a1)), (2, (0, a2)), (3, (3, 76)), (4, (1, y10)), (6, (1, 0)), (8, (0, 0))]) rfl ?_
      exact L29 _ 0 0 ⟨by decide, by decide⟩ ⟨by decide, by decide⟩ hT rfl
    · skip
      replace hT := hT.trans (if_neg (by rw [e9]; decide))
      refine pm_getf (v := 77) hC 73 fl_X10_56 rfl rfl (by decide) rfl e9 dX10_partedBy_12 ?_
      refine pm_putf hC 73 fl_X10_50 rfl rfl rfl (by decide) rfl trivial dX10_partedBy_15 ?_
      refine pm_aload_n hC 1 (by decide) dX10_partedBy_18 rfl ?_
      refine pm_aload_n hC 0 (by decide) dX10_partedBy_19 rfl ?_
      refine pm_putf hC 73 fl_X10_56 rfl rfl rfl (by decide) rfl trivial dX10_partedBy_20 ?_
      refine pm_aload_n hC 1 (by decide) dX10_partedBy_23 rfl ?_
      obtain ⟨y118, e119⟩ : ∃ y, V2 73 14 = y := ⟨_, rfl⟩
      have b120 := hV4.get 73 14 (lo := (-9223372036854775808)) (hi := 9223372036854775807) (by decide) (by decide) rfl
      rw [e119] at b120
      replace hT := hT.trans (pf_let_eq e119)
      refine pm_getf (v := y118) hC 73 fl_X10_53 rfl rfl (by decide) rfl e119 dX10_partedBy_24 ?_
      refine pm_lstore (lv' := [(4, (1, y118)), (3, (3, 76)), (0, (3, 73)), (1, (0, a1)), (2, (0, a2))]) hC dX10_partedBy_27 (by decide) rfl ?_
      refine pm_aload_n hC 2 (by decide) dX10_partedBy_29 rfl ?_
      refine pm_iload_n hC 4 dX10_partedBy_30 rfl ?_
      refine pm_callV (ci := 10) (as := [(0, a2)]) (st := []) hC 73 (fD_X10_weigh_73 a2 ⟨by exact ow_79i_0 h1, by exact ow_79i_1 h1⟩) lm_X10_148 li_X10_weigh (by decide) (by decide) rfl rfl rfl (by decide) rfl rfl (Nat.le_of_ble_eq_true rfl) ⟨Nat.le_refl _, Or.inl rfl⟩ dX10_partedBy_31 ⟨rfl, ((hV4.put2 73 13 (x := 77) (lo := 76) (hi := 77) rfl ⟨by exact ow_79i_13, by decide⟩).put2 73 15 (x := 76) (lo := 76) (hi := 77) rfl ⟨by exact ow_79i_2, by decide⟩)⟩ (fun r121 V122 hp123 => ?_)
      obtain ⟨rfl, hV124, hF125, hE126⟩ := hp123
      replace hT := hT.trans (pf_call_eq hE126)
      change pm_J X 34 [(4, (1, y118)), (3, (3, 76)), (0, (3, 73)), (1, (0, a1)), (2, (0, a2))] [] 118 V122
      have hF127 := pm_ff.tr ((hF7.upf 73 13 77 rfl).upf 73 15 76 rfl) hF125 (by decide) (by decide)
      have e128 : V122 73 13 = 77 := by rw [hF125 73 13 (by decide) (by decide)]; rfl
      have e129 : V122 73 15 = 76 := by rw [hF125 73 15 (by decide) (by decide)]; rfl
      refine pm_lconst (x := 0) hC dX10_partedBy_34 rfl ?_
      refine pm_lstore (lv' := [(6, (1, 0)), (4, (1, y118)), (3, (3, 76)), (0, (3, 73)), (1, (0, a1)), (2, (0, a2))]) hC dX10_partedBy_35 (by decide) rfl ?_
      refine pm_iconst (v := 0) hC dX10_partedBy_37 ?_
      refine pm_istore (lv' := [(8, (0, 0)), (6, (1, 0)), (4, (1, y118)), (3, (3, 76)), (0, (3, 73)), (1, (0, a1)), (2, (0, a2))]) hC dX10_partedBy_38 (by decide) rfl ?_
      obtain ⟨B134, hB135, hT⟩ := pf_loop hT
      have L137 : ∀ (N139 : Nat) (x130 : Int) (x132 : Int), ((-9223372036854775808) ≤ x130 ∧ x130 ≤ 9223372036854775807) → (0 ≤ x132 ∧ x132 ≤ 9) → F_X10_partedBy a1 a2 V0 = pf_val ((0 : Int), V0) B134 (x130, x132) → (Int.toNat (9 - x132)) = N139 → pm_J X 40 [(0, (3, 73)), (1, (0, a1)), (2, (0, a2)), (3, (3, 76)), (4, (1, y118)), (6, (1, x130)), (8, (0, x132))] [] 118 V122 := by
        intro N139
        induction N139 using Nat.strongRecOn with
        | _ N139 ih140 =>
        intro x130 x132 b131 b133 hT hm138
        have hb136 := congrFun hB135 (x130, x132)
        refine pm_iload hC 6 dX10_partedBy_40 rfl ?_
        refine pm_aload_n hC 0 (by decide) dX10_partedBy_42 rfl ?_
        rcases hV124.get2 73 0 (lo := 45) (hi := 51) (by decide) (by decide) rfl with e141 | e141
        · skip
          replace hb136 := hb136.trans (if_pos e141)
          refine pm_getf (v := 45) hC 73 fl_X10_59 rfl rfl (by decide) rfl e141 dX10_partedBy_43 ?_
          obtain ⟨y142, e143⟩ : ∃ y, V122 45 0 = y := ⟨_, rfl⟩
          have b144 := hV124.get 45 0 (lo := 0) (hi := 9) (by decide) (by decide) rfl
          rw [e143] at b144
          replace hb136 := hb136.trans (pf_let_eq e143)
          refine pm_getf (v := y142) hC 45 fl_X10_79 rfl rfl (by decide) rfl e143 dX10_partedBy_46 ?_
          refine pm_icmp_ge (tgt := 89) hC ⟨by exact ow_79i_3 b133, by exact ow_79i_4 b133⟩ ⟨by exact ow_79i_3 b144, by exact ow_79i_4 b144⟩ dX10_partedBy_49 (by decide) (fun c145 => ?_) (fun c145 => ?_)
          · skip
            replace hb136 := hb136.trans (if_pos c145)
            refine pm_lload hC 5 dX10_partedBy_89 rfl ?_
            refine pm_ldc2 (v := 2) hC 5038 dX10_partedBy_91 (by decide +kernel) ?_
            refine pm_aload_n hC 0 (by decide) dX10_partedBy_94 rfl ?_
            obtain ⟨y146, e147⟩ : ∃ y, V122 73 14 = y := ⟨_, rfl⟩
            have b148 := hV124.get 73 14 (lo := (-9223372036854775808)) (hi := 9223372036854775807) (by decide) (by decide) rfl
            rw [e147] at b148
            replace hb136 := hb136.trans (pf_let_eq e147)
            refine pm_getf (v := y146) hC 73 fl_X10_53 rfl rfl (by decide) rfl e147 dX10_partedBy_95 ?_
            refine pm_lmul hC dX10_partedBy_98 ?_
            refine pm_wrL hC (fun y149 hw151 b150 => ?_)
            replace hb136 := hb136.trans (pf_let_eq hw151)
            have b150 := And.intro b150.1 b150.2
            refine pm_lload hC 4 dX10_partedBy_99 rfl ?_
            refine pm_lmul hC dX10_partedBy_101 ?_
            refine pm_wrL hC (fun y152 hw154 b153 => ?_)
            replace hb136 := hb136.trans (pf_let_eq hw154)
            have b153 := And.intro b153.1 b153.2
            refine pm_callSN (as := [(1, x130), (1, y152)]) (st := []) hC (fD_X11_ofThousand x130 y152 ⟨by exact ow_79i_5 b131, by exact ow_79i_6 b131⟩ ⟨by exact ow_79i_5 b153, by exact ow_79i_6 b153⟩) lm_X10_141 ls_X11_ofThousand (by decide) (by decide) rfl rfl (Nat.le_of_ble_eq_true rfl) ⟨Nat.le_refl _, Or.inl rfl⟩ dX10_partedBy_102 ⟨rfl, hV124⟩ (fun r155 V156 hp157 => ?_)
            obtain ⟨y158, rfl, b159, rfl, hE160⟩ := hp157
            replace hb136 := hb136.trans (pf_call_eq hE160)
            change pm_J X 105 [(0, (3, 73)), (1, (0, a1)), (2, (0, a2)), (3, (3, 76)), (4, (1, y118)), (6, (1, x130)), (8, (0, x132))] [(0, y158)] 118 V122
            replace hT := hT.trans (pf_val_inr hb136)
            exact pm_iret hC hR pm_nar0 ⟨y158, rfl, ⟨by exact ow_79i_0 b159, by exact ow_79i_1 b159⟩, hV124, hF127, hT⟩ dX10_partedBy_105
          · skip
            replace hb136 := hb136.trans (if_neg (Int.not_le.mpr c145))
            refine pm_lload hC 5 dX10_partedBy_52 rfl ?_
            refine pm_aload_n hC 0 (by decide) dX10_partedBy_54 rfl ?_
            refine pm_getf (v := 77) hC 73 fl_X10_50 rfl rfl (by decide) rfl e128 dX10_partedBy_55 ?_
            refine pm_iload hC 6 dX10_partedBy_58 rfl ?_
            obtain ⟨y161, e162⟩ : ∃ y, V122 77 (x132 : Int).toNat = y := ⟨_, rfl⟩
            replace hb136 := hb136.trans (pf_let_eq e162)
            have b163 := hV124.get 77 (x132 : Int).toNat (lo := (-9223372036854775808)) (hi := 9223372036854775807) (by decide) (show _ < 9 by exact ow_79i_7 b144 c145) rfl
            rw [e162] at b163
            refine pm_laload (len := 9) (v := y161) hC 77 rfl rfl (by decide) ⟨by exact ow_79i_8 b133, by exact ow_79i_9 b144 c145⟩ (by decide) e162 dX10_partedBy_60 ?_
            refine pm_lload hC 4 dX10_partedBy_61 rfl ?_
            refine pm_lmul hC dX10_partedBy_63 ?_
            refine pm_wrL hC (fun y164 hw166 b165 => ?_)
            replace hb136 := hb136.trans (pf_let_eq hw166)
            have b165 := And.intro b165.1 b165.2
            refine pm_aload_n hC 0 (by decide) dX10_partedBy_64 rfl ?_
            refine pm_getf (v := 76) hC 73 fl_X10_56 rfl rfl (by decide) rfl e129 dX10_partedBy_65 ?_
            refine pm_iload hC 6 dX10_partedBy_68 rfl ?_
            obtain ⟨y167, e168⟩ : ∃ y, V122 76 (x132 : Int).toNat = y := ⟨_, rfl⟩
            replace hb136 := hb136.trans (pf_let_eq e168)
            have b169 := hV124.get 76 (x132 : Int).toNat (lo := (-9223372036854775808)) (hi := 9223372036854775807) (by decide) (show _ < 9 by exact ow_79i_7 b144 c145) rfl
            rw [e168] at b169
            refine pm_laload (len := 9) (v := y167) hC 76 rfl rfl (by decide) ⟨by exact ow_79i_8 b133, by exact ow_79i_9 b144 c145⟩ (by decide) e168 dX10_partedBy_70 ?_
            refine pm_aload_n hC 0 (by decide) dX10_partedBy_71 rfl ?_
            obtain ⟨y170, e171⟩ : ∃ y, V122 73 14 = y := ⟨_, rfl⟩
            have b172 := hV124.get 73 14 (lo := (-9223372036854775808)) (hi := 9223372036854775807) (by decide) (by decide) rfl
            rw [e171] at b172
            replace hb136 := hb136.trans (pf_let_eq e171)
            refine pm_getf (v := y170) hC 73 fl_X10_53 rfl rfl (by decide) rfl e171 dX10_partedBy_72 ?_
            refine pm_lmul hC dX10_partedBy_75 ?_
            refine pm_wrL hC (fun y173 hw175 b174 => ?_)
            replace hb136 := hb136.trans (pf_let_eq hw175)
            have b174 := And.intro b174.1 b174.2
            refine pm_lsub hC dX10_partedBy_76 ?_
            refine pm_wrL hC (fun y176 hw178 b177 => ?_)
            replace hb136 := hb136.trans (pf_let_eq hw178)
            have b177 := And.intro b177.1 b177.2
            refine pm_mabsLT hC 5035 5036 1018 5037 ⟨by exact ow_79i_5 b177, by exact ow_79i_6 b177⟩ (by decide) wL_X10_151 wS_mabsL wI_math wC_mabsL (Nat.le_of_ble_eq_true rfl) dX10_partedBy_77 (fun y179 he181 b180 => ?_)
            have b180 := And.intro b180.1.1 (And.intro b180.1.2 b180.2)
            replace hb136 := hb136.trans (pf_let_eq he181)
            refine pm_ladd hC dX10_partedBy_80 ?_
            refine pm_wrL hC (fun y182 hw184 b183 => ?_)
            replace hb136 := hb136.trans (pf_let_eq hw184)
            have b183 := And.intro b183.1 b183.2
            refine pm_lstore (lv' := [(6, (1, y182)), (0, (3, 73)), (1, (0, a1)), (2, (0, a2)), (3, (3, 76)), (4, (1, y118)), (8, (0, x132))]) hC dX10_partedBy_81 (by decide) rfl ?_
            obtain ⟨x185, ei186⟩ : ∃ y : Int, x132 + 1 = y := ⟨_, rfl⟩
            replace hb136 := hb136.trans (pf_let_eq ei186)
            refine pm_iinc (y := x185) (lv' := [(8, (0, x185)), (6, (1, y182)), (0, (3, 73)), (1, (0, a1)), (2, (0, a2)), (3, (3, 76)), (4, (1, y118))]) hC 6 dX10_partedBy_83 (by decide) rfl ei186 rfl ?_
            refine pm_goto (tgt := 40) hC dX10_partedBy_86 (by decide) ?_
            refine pm_lvsub [2, 3, 4, 5, 6, 1, 0] (lv' := [(0, (3, 73)), (1, (0, a1)), (2, (0, a2)), (3, (3, 76)), (4, (1, y118)), (6, (1, y182)), (8, (0, x185))]) rfl ?_
            exact ih140 _ (by exact ow_79i_10 hm138 b144 c145 ei186) y182 x185 ⟨by exact ow_79i_5 b183, by exact ow_79i_6 b183⟩ ⟨by exact ow_79i_11 b133 ei186, by exact ow_79i_12 b144 c145 ei186⟩ (hT.trans (pf_val_inl hb136)) rfl
        · skip
          replace hb136 := hb136.trans (if_neg (by rw [e141]; decide))
          refine pm_getf (v := 51) hC 73 fl_X10_59 rfl rfl (by decide) rfl e141 dX10_partedBy_43 ?_
          obtain ⟨y187, e188⟩ : ∃ y, V122 51 0 = y := ⟨_, rfl⟩
          have b189 := hV124.get 51 0 (lo := 0) (hi := 9) (by decide) (by decide) rfl
          rw [e188] at b189
          replace hb136 := hb136.trans (pf_let_eq e188)
          refine pm_getf (v := y187) hC 51 fl_X10_79 rfl rfl (by decide) rfl e188 dX10_partedBy_46 ?_
          refine pm_icmp_ge (tgt := 89) hC ⟨by exact ow_79i_3 b133, by exact ow_79i_4 b133⟩ ⟨by exact ow_79i_3 b189, by exact ow_79i_4 b189⟩ dX10_partedBy_49 (by decide) (fun c190 => ?_) (fun c190 => ?_)
          · skip
            replace hb136 := hb136.trans (if_pos c190)
            refine pm_lload hC 5 dX10_partedBy_89 rfl ?_
            refine pm_ldc2 (v := 2) hC 5038 dX10_partedBy_91 (by decide +kernel) ?_
            refine pm_aload_n hC 0 (by decide) dX10_partedBy_94 rfl ?_
            obtain ⟨y191, e192⟩ : ∃ y, V122 73 14 = y := ⟨_, rfl⟩
            have b193 := hV124.get 73 14 (lo := (-9223372036854775808)) (hi := 9223372036854775807) (by decide) (by decide) rfl
            rw [e192] at b193
            replace hb136 := hb136.trans (pf_let_eq e192)
            refine pm_getf (v := y191) hC 73 fl_X10_53 rfl rfl (by decide) rfl e192 dX10_partedBy_95 ?_
            refine pm_lmul hC dX10_partedBy_98 ?_
            refine pm_wrL hC (fun y194 hw196 b195 => ?_)
            replace hb136 := hb136.trans (pf_let_eq hw196)
            have b195 := And.intro b195.1 b195.2
            refine pm_lload hC 4 dX10_partedBy_99 rfl ?_
            refine pm_lmul hC dX10_partedBy_101 ?_
            refine pm_wrL hC (fun y197 hw199 b198 => ?_)
            replace hb136 := hb136.trans (pf_let_eq hw199)
            have b198 := And.intro b198.1 b198.2
            refine pm_callSN (as := [(1, x130), (1, y197)]) (st := []) hC (fD_X11_ofThousand x130 y197 ⟨by exact ow_79i_5 b131, by exact ow_79i_6 b131⟩ ⟨by exact ow_79i_5 b198, by exact ow_79i_6 b198⟩) lm_X10_141 ls_X11_ofThousand (by decide) (by decide) rfl rfl (Nat.le_of_ble_eq_true rfl) ⟨Nat.le_refl _, Or.inl rfl⟩ dX10_partedBy_102 ⟨rfl, hV124⟩ (fun r200 V201 hp202 => ?_)
            obtain ⟨y203, rfl, b204, rfl, hE205⟩ := hp202
            replace hb136 := hb136.trans (pf_call_eq hE205)
            change pm_J X 105 [(0, (3, 73)), (1, (0, a1)), (2, (0, a2)), (3, (3, 76)), (4, (1, y118)), (6, (1, x130)), (8, (0, x132))] [(0, y203)] 118 V122
            replace hT := hT.trans (pf_val_inr hb136)
            exact pm_iret hC hR pm_nar0 ⟨y203, rfl, ⟨by exact ow_79i_0 b204, by exact ow_79i_1 b204⟩, hV124, hF127, hT⟩ dX10_partedBy_105
          · skip
            replace hb136 := hb136.trans (if_neg (Int.not_le.mpr c190))
            refine pm_lload hC 5 dX10_partedBy_52 rfl ?_
            refine pm_aload_n hC 0 (by decide) dX10_partedBy_54 rfl ?_
            refine pm_getf (v := 77) hC 73 fl_X10_50 rfl rfl (by decide) rfl e128 dX10_partedBy_55 ?_
            refine pm_iload hC 6 dX10_partedBy_58 rfl ?_
            obtain ⟨y206, e207⟩ : ∃ y, V122 77 (x132 : Int).toNat = y := ⟨_, rfl⟩
            replace hb136 := hb136.trans (pf_let_eq e207)
            have b208 := hV124.get 77 (x132 : Int).toNat (lo := (-9223372036854775808)) (hi := 9223372036854775807) (by decide) (show _ < 9 by exact ow_79i_7 b189 c190) rfl
            rw [e207] at b208
            refine pm_laload (len := 9) (v := y206) hC 77 rfl rfl (by decide) ⟨by exact ow_79i_8 b133, by exact ow_79i_9 b189 c190⟩ (by decide) e207 dX10_partedBy_60 ?_
            refine pm_lload hC 4 dX10_partedBy_61 rfl ?_
            refine pm_lmul hC dX10_partedBy_63 ?_
            refine pm_wrL hC (fun y209 hw211 b210 => ?_)
            replace hb136 := hb136.trans (pf_let_eq hw211)
            have b210 := And.intro b210.1 b210.2
            refine pm_aload_n hC 0 (by decide) dX10_partedBy_64 rfl ?_
            refine pm_getf (v := 76) hC 73 fl_X10_56 rfl rfl (by decide) rfl e129 dX10_partedBy_65 ?_
            refine pm_iload hC 6 dX10_partedBy_68 rfl ?_
            obtain ⟨y212, e213⟩ : ∃ y, V122 76 (x132 : Int).toNat = y := ⟨_, rfl⟩
            replace hb136 := hb136.trans (pf_let_eq e213)
            have b214 := hV124.get 76 (x132 : Int).toNat (lo := (-9223372036854775808)) (hi := 9223372036854775807) (by decide) (show _ < 9 by exact ow_79i_7 b189 c190) rfl
            rw [e213] at b214
            refine pm_laload (len := 9) (v := y212) hC 76 rfl rfl (by decide) ⟨by exact ow_79i_8 b133, by exact ow_79i_9 b189 c190⟩ (by decide) e213 dX10_partedBy_70 ?_
            refine pm_aload_n hC 0 (by decide) dX10_partedBy_71 rfl ?_
            obtain ⟨y215, e216⟩ : ∃ y, V122 73 14 = y := ⟨_, rfl⟩
            have b217 := hV124.get 73 14 (lo := (-9223372036854775808)) (hi := 9223372036854775807) (by decide) (by decide) rfl
            rw [e216] at b217
            replace hb136 := hb136.trans (pf_let_eq e216)
            refine pm_getf (v := y215) hC 73 fl_X10_53 rfl rfl (by decide) rfl e216 dX10_partedBy_72 ?_
            refine pm_lmul hC dX10_partedBy_75 ?_
            refine pm_wrL hC (fun y218 hw220 b219 => ?_)
            replace hb136 := hb136.trans (pf_let_eq hw220)
            have b219 := And.intro b219.1 b219.2
            refine pm_lsub hC dX10_partedBy_76 ?_
            refine pm_wrL hC (fun y221 hw223 b222 => ?_)
            replace hb136 := hb136.trans (pf_let_eq hw223)
            have b222 := And.intro b222.1 b222.2
            refine pm_mabsLT hC 5035 5036 1018 5037 ⟨by exact ow_79i_5 b222, by exact ow_79i_6 b222⟩ (by decide) wL_X10_151 wS_mabsL wI_math wC_mabsL (Nat.le_of_ble_eq_true rfl) dX10_partedBy_77 (fun y224 he226 b225 => ?_)
            have b225 := And.intro b225.1.1 (And.intro b225.1.2 b225.2)
            replace hb136 := hb136.trans (pf_let_eq he226)
            refine pm_ladd hC dX10_partedBy_80 ?_
            refine pm_wrL hC (fun y227 hw229 b228 => ?_)
            replace hb136 := hb136.trans (pf_let_eq hw229)
            have b228 := And.intro b228.1 b228.2
            refine pm_lstore (lv' := [(6, (1, y227)), (0, (3, 73)), (1, (0, a1)), (2, (0, a2)), (3, (3, 76)), (4, (1, y118)), (8, (0, x132))]) hC dX10_partedBy_81 (by decide) rfl ?_
            obtain ⟨x230, ei231⟩ : ∃ y : Int, x132 + 1 = y := ⟨_, rfl⟩
            replace hb136 := hb136.trans (pf_let_eq ei231)
            refine pm_iinc (y := x230) (lv' := [(8, (0, x230)), (6, (1, y227)), (0, (3, 73)), (1, (0, a1)), (2, (0, a2)), (3, (3, 76)), (4, (1, y118))]) hC 6 dX10_partedBy_83 (by decide) rfl ei231 rfl ?_
            refine pm_goto (tgt := 40) hC dX10_partedBy_86 (by decide) ?_
            refine pm_lvsub [2, 3, 4, 5, 6, 1, 0] (lv' := [(0, (3, 73)), (1, (0, a1)), (2, (0, a2)), (3, (3, 76)), (4, (1, y118)), (6, (1, y227)), (8, (0, x230))]) rfl ?_
            exact ih140 _ (by exact ow_79i_10 hm138 b189 c190 ei231) y227 x230 ⟨by exact ow_79i_5 b228, by exact ow_79i_6 b228⟩ ⟨by exact ow_79i_11 b133 ei231, by exact ow_79i_12 b189 c190 ei231⟩ (hT.trans (pf_val_inl hb136)) rfl
      refine pm_lvsub [4, 5, 6, 3, 2, 1, 0] (lv' := [(0, (3, 73)), (1, (0, a1)), (2, (0, a2)), (3, (3, 76)), (4, (1, y118)), (6, (1, 0)), (8, (0, 0))]) rfl ?_
      exact L137 _ 0 0 ⟨by decide, by decide⟩ ⟨by decide, by decide⟩ hT rfl
  · skip
    replace hT := hT.trans (if_neg (by rw [e8]; decide))
    refine pm_getf (v := 77) hC 73 fl_X10_50 rfl rfl (by decide) rfl e8 dX10_partedBy_6 ?_
    refine pm_astore_n (lv' := [(3, (3, 77)), (0, (3, 73)), (1, (0, a1)), (2, (0, a2))]) hC (by decide) dX10_partedBy_9 (by decide) rfl ?_
    refine pm_aload_n hC 1 (by decide) dX10_partedBy_10 rfl ?_
    refine pm_aload_n hC 1 (by decide) dX10_partedBy_11 rfl ?_
    rcases hV4.get2 73 15 (lo := 76) (hi := 77) (by decide) (by decide) rfl with e232 | e232
    · skip
      replace hT := hT.trans (if_pos e232)
      refine pm_getf (v := 76) hC 73 fl_X10_56 rfl rfl (by decide) rfl e232 dX10_partedBy_12 ?_
      refine pm_putf hC 73 fl_X10_50 rfl rfl rfl (by decide) rfl trivial dX10_partedBy_15 ?_
      refine pm_aload_n hC 1 (by decide) dX10_partedBy_18 rfl ?_
      refine pm_aload_n hC 0 (by decide) dX10_partedBy_19 rfl ?_
      refine pm_putf hC 73 fl_X10_56 rfl rfl rfl (by decide) rfl trivial dX10_partedBy_20 ?_
      refine pm_aload_n hC 1 (by decide) dX10_partedBy_23 rfl ?_
      obtain ⟨y233, e234⟩ : ∃ y, V2 73 14 = y := ⟨_, rfl⟩
      have b235 := hV4.get 73 14 (lo := (-9223372036854775808)) (hi := 9223372036854775807) (by decide) (by decide) rfl
      rw [e234] at b235
      replace hT := hT.trans (pf_let_eq e234)
      refine pm_getf (v := y233) hC 73 fl_X10_53 rfl rfl (by decide) rfl e234 dX10_partedBy_24 ?_
      refine pm_lstore (lv' := [(4, (1, y233)), (3, (3, 77)), (0, (3, 73)), (1, (0, a1)), (2, (0, a2))]) hC dX10_partedBy_27 (by decide) rfl ?_
      refine pm_aload_n hC 2 (by decide) dX10_partedBy_29 rfl ?_
      refine pm_iload_n hC 4 dX10_partedBy_30 rfl ?_
      refine pm_callV (ci := 10) (as := [(0, a2)]) (st := []) hC 73 (fD_X10_weigh_73 a2 ⟨by exact ow_79i_0 h1, by exact ow_79i_1 h1⟩) lm_X10_148 li_X10_weigh (by decide) (by decide) rfl rfl rfl (by decide) rfl rfl (Nat.le_of_ble_eq_true rfl) ⟨Nat.le_refl _, Or.inl rfl⟩ dX10_partedBy_31 ⟨rfl, ((hV4.put2 73 13 (x := 76) (lo := 76) (hi := 77) rfl ⟨by exact ow_79i_2, by decide⟩).put2 73 15 (x := 77) (lo := 76) (hi := 77) rfl ⟨by exact ow_79i_13, by decide⟩)⟩ (fun r236 V237 hp238 => ?_)
      obtain ⟨rfl, hV239, hF240, hE241⟩ := hp238
      replace hT := hT.trans (pf_call_eq hE241)
      change pm_J X 34 [(4, (1, y233)), (3, (3, 77)), (0, (3, 73)), (1, (0, a1)), (2, (0, a2))] [] 118 V237
      have hF242 := pm_ff.tr ((hF7.upf 73 13 76 rfl).upf 73 15 77 rfl) hF240 (by decide) (by decide)
      have e243 : V237 73 13 = 76 := by rw [hF240 73 13 (by decide) (by decide)]; rfl
      have e244 : V237 73 15 = 77 := by rw [hF240 73 15 (by decide) (by decide)]; rfl
      refine pm_lconst (x := 0) hC dX10_partedBy_34 rfl ?_
      refine pm_lstore (lv' := [(6, (1, 0)), (4, (1, y233)), (3, (3, 77)), (0, (3, 73)), (1, (0, a1)), (2, (0, a2))]) hC dX10_partedBy_35 (by decide) rfl ?_
      refine pm_iconst (v := 0) hC dX10_partedBy_37 ?_
      refine pm_istore (lv' := [(8, (0, 0)), (6, (1, 0)), (4, (1, y233)), (3, (3, 77)), (0, (3, 73)), (1, (0, a1)), (2, (0, a2))]) hC dX10_partedBy_38 (by decide) rfl ?_
      obtain ⟨B249, hB250, hT⟩ := pf_loop hT
      have L252 : ∀ (N254 : Nat) (x245 : Int) (x247 : Int), ((-9223372036854775808) ≤ x245 ∧ x245 ≤ 9223372036854775807) → (0 ≤ x247 ∧ x247 ≤ 9) → F_X10_partedBy a1 a2 V0 = pf_val ((0 : Int), V0) B249 (x245, x247) → (Int.toNat (9 - x247)) = N254 → pm_J X 40 [(0, (3, 73)), (1, (0, a1)), (2, (0, a2)), (3, (3, 77)), (4, (1, y233)), (6, (1, x245)), (8, (0, x247))] [] 118 V237 := by
        intro N254
        induction N254 using Nat.strongRecOn with
        | _ N254 ih255 =>
        intro x245 x247 b246 b248 hT hm253
        have hb251 := congrFun hB250 (x245, x247)
        refine pm_iload hC 6 dX10_partedBy_40 rfl ?_
        refine pm_aload_n hC 0 (by decide) dX10_partedBy_42 rfl ?_
        rcases hV239.get2 73 0 (lo := 45) (hi := 51) (by decide) (by decide) rfl with e256 | e256
        · skip
          replace hb251 := hb251.trans (if_pos e256)
          refine pm_getf (v := 45) hC 73 fl_X10_59 rfl rfl (by decide) rfl e256 dX10_partedBy_43 ?_
          obtain ⟨y257, e258⟩ : ∃ y, V237 45 0 = y := ⟨_, rfl⟩
          have b259 := hV239.get 45 0 (lo := 0) (hi := 9) (by decide) (by decide) rfl
          rw [e258] at b259
          replace hb251 := hb251.trans (pf_let_eq e258)
          refine pm_getf (v := y257) hC 45 fl_X10_79 rfl rfl (by decide) rfl e258 dX10_partedBy_46 ?_
          refine pm_icmp_ge (tgt := 89) hC ⟨by exact ow_79i_3 b248, by exact ow_79i_4 b248⟩ ⟨by exact ow_79i_3 b259, by exact ow_79i_4 b259⟩ dX10_partedBy_49 (by decide) (fun c260 => ?_) (fun c260 => ?_)
          · skip
            replace hb251 := hb251.trans (if_pos c260)
            refine pm_lload hC 5 dX10_partedBy_89 rfl ?_
            refine pm_ldc2 (v := 2) hC 5038 dX10_partedBy_91 (by decide +kernel) ?_
            refine pm_aload_n hC 0 (by decide) dX10_partedBy_94 rfl ?_
            obtain ⟨y261, e262⟩ : ∃ y, V237 73 14 = y := ⟨_, rfl⟩
            have b263 := hV239.get 73 14 (lo := (-9223372036854775808)) (hi := 9223372036854775807) (by decide) (by decide) rfl
            rw [e262] at b263
            replace hb251 := hb251.trans (pf_let_eq e262)
            refine pm_getf (v := y261) hC 73 fl_X10_53 rfl rfl (by decide) rfl e262 dX10_partedBy_95 ?_
            refine pm_lmul hC dX10_partedBy_98 ?_
            refine pm_wrL hC (fun y264 hw266 b265 => ?_)
            replace hb251 := hb251.trans (pf_let_eq hw266)
            have b265 := And.intro b265.1 b265.2
            refine pm_lload hC 4 dX10_partedBy_99 rfl ?_
            refine pm_lmul hC dX10_partedBy_101 ?_
            refine pm_wrL hC (fun y267 hw269 b268 => ?_)
            replace hb251 := hb251.trans (pf_let_eq hw269)
            have b268 := And.intro b268.1 b268.2
            refine pm_callSN (as := [(1, x245), (1, y267)]) (st := []) hC (fD_X11_ofThousand x245 y267 ⟨by exact ow_79i_5 b246, by exact ow_79i_6 b246⟩ ⟨by exact ow_79i_5 b268, by exact ow_79i_6 b268⟩) lm_X10_141 ls_X11_ofThousand (by decide) (by decide) rfl rfl (Nat.le_of_ble_eq_true rfl) ⟨Nat.le_refl _, Or.inl rfl⟩ dX10_partedBy_102 ⟨rfl, hV239⟩ (fun r270 V271 hp272 => ?_)
            obtain ⟨y273, rfl, b274, rfl, hE275⟩ := hp272
            replace hb251 := hb251.trans (pf_call_eq hE275)
            change pm_J X 105 [(0, (3, 73)), (1, (0, a1)), (2, (0, a2)), (3, (3, 77)), (4, (1, y233)), (6, (1, x245)), (8, (0, x247))] [(0, y273)] 118 V237
            replace hT := hT.trans (pf_val_inr hb251)
            exact pm_iret hC hR pm_nar0 ⟨y273, rfl, ⟨by exact ow_79i_0 b274, by exact ow_79i_1 b274⟩, hV239, hF242, hT⟩ dX10_partedBy_105
          · skip
            replace hb251 := hb251.trans (if_neg (Int.not_le.mpr c260))
            refine pm_lload hC 5 dX10_partedBy_52 rfl ?_
            refine pm_aload_n hC 0 (by decide) dX10_partedBy_54 rfl ?_
            refine pm_getf (v := 76) hC 73 fl_X10_50 rfl rfl (by decide) rfl e243 dX10_partedBy_55 ?_
            refine pm_iload hC 6 dX10_partedBy_58 rfl ?_
            obtain ⟨y276, e277⟩ : ∃ y, V237 76 (x247 : Int).toNat = y := ⟨_, rfl⟩
            replace hb251 := hb251.trans (pf_let_eq e277)
            have b278 := hV239.get 76 (x247 : Int).toNat (lo := (-9223372036854775808)) (hi := 9223372036854775807) (by decide) (show _ < 9 by exact ow_79i_7 b259 c260) rfl
            rw [e277] at b278
            refine pm_laload (len := 9) (v := y276) hC 76 rfl rfl (by decide) ⟨by exact ow_79i_8 b248, by exact ow_79i_9 b259 c260⟩ (by decide) e277 dX10_partedBy_60 ?_
            refine pm_lload hC 4 dX10_partedBy_61 rfl ?_
            refine pm_lmul hC dX10_partedBy_63 ?_
            refine pm_wrL hC (fun y279 hw281 b280 => ?_)
            replace hb251 := hb251.trans (pf_let_eq hw281)
            have b280 := And.intro b280.1 b280.2
            refine pm_aload_n hC 0 (by decide) dX10_partedBy_64 rfl ?_
            refine pm_getf (v := 77) hC 73 fl_X10_56 rfl rfl (by decide) rfl e244 dX10_partedBy_65 ?_
            refine pm_iload hC 6 dX10_partedBy_68 rfl ?_
            obtain ⟨y282, e283⟩ : ∃ y, V237 77 (x247 : Int).toNat = y := ⟨_, rfl⟩
            replace hb251 := hb251.trans (pf_let_eq e283)
            have b284 := hV239.get 77 (x247 : Int).toNat (lo := (-9223372036854775808)) (hi := 9223372036854775807) (by decide) (show _ < 9 by exact ow_79i_7 b259 c260) rfl
            rw [e283] at b284
            refine pm_laload (len := 9) (v := y282) hC 77 rfl rfl (by decide) ⟨by exact ow_79i_8 b248, by exact ow_79i_9 b259 c260⟩ (by decide) e283 dX10_partedBy_70 ?_
            refine pm_aload_n hC 0 (by decide) dX10_partedBy_71 rfl ?_
            obtain ⟨y285, e286⟩ : ∃ y, V237 73 14 = y := ⟨_, rfl⟩
            have b287 := hV239.get 73 14 (lo := (-9223372036854775808)) (hi := 9223372036854775807) (by decide) (by decide) rfl
            rw [e286] at b287
            replace hb251 := hb251.trans (pf_let_eq e286)
            refine pm_getf (v := y285) hC 73 fl_X10_53 rfl rfl (by decide) rfl e286 dX10_partedBy_72 ?_
            refine pm_lmul hC dX10_partedBy_75 ?_
            refine pm_wrL hC (fun y288 hw290 b289 => ?_)
            replace hb251 := hb251.trans (pf_let_eq hw290)
            have b289 := And.intro b289.1 b289.2
            refine pm_lsub hC dX10_partedBy_76 ?_
            refine pm_wrL hC (fun y291 hw293 b292 => ?_)
            replace hb251 := hb251.trans (pf_let_eq hw293)
            have b292 := And.intro b292.1 b292.2
            refine pm_mabsLT hC 5035 5036 1018 5037 ⟨by exact ow_79i_5 b292, by exact ow_79i_6 b292⟩ (by decide) wL_X10_151 wS_mabsL wI_math wC_mabsL (Nat.le_of_ble_eq_true rfl) dX10_partedBy_77 (fun y294 he296 b295 => ?_)
            have b295 := And.intro b295.1.1 (And.intro b295.1.2 b295.2)
            replace hb251 := hb251.trans (pf_let_eq he296)
            refine pm_ladd hC dX10_partedBy_80 ?_
            refine pm_wrL hC (fun y297 hw299 b298 => ?_)
            replace hb251 := hb251.trans (pf_let_eq hw299)
            have b298 := And.intro b298.1 b298.2
            refine pm_lstore (lv' := [(6, (1, y297)), (0, (3, 73)), (1, (0, a1)), (2, (0, a2)), (3, (3, 77)), (4, (1, y233)), (8, (0, x247))]) hC dX10_partedBy_81 (by decide) rfl ?_
            obtain ⟨x300, ei301⟩ : ∃ y : Int, x247 + 1 = y := ⟨_, rfl⟩
            replace hb251 := hb251.trans (pf_let_eq ei301)
            refine pm_iinc (y := x300) (lv' := [(8, (0, x300)), (6, (1, y297)), (0, (3, 73)), (1, (0, a1)), (2, (0, a2)), (3, (3, 77)), (4, (1, y233))]) hC 6 dX10_partedBy_83 (by decide) rfl ei301 rfl ?_
            refine pm_goto (tgt := 40) hC dX10_partedBy_86 (by decide) ?_
            refine pm_lvsub [2, 3, 4, 5, 6, 1, 0] (lv' := [(0, (3, 73)), (1, (0, a1)), (2, (0, a2)), (3, (3, 77)), (4, (1, y233)), (6, (1, y297)), (8, (0, x300))]) rfl ?_
            exact ih255 _ (by exact ow_79i_10 hm253 b259 c260 ei301) y297 x300 ⟨by exact ow_79i_5 b298, by exact ow_79i_6 b298⟩ ⟨by exact ow_79i_11 b248 ei301, by exact ow_79i_12 b259 c260 ei301⟩ (hT.trans (pf_val_inl hb251)) rfl
        · skip
          replace hb251 := hb251.trans (if_neg (by rw [e256]; decide))
          refine pm_getf (v := 51) hC 73 fl_X10_59 rfl rfl (by decide) rfl e256 dX10_partedBy_43 ?_
          obtain ⟨y302, e303⟩ : ∃ y, V237 51 0 = y := ⟨_, rfl⟩
          have b304 := hV239.get 51 0 (lo := 0) (hi := 9) (by decide) (by decide) rfl
          rw [e303] at b304
          replace hb251 := hb251.trans (pf_let_eq e303)
          refine pm_getf (v := y302) hC 51 fl_X10_79 rfl rfl (by decide) rfl e303 dX10_partedBy_46 ?_
          refine pm_icmp_ge (tgt := 89) hC ⟨by exact ow_79i_3 b248, by exact ow_79i_4 b248⟩ ⟨by exact ow_79i_3 b304, by exact ow_79i_4 b304⟩ dX10_partedBy_49 (by decide) (fun c305 => ?_) (fun c305 => ?_)
          · skip
            replace hb251 := hb251.trans (if_pos c305)
            refine pm_lload hC 5 dX10_partedBy_89 rfl ?_
            refine pm_ldc2 (v := 2) hC 5038 dX10_partedBy_91 (by decide +kernel) ?_
            refine pm_aload_n hC 0 (by decide) dX10_partedBy_94 rfl ?_
            obtain ⟨y306, e307⟩ : ∃ y, V237 73 14 = y := ⟨_, rfl⟩
            have b308 := hV239.get 73 14 (lo := (-9223372036854775808)) (hi := 9223372036854775807) (by decide) (by decide) rfl
            rw [e307] at b308
            replace hb251 := hb251.trans (pf_let_eq e307)
            refine pm_getf (v := y306) hC 73 fl_X10_53 rfl rfl (by decide) rfl e307 dX10_partedBy_95 ?_
            refine pm_lmul hC dX10_partedBy_98 ?_
            refine pm_wrL hC (fun y309 hw311 b310 => ?_)
            replace hb251 := hb251.trans (pf_let_eq hw311)
            have b310 := And.intro b310.1 b310.2
            refine pm_lload hC 4 dX10_partedBy_99 rfl ?_
            refine pm_lmul hC dX10_partedBy_101 ?_
            refine pm_wrL hC (fun y312 hw314 b313 => ?_)
            replace hb251 := hb251.trans (pf_let_eq hw314)
            have b313 := And.intro b313.1 b313.2
            refine pm_callSN (as := [(1, x245), (1, y312)]) (st := []) hC (fD_X11_ofThousand x245 y312 ⟨by exact ow_79i_5 b246, by exact ow_79i_6 b246⟩ ⟨by exact ow_79i_5 b313, by exact ow_79i_6 b313⟩) lm_X10_141 ls_X11_ofThousand (by decide) (by decide) rfl rfl (Nat.le_of_ble_eq_true rfl) ⟨Nat.le_refl _, Or.inl rfl⟩ dX10_partedBy_102 ⟨rfl, hV239⟩ (fun r315 V316 hp317 => ?_)
            obtain ⟨y318, rfl, b319, rfl, hE320⟩ := hp317
            replace hb251 := hb251.trans (pf_call_eq hE320)
            change pm_J X 105 [(0, (3, 73)), (1, (0, a1)), (2, (0, a2)), (3, (3, 77)), (4, (1, y233)), (6, (1, x245)), (8, (0, x247))] [(0, y318)] 118 V237
            replace hT := hT.trans (pf_val_inr hb251)
            exact pm_iret hC hR pm_nar0 ⟨y318, rfl, ⟨by exact ow_79i_0 b319, by exact ow_79i_1 b319⟩, hV239, hF242, hT⟩ dX10_partedBy_105
          · skip
            replace hb251 := hb251.trans (if_neg (Int.not_le.mpr c305))
            refine pm_lload hC 5 dX10_partedBy_52 rfl ?_
            refine pm_aload_n hC 0 (by decide) dX10_partedBy_54 rfl ?_
            refine pm_getf (v := 76) hC 73 fl_X10_50 rfl rfl (by decide) rfl e243 dX10_partedBy_55 ?_
            refine pm_iload hC 6 dX10_partedBy_58 rfl ?_
            obtain ⟨y321, e322⟩ : ∃ y, V237 76 (x247 : Int).toNat = y := ⟨_, rfl⟩
            replace hb251 := hb251.trans (pf_let_eq e322)
            have b323 := hV239.get 76 (x247 : Int).toNat (lo := (-9223372036854775808)) (hi := 9223372036854775807) (by decide) (show _ < 9 by exact ow_79i_7 b304 c305) rfl
            rw [e322] at b323
            refine pm_laload (len := 9) (v := y321) hC 76 rfl rfl (by decide) ⟨by exact ow_79i_8 b248, by exact ow_79i_9 b304 c305⟩ (by decide) e322 dX10_partedBy_60 ?_
            refine pm_lload hC 4 dX10_partedBy_61 rfl ?_
            refine pm_lmul hC dX10_partedBy_63 ?_
            refine pm_wrL hC (fun y324 hw326 b325 => ?_)
            replace hb251 := hb251.trans (pf_let_eq hw326)
            have b325 := And.intro b325.1 b325.2
            refine pm_aload_n hC 0 (by decide) dX10_partedBy_64 rfl ?_
            refine pm_getf (v := 77) hC 73 fl_X10_56 rfl rfl (by decide) rfl e244 dX10_partedBy_65 ?_
            refine pm_iload hC 6 dX10_partedBy_68 rfl ?_
            obtain ⟨y327, e328⟩ : ∃ y, V237 77 (x247 : Int).toNat = y := ⟨_, rfl⟩
            replace hb251 := hb251.trans (pf_let_eq e328)
            have b329 := hV239.get 77 (x247 : Int).toNat (lo := (-9223372036854775808)) (hi := 9223372036854775807) (by decide) (show _ < 9 by exact ow_79i_7 b304 c305) rfl
            rw [e328] at b329
            refine pm_laload (len := 9) (v := y327) hC 77 rfl rfl (by decide) ⟨by exact ow_79i_8 b248, by exact ow_79i_9 b304 c305⟩ (by decide) e328 dX10_partedBy_70 ?_
            refine pm_aload_n hC 0 (by decide) dX10_partedBy_71 rfl ?_
            obtain ⟨y330, e331⟩ : ∃ y, V237 73 14 = y := ⟨_, rfl⟩
            have b332 := hV239.get 73 14 (lo := (-9223372036854775808)) (hi := 9223372036854775807) (by decide) (by decide) rfl
            rw [e331] at b332
            replace hb251 := hb251.trans (pf_let_eq e331)
            refine pm_getf (v := y330) hC 73 fl_X10_53 rfl rfl (by decide) rfl e331 dX10_partedBy_72 ?_
            refine pm_lmul hC dX10_partedBy_75 ?_
            refine pm_wrL hC (fun y333 hw335 b334 => ?_)
            replace hb251 := hb251.trans (pf_let_eq hw335)
            have b334 := And.intro b334.1 b334.2
            refine pm_lsub hC dX10_partedBy_76 ?_
            refine pm_wrL hC (fun y336 hw338 b337 => ?_)
            replace hb251 := hb251.trans (pf_let_eq hw338)
            have b337 := And.intro b337.1 b337.2
            refine pm_mabsLT hC 5035 5036 1018 5037 ⟨by exact ow_79i_5 b337, by exact ow_79i_6 b337⟩ (by decide) wL_X10_151 wS_mabsL wI_math wC_mabsL (Nat.le_of_ble_eq_true rfl) dX10_partedBy_77 (fun y339 he341 b340 => ?_)
            have b340 := And.intro b340.1.1 (And.intro b340.1.2 b340.2)
            replace hb251 := hb251.trans (pf_let_eq he341)
            refine pm_ladd hC dX10_partedBy_80 ?_
            refine pm_wrL hC (fun y342 hw344 b343 => ?_)
            replace hb251 := hb251.trans (pf_let_eq hw344)
            have b343 := And.intro b343.1 b343.2
            refine pm_lstore (lv' := [(6, (1, y342)), (0, (3, 73)), (1, (0, a1)), (2, (0, a2)), (3, (3, 77)), (4, (1, y233)), (8, (0, x247))]) hC dX10_partedBy_81 (by decide) rfl ?_
            obtain ⟨x345, ei346⟩ : ∃ y : Int, x247 + 1 = y := ⟨_, rfl⟩
            replace hb251 := hb251.trans (pf_let_eq ei346)
            refine pm_iinc (y := x345) (lv' := [(8, (0, x345)), (6, (1, y342)), (0, (3, 73)), (1, (0, a1)), (2, (0, a2)), (3, (3, 77)), (4, (1, y233))]) hC 6 dX10_partedBy_83 (by decide) rfl ei346 rfl ?_
            refine pm_goto (tgt := 40) hC dX10_partedBy_86 (by decide) ?_
            refine pm_lvsub [2, 3, 4, 5, 6, 1, 0] (lv' := [(0, (3, 73)), (1, (0, a1)), (2, (0, a2)), (3, (3, 77)), (4, (1, y233)), (6, (1, y342)), (8, (0, x345))]) rfl ?_
            exact ih255 _ (by exact ow_79i_10 hm253 b304 c305 ei346) y342 x345 ⟨by exact ow_79i_5 b343, by exact ow_79i_6 b343⟩ ⟨by exact ow_79i_11 b248 ei346, by exact ow_79i_12 b304 c305 ei346⟩ (hT.trans (pf_val_inl hb251)) rfl
      refine pm_lvsub [4, 5, 6, 3, 2, 1, 0] (lv' := [(0, (3, 73)), (1, (0, a1)), (2, (0, a2)), (3, (3, 77)), (4, (1, y233)), (6, (1, 0)), (8, (0, 0))]) rfl ?_
      exact L252 _ 0 0 ⟨by decide, by decide⟩ ⟨by decide, by decide⟩ hT rfl
    · skip
      replace hT := hT.trans (if_neg (by rw [e232]; decide))
      refine pm_getf (v := 77) hC 73 fl_X10_56 rfl rfl (by decide) rfl e232 dX10_partedBy_12 ?_
      refine pm_putf hC 73 fl_X10_50 rfl rfl rfl (by decide) rfl trivial dX10_partedBy_15 ?_
      refine pm_aload_n hC 1 (by decide) dX10_partedBy_18 rfl ?_
      refine pm_aload_n hC 0 (by decide) dX10_partedBy_19 rfl ?_
      refine pm_putf hC 73 fl_X10_56 rfl rfl rfl (by decide) rfl trivial dX10_partedBy_20 ?_
      refine pm_aload_n hC 1 (by decide) dX10_partedBy_23 rfl ?_
      obtain ⟨y347, e348⟩ : ∃ y, V2 73 14 = y := ⟨_, rfl⟩
      have b349 := hV4.get 73 14 (lo := (-9223372036854775808)) (hi := 9223372036854775807) (by decide) (by decide) rfl
      rw [e348] at b349
      replace hT := hT.trans (pf_let_eq e348)
      refine pm_getf (v := y347) hC 73 fl_X10_53 rfl rfl (by decide) rfl e348 dX10_partedBy_24 ?_
      refine pm_lstore (lv' := [(4, (1, y347)), (3, (3, 77)), (0, (3, 73)), (1, (0, a1)), (2, (0, a2))]) hC dX10_partedBy_27 (by decide) rfl ?_
      refine pm_aload_n hC 2 (by decide) dX10_partedBy_29 rfl ?_
      refine pm_iload_n hC 4 dX10_partedBy_30 rfl ?_
      refine pm_callV (ci := 10) (as := [(0, a2)]) (st := []) hC 73 (fD_X10_weigh_73 a2 ⟨by exact ow_79i_0 h1, by exact ow_79i_1 h1⟩) lm_X10_148 li_X10_weigh (by decide) (by decide) rfl rfl rfl (by decide) rfl rfl (Nat.le_of_ble_eq_true rfl) ⟨Nat.le_refl _, Or.inl rfl⟩ dX10_partedBy_31 ⟨rfl, ((hV4.put2 73 13 (x := 77) (lo := 76) (hi := 77) rfl ⟨by exact ow_79i_13, by decide⟩).put2 73 15 (x := 77) (lo := 76) (hi := 77) rfl ⟨by exact ow_79i_13, by decide⟩)⟩ (fun r350 V351 hp352 => ?_)
      obtain ⟨rfl, hV353, hF354, hE355⟩ := hp352
      replace hT := hT.trans (pf_call_eq hE355)
      change pm_J X 34 [(4, (1, y347)), (3, (3, 77)), (0, (3, 73)), (1, (0, a1)), (2, (0, a2))] [] 118 V351
      have hF356 := pm_ff.tr ((hF7.upf 73 13 77 rfl).upf 73 15 77 rfl) hF354 (by decide) (by decide)
      have e357 : V351 73 13 = 77 := by rw [hF354 73 13 (by decide) (by decide)]; rfl
      have e358 : V351 73 15 = 77 := by rw [hF354 73 15 (by decide) (by decide)]; rfl
      refine pm_lconst (x := 0) hC dX10_partedBy_34 rfl ?_
      refine pm_lstore (lv' := [(6, (1, 0)), (4, (1, y347)), (3, (3, 77)), (0, (3, 73)), (1, (0, a1)), (2, (0, a2))]) hC dX10_partedBy_35 (by decide) rfl ?_
      refine pm_iconst (v := 0) hC dX10_partedBy_37 ?_
      refine pm_istore (lv' := [(8, (0, 0)), (6, (1, 0)), (4, (1, y347)), (3, (3, 77)), (0, (3, 73)), (1, (0, a1)), (2, (0, a2))]) hC dX10_partedBy_38 (by decide) rfl ?_
      obtain ⟨B363, hB364, hT⟩ := pf_loop hT
      have L366 : ∀ (N368 : Nat) (x359 : Int) (x361 : Int), ((-9223372036854775808) ≤ x359 ∧ x359 ≤ 9223372036854775807) → (0 ≤ x361 ∧ x361 ≤ 9) → F_X10_partedBy a1 a2 V0 = pf_val ((0 : Int), V0) B363 (x359, x361) → (Int.toNat (9 - x361)) = N368 → pm_J X 40 [(0, (3, 73)), (1, (0, a1)), (2, (0, a2)), (3, (3, 77)), (4, (1, y347)), (6, (1, x359)), (8, (0, x361))] [] 118 V351 := by
        intro N368
        induction N368 using Nat.strongRecOn with
        | _ N368 ih369 =>
        intro x359 x361 b360 b362 hT hm367
        have hb365 := congrFun hB364 (x359, x361)
        refine pm_iload hC 6 dX10_partedBy_40 rfl ?_
        refine pm_aload_n hC 0 (by decide) dX10_partedBy_42 rfl ?_
        rcases hV353.get2 73 0 (lo := 45) (hi := 51) (by decide) (by decide) rfl with e370 | e370
        · skip
          replace hb365 := hb365.trans (if_pos e370)
          refine pm_getf (v := 45) hC 73 fl_X10_59 rfl rfl (by decide) rfl e370 dX10_partedBy_43 ?_
          obtain ⟨y371, e372⟩ : ∃ y, V351 45 0 = y := ⟨_, rfl⟩
          have b373 := hV353.get 45 0 (lo := 0) (hi := 9) (by decide) (by decide) rfl
          rw [e372] at b373
          replace hb365 := hb365.trans (pf_let_eq e372)
          refine pm_getf (v := y371) hC 45 fl_X10_79 rfl rfl (by decide) rfl e372 dX10_partedBy_46 ?_
          refine pm_icmp_ge (tgt := 89) hC ⟨by exact ow_79i_3 b362, by exact ow_79i_4 b362⟩ ⟨by exact ow_79i_3 b373, by exact ow_79i_4 b373⟩ dX10_partedBy_49 (by decide) (fun c374 => ?_) (fun c374 => ?_)
          · skip
            replace hb365 := hb365.trans (if_pos c374)
            refine pm_lload hC 5 dX10_partedBy_89 rfl ?_
            refine pm_ldc2 (v := 2) hC 5038 dX10_partedBy_91 (by decide +kernel) ?_
            refine pm_aload_n hC 0 (by decide) dX10_partedBy_94 rfl ?_
            obtain ⟨y375, e376⟩ : ∃ y, V351 73 14 = y := ⟨_, rfl⟩
            have b377 := hV353.get 73 14 (lo := (-9223372036854775808)) (hi := 9223372036854775807) (by decide) (by decide) rfl
            rw [e376] at b377
            replace hb365 := hb365.trans (pf_let_eq e376)
            refine pm_getf (v := y375) hC 73 fl_X10_53 rfl rfl (by decide) rfl e376 dX10_partedBy_95 ?_
            refine pm_lmul hC dX10_partedBy_98 ?_
            refine pm_wrL hC (fun y378 hw380 b379 => ?_)
            replace hb365 := hb365.trans (pf_let_eq hw380)
            have b379 := And.intro b379.1 b379.2
            refine pm_lload hC 4 dX10_partedBy_99 rfl ?_
            refine pm_lmul hC dX10_partedBy_101 ?_
            refine pm_wrL hC (fun y381 hw383 b382 => ?_)
            replace hb365 := hb365.trans (pf_let_eq hw383)
            have b382 := And.intro b382.1 b382.2
            refine pm_callSN (as := [(1, x359), (1, y381)]) (st := []) hC (fD_X11_ofThousand x359 y381 ⟨by exact ow_79i_5 b360, by exact ow_79i_6 b360⟩ ⟨by exact ow_79i_5 b382, by exact ow_79i_6 b382⟩) lm_X10_141 ls_X11_ofThousand (by decide) (by decide) rfl rfl (Nat.le_of_ble_eq_true rfl) ⟨Nat.le_refl _, Or.inl rfl⟩ dX10_partedBy_102 ⟨rfl, hV353⟩ (fun r384 V385 hp386 => ?_)
            obtain ⟨y387, rfl, b388, rfl, hE389⟩ := hp386
            replace hb365 := hb365.trans (pf_call_eq hE389)
            change pm_J X 105 [(0, (3, 73)), (1, (0, a1)), (2, (0, a2)), (3, (3, 77)), (4, (1, y347)), (6, (1, x359)), (8, (0, x361))] [(0, y387)] 118 V351
            replace hT := hT.trans (pf_val_inr hb365)
            exact pm_iret hC hR pm_nar0 ⟨y387, rfl, ⟨by exact ow_79i_0 b388, by exact ow_79i_1 b388⟩, hV353, hF356, hT⟩ dX10_partedBy_105
          · skip
            replace hb365 := hb365.trans (if_neg (Int.not_le.mpr c374))
            refine pm_lload hC 5 dX10_partedBy_52 rfl ?_
            refine pm_aload_n hC 0 (by decide) dX10_partedBy_54 rfl ?_
            refine pm_getf (v := 77) hC 73 fl_X10_50 rfl rfl (by decide) rfl e357 dX10_partedBy_55 ?_
            refine pm_iload hC 6 dX10_partedBy_58 rfl ?_
            obtain ⟨y390, e391⟩ : ∃ y, V351 77 (x361 : Int).toNat = y := ⟨_, rfl⟩
            replace hb365 := hb365.trans (pf_let_eq e391)
            have b392 := hV353.get 77 (x361 : Int).toNat (lo := (-9223372036854775808)) (hi := 9223372036854775807) (by decide) (show _ < 9 by exact ow_79i_7 b373 c374) rfl
            rw [e391] at b392
            refine pm_laload (len := 9) (v := y390) hC 77 rfl rfl (by decide) ⟨by exact ow_79i_8 b362, by exact ow_79i_9 b373 c374⟩ (by decide) e391 dX10_partedBy_60 ?_
            refine pm_lload hC 4 dX10_partedBy_61 rfl ?_
            refine pm_lmul hC dX10_partedBy_63 ?_
            refine pm_wrL hC (fun y393 hw395 b394 => ?_)
            replace hb365 := hb365.trans (pf_let_eq hw395)
            have b394 := And.intro b394.1 b394.2
            refine pm_aload_n hC 0 (by decide) dX10_partedBy_64 rfl ?_
            refine pm_getf (v := 77) hC 73 fl_X10_56 rfl rfl (by decide) rfl e358 dX10_partedBy_65 ?_
            refine pm_iload hC 6 dX10_partedBy_68 rfl ?_
            refine pm_laload (len := 9) (v := y390) hC 77 rfl rfl (by decide) ⟨by exact ow_79i_8 b362, by exact ow_79i_9 b373 c374⟩ (by decide) e391 dX10_partedBy_70 ?_
            refine pm_aload_n hC 0 (by decide) dX10_partedBy_71 rfl ?_
            obtain ⟨y396, e397⟩ : ∃ y, V351 73 14 = y := ⟨_, rfl⟩
            have b398 := hV353.get 73 14 (lo := (-9223372036854775808)) (hi := 9223372036854775807) (by decide) (by decide) rfl
            rw [e397] at b398
            replace hb365 := hb365.trans (pf_let_eq e397)
            refine pm_getf (v := y396) hC 73 fl_X10_53 rfl rfl (by decide) rfl e397 dX10_partedBy_72 ?_
            refine pm_lmul hC dX10_partedBy_75 ?_
            refine pm_wrL hC (fun y399 hw401 b400 => ?_)
            replace hb365 := hb365.trans (pf_let_eq hw401)
            have b400 := And.intro b400.1 b400.2
            refine pm_lsub hC dX10_partedBy_76 ?_
            refine pm_wrL hC (fun y402 hw404 b403 => ?_)
            replace hb365 := hb365.trans (pf_let_eq hw404)
            have b403 := And.intro b403.1 b403.2
            refine pm_mabsLT hC 5035 5036 1018 5037 ⟨by exact ow_79i_5 b403, by exact ow_79i_6 b403⟩ (by decide) wL_X10_151 wS_mabsL wI_math wC_mabsL (Nat.le_of_ble_eq_true rfl) dX10_partedBy_77 (fun y405 he407 b406 => ?_)
            have b406 := And.intro b406.1.1 (And.intro b406.1.2 b406.2)
            replace hb365 := hb365.trans (pf_let_eq he407)
            refine pm_ladd hC dX10_partedBy_80 ?_
            refine pm_wrL hC (fun y408 hw410 b409 => ?_)
            replace hb365 := hb365.trans (pf_let_eq hw410)
            have b409 := And.intro b409.1 b409.2
            refine pm_lstore (lv' := [(6, (1, y408)), (0, (3, 73)), (1, (0, a1)), (2, (0, a2)), (3, (3, 77)), (4, (1, y347)), (8, (0, x361))]) hC dX10_partedBy_81 (by decide) rfl ?_
            obtain ⟨x411, ei412⟩ : ∃ y : Int, x361 + 1 = y := ⟨_, rfl⟩
            replace hb365 := hb365.trans (pf_let_eq ei412)
            refine pm_iinc (y := x411) (lv' := [(8, (0, x411)), (6, (1, y408)), (0, (3, 73)), (1, (0, a1)), (2, (0, a2)), (3, (3, 77)), (4, (1, y347))]) hC 6 dX10_partedBy_83 (by decide) rfl ei412 rfl ?_
            refine pm_goto (tgt := 40) hC dX10_partedBy_86 (by decide) ?_
            refine pm_lvsub [2, 3, 4, 5, 6, 1, 0] (lv' := [(0, (3, 73)), (1, (0, a1)), (2, (0, a2)), (3, (3, 77)), (4, (1, y347)), (6, (1, y408)), (8, (0, x411))]) rfl ?_
            exact ih369 _ (by exact ow_79i_10 hm367 b373 c374 ei412) y408 x411 ⟨by exact ow_79i_5 b409, by exact ow_79i_6 b409⟩ ⟨by exact ow_79i_11 b362 ei412, by exact ow_79i_12 b373 c374 ei412⟩ (hT.trans (pf_val_inl hb365)) rfl
        · skip
          replace hb365 := hb365.trans (if_neg (by rw [e370]; decide))
          refine pm_getf (v := 51) hC 73 fl_X10_59 rfl rfl (by decide) rfl e370 dX10_partedBy_43 ?_
          obtain ⟨y413, e414⟩ : ∃ y, V351 51 0 = y := ⟨_, rfl⟩
          have b415 := hV353.get 51 0 (lo := 0) (hi := 9) (by decide) (by decide) rfl
          rw [e414] at b415
          replace hb365 := hb365.trans (pf_let_eq e414)
          refine pm_getf (v := y413) hC 51 fl_X10_79 rfl rfl (by decide) rfl e414 dX10_partedBy_46 ?_
          refine pm_icmp_ge (tgt := 89) hC ⟨by exact ow_79i_3 b362, by exact ow_79i_4 b362⟩ ⟨by exact ow_79i_3 b415, by exact ow_79i_4 b415⟩ dX10_partedBy_49 (by decide) (fun c416 => ?_) (fun c416 => ?_)
          · skip
            replace hb365 := hb365.trans (if_pos c416)
            refine pm_lload hC 5 dX10_partedBy_89 rfl ?_
            refine pm_ldc2 (v := 2) hC 5038 dX10_partedBy_91 (by decide +kernel) ?_
            refine pm_aload_n hC 0 (by decide) dX10_partedBy_94 rfl ?_
            obtain ⟨y417, e418⟩ : ∃ y, V351 73 14 = y := ⟨_, rfl⟩
            have b419 := hV353.get 73 14 (lo := (-9223372036854775808)) (hi := 9223372036854775807) (by decide) (by decide) rfl
            rw [e418] at b419
            replace hb365 := hb365.trans (pf_let_eq e418)
            refine pm_getf (v := y417) hC 73 fl_X10_53 rfl rfl (by decide) rfl e418 dX10_partedBy_95 ?_
            refine pm_lmul hC dX10_partedBy_98 ?_
            refine pm_wrL hC (fun y420 hw422 b421 => ?_)
            replace hb365 := hb365.trans (pf_let_eq hw422)
            have b421 := And.intro b421.1 b421.2
            refine pm_lload hC 4 dX10_partedBy_99 rfl ?_
            refine pm_lmul hC dX10_partedBy_101 ?_
            refine pm_wrL hC (fun y423 hw425 b424 => ?_)
            replace hb365 := hb365.trans (pf_let_eq hw425)
            have b424 := And.intro b424.1 b424.2
            refine pm_callSN (as := [(1, x359), (1, y423)]) (st := []) hC (fD_X11_ofThousand x359 y423 ⟨by exact ow_79i_5 b360, by exact ow_79i_6 b360⟩ ⟨by exact ow_79i_5 b424, by exact ow_79i_6 b424⟩) lm_X10_141 ls_X11_ofThousand (by decide) (by decide) rfl rfl (Nat.le_of_ble_eq_true rfl) ⟨Nat.le_refl _, Or.inl rfl⟩ dX10_partedBy_102 ⟨rfl, hV353⟩ (fun r426 V427 hp428 => ?_)
            obtain ⟨y429, rfl, b430, rfl, hE431⟩ := hp428
            replace hb365 := hb365.trans (pf_call_eq hE431)
            change pm_J X 105 [(0, (3, 73)), (1, (0, a1)), (2, (0, a2)), (3, (3, 77)), (4, (1, y347)), (6, (1, x359)), (8, (0, x361))] [(0, y429)] 118 V351
            replace hT := hT.trans (pf_val_inr hb365)
            exact pm_iret hC hR pm_nar0 ⟨y429, rfl, ⟨by exact ow_79i_0 b430, by exact ow_79i_1 b430⟩, hV353, hF356, hT⟩ dX10_partedBy_105
          · skip
            replace hb365 := hb365.trans (if_neg (Int.not_le.mpr c416))
            refine pm_lload hC 5 dX10_partedBy_52 rfl ?_
            refine pm_aload_n hC 0 (by decide) dX10_partedBy_54 rfl ?_
            refine pm_getf (v := 77) hC 73 fl_X10_50 rfl rfl (by decide) rfl e357 dX10_partedBy_55 ?_
            refine pm_iload hC 6 dX10_partedBy_58 rfl ?_
            obtain ⟨y432, e433⟩ : ∃ y, V351 77 (x361 : Int).toNat = y := ⟨_, rfl⟩
            replace hb365 := hb365.trans (pf_let_eq e433)
            have b434 := hV353.get 77 (x361 : Int).toNat (lo := (-9223372036854775808)) (hi := 9223372036854775807) (by decide) (show _ < 9 by exact ow_79i_7 b415 c416) rfl
            rw [e433] at b434
            refine pm_laload (len := 9) (v := y432) hC 77 rfl rfl (by decide) ⟨by exact ow_79i_8 b362, by exact ow_79i_9 b415 c416⟩ (by decide) e433 dX10_partedBy_60 ?_
            refine pm_lload hC 4 dX10_partedBy_61 rfl ?_
            refine pm_lmul hC dX10_partedBy_63 ?_
            refine pm_wrL hC (fun y435 hw437 b436 => ?_)
            replace hb365 := hb365.trans (pf_let_eq hw437)
            have b436 := And.intro b436.1 b436.2
            refine pm_aload_n hC 0 (by decide) dX10_partedBy_64 rfl ?_
            refine pm_getf (v := 77) hC 73 fl_X10_56 rfl rfl (by decide) rfl e358 dX10_partedBy_65 ?_
            refine pm_iload hC 6 dX10_partedBy_68 rfl ?_
            refine pm_laload (len := 9) (v := y432) hC 77 rfl rfl (by decide) ⟨by exact ow_79i_8 b362, by exact ow_79i_9 b415 c416⟩ (by decide) e433 dX10_partedBy_70 ?_
            refine pm_aload_n hC 0 (by decide) dX10_partedBy_71 rfl ?_
            obtain ⟨y438, e439⟩ : ∃ y, V351 73 14 = y := ⟨_, rfl⟩
            have b440 := hV353.get 73 14 (lo := (-9223372036854775808)) (hi := 9223372036854775807) (by decide) (by decide) rfl
            rw [e439] at b440
            replace hb365 := hb365.trans (pf_let_eq e439)
            refine pm_getf (v := y438) hC 73 fl_X10_53 rfl rfl (by decide) rfl e439 dX10_partedBy_72 ?_
            refine pm_lmul hC dX10_partedBy_75 ?_
            refine pm_wrL hC (fun y441 hw443 b442 => ?_)
            replace hb365 := hb365.trans (pf_let_eq hw443)
            have b442 := And.intro b442.1 b442.2
            refine pm_lsub hC dX10_partedBy_76 ?_
            refine pm_wrL hC (fun y444 hw446 b445 => ?_)
            replace hb365 := hb365.trans (pf_let_eq hw446)
            have b445 := And.intro b445.1 b445.2
            refine pm_mabsLT hC 5035 5036 1018 5037 ⟨by exact ow_79i_5 b445, by exact ow_79i_6 b445⟩ (by decide) wL_X10_151 wS_mabsL wI_math wC_mabsL (Nat.le_of_ble_eq_true rfl) dX10_partedBy_77 (fun y447 he449 b448 => ?_)
            have b448 := And.intro b448.1.1 (And.intro b448.1.2 b448.2)
            replace hb365 := hb365.trans (pf_let_eq he449)
            refine pm_ladd hC dX10_partedBy_80 ?_
            refine pm_wrL hC (fun y450 hw452 b451 => ?_)
            replace hb365 := hb365.trans (pf_let_eq hw452)
            have b451 := And.intro b451.1 b451.2
            refine pm_lstore (lv' := [(6, (1, y450)), (0, (3, 73)), (1, (0, a1)), (2, (0, a2)), (3, (3, 77)), (4, (1, y347)), (8, (0, x361))]) hC dX10_partedBy_81 (by decide) rfl ?_
            obtain ⟨x453, ei454⟩ : ∃ y : Int, x361 + 1 = y := ⟨_, rfl⟩
            replace hb365 := hb365.trans (pf_let_eq ei454)
            refine pm_iinc (y := x453) (lv' := [(8, (0, x453)), (6, (1, y450)), (0, (3, 73)), (1, (0, a1)), (2, (0, a2)), (3, (3, 77)), (4, (1, y347))]) hC 6 dX10_partedBy_83 (by decide) rfl ei454 rfl ?_
            refine pm_goto (tgt := 40) hC dX10_partedBy_86 (by decide) ?_
            refine pm_lvsub [2, 3, 4, 5, 6, 1, 0] (lv' := [(0, (3, 73)), (1, (0, a1)), (2, (0, a2)), (3, (3, 77)), (4, (1, y347)), (6, (1, y450)), (8, (0, x453))]) rfl ?_
            exact ih369 _ (by exact ow_79i_10 hm367 b415 c416 ei454) y450 x453 ⟨by exact ow_79i_5 b451, by exact ow_79i_6 b451⟩ ⟨by exact ow_79i_11 b362 ei454, by exact ow_79i_12 b415 c416 ei454⟩ (hT.trans (pf_val_inl hb365)) rfl
      refine pm_lvsub [4, 5, 6, 3, 2, 1, 0] (lv' := [(0, (3, 73)), (1, (0, a1)), (2, (0, a2)), (3, (3, 77)), (4, (1, y347)), (6, (1, 0)), (8, (0, 0))]) rfl ?_
      exact L366 _ 0 0 ⟨by decide, by decide⟩ ⟨by decide, by decide⟩ hT rfl
set_option maxHeartbeats 4000000 in
set_option maxRecDepth 100000 in
theorem fD_X11_parted_0 (a1 a2 a3 a4 : Int) (h0 : (-2147483648) ≤ a1 ∧ a1 ≤ 2147483647) (h1 : (-2147483648) ≤ a2 ∧ a2 ≤ 2147483647) (h2 : (-2147483648) ≤ a3 ∧ a3 ≤ 2147483647) (h3 : (-2147483648) ≤ a4 ∧ a4 ≤ 2147483647) : pm_K 6 yX11_parted cX11_parted 5 (some .int) (fun av V => av = [(3, 0), (0, a1), (0, a2), (0, a3), (0, a4)] ∧ pm_ok 0 90 V) (fun _ V r V' => ∃ y, r = some (0, y) ∧ ((-2147483648) ≤ y ∧ y ≤ 2147483647) ∧ pm_ok 0 90 V' ∧ pm_ff [74, 75, 76, 77] [(73, 0), (73, 1), (73, 2), (73, 3), (73, 4), (73, 5), (73, 6), (73, 7), (73, 10), (73, 11), (73, 12), (73, 13), (73, 14), (73, 15)] V V' ∧ F_X11_parted a1 a2 a3 a4 V = (y, V')) := by
  refine pm_MT.of (by decide) ⟨Nat.le_refl _, by decide⟩ (fun av V h => by rw [h.1]; exact (by decide : pm_words [(3, 0), (0, 0), (0, 0), (0, 0), (0, 0)] ≤ 5)) ?_
  rintro X av V0 hC - hR ⟨rfl, hV0⟩
  change pm_J X 0 [(0, (3, 0)), (1, (0, a1)), (2, (0, a2)), (3, (0, a3)), (4, (0, a4))] [] 118 V0
  have hT := F_X11_parted_eq a1 a2 a3 a4 V0
  refine pm_iload_n hC 1 dX11_parted_0 rfl ?_
  refine pm_callS (as := [(0, a1)]) (st := []) hC (fD_X11_areLaws a1 ⟨by exact ow_79i_0 h0, by exact ow_79i_1 h0⟩) lm_X11_314 ls_X11_areLaws (by decide) (by decide) rfl rfl (Nat.le_of_ble_eq_true rfl) ⟨Nat.le_refl _, Or.inl rfl⟩ dX11_parted_1 ⟨rfl, hV0⟩ (fun r1 V2 hp3 => ?_)
  obtain ⟨y4, rfl, b5, rfl, hE6⟩ := hp3
  replace hT := hT.trans (pf_call_eq hE6)
  change pm_J X 4 [(0, (3, 0)), (1, (0, a1)), (2, (0, a2)), (3, (0, a3)), (4, (0, a4))] [(0, y4)] 118 V0
  refine pm_if_eq (tgt := 18) hC ⟨by exact ow_79i_14 b5, by exact ow_79i_15 b5⟩ dX11_parted_4 (by decide) (fun c7 => ?_) (fun c7 => ?_)
  · skip
    replace hT := hT.trans (if_pos c7)
    refine pm_iconst (v := (-1)) hC dX11_parted_18 ?_
    exact pm_iret hC hR pm_nar0 ⟨(-1), rfl, ⟨by exact ow_79i_16, by exact ow_79i_17⟩, hV0, (pm_ff.rf (cs := [74, 75, 76, 77]) (fs := [(73, 0), (73, 1), (73, 2), (73, 3), (73, 4), (73, 5), (73, 6), (73, 7), (73, 10), (73, 11), (73, 12), (73, 13), (73, 14), (73, 15)]) (V := V0)), hT⟩ dX11_parted_19
  · skip
    replace hT := hT.trans (if_neg c7)
    refine pm_aload_n hC 0 (by decide) dX11_parted_7 rfl ?_
    refine pm_iload_n hC 2 dX11_parted_8 rfl ?_
    refine pm_iload_n hC 3 dX11_parted_9 rfl ?_
    refine pm_iload hC 4 dX11_parted_10 rfl ?_
    refine pm_callV (ci := 11) (as := [(0, a2), (0, a3), (0, a4)]) (st := []) hC 0 (fD_X11_isTrial_0 a2 a3 a4 ⟨by exact ow_79i_0 h1, by exact ow_79i_1 h1⟩ ⟨by exact ow_79i_0 h2, by exact ow_79i_1 h2⟩ ⟨by exact ow_79i_0 h3, by exact ow_79i_1 h3⟩) lm_X11_225 li_X11_isTrial (by decide) (by decide) rfl rfl rfl (by decide) rfl rfl (Nat.le_of_ble_eq_true rfl) ⟨Nat.le_refl _, Or.inl rfl⟩ dX11_parted_12 ⟨rfl, hV0⟩ (fun r8 V9 hp10 => ?_)
    obtain ⟨y11, rfl, b12, rfl, hE13⟩ := hp10
    replace hT := hT.trans (pf_call_eq hE13)
    change pm_J X 15 [(0, (3, 0)), (1, (0, a1)), (2, (0, a2)), (3, (0, a3)), (4, (0, a4))] [(0, y11)] 118 V0
    refine pm_if_ne (tgt := 20) hC ⟨by exact ow_79i_18 b12, by exact ow_79i_19 b12⟩ dX11_parted_15 (by decide) (fun c14 => ?_) (fun c14 => ?_)
    · skip
      replace hT := hT.trans (if_pos c14)
      refine pm_aload_n hC 0 (by decide) dX11_parted_20 rfl ?_
      refine pm_iload_n hC 2 dX11_parted_21 rfl ?_
      refine pm_iload_n hC 3 dX11_parted_22 rfl ?_
      refine pm_iload hC 4 dX11_parted_23 rfl ?_
      refine pm_callV (ci := 11) (as := [(0, a2), (0, a3), (0, a4)]) (st := []) hC 0 (fD_X11_pose_0 a2 a3 a4 ⟨by exact ow_79i_20 b12 c14, by exact ow_79i_21 b12 c14⟩ ⟨by exact ow_79i_22 b12 c14, by exact ow_79i_23 b12 c14⟩ ⟨by exact ow_79i_24 b12 c14, by exact ow_79i_25 b12 c14⟩ (by exact ow_79i_26 b12 c14)) lm_X11_229 li_X11_pose (by decide) (by decide) rfl rfl rfl (by decide) rfl rfl (Nat.le_of_ble_eq_true rfl) ⟨Nat.le_refl _, Or.inl rfl⟩ dX11_parted_25 ⟨rfl, hV0⟩ (fun r15 V16 hp17 => ?_)
      obtain ⟨rfl, hV18, hF19, hE20⟩ := hp17
      replace hT := hT.trans (pf_call_eq hE20)
      change pm_J X 28 [(0, (3, 0)), (1, (0, a1)), (2, (0, a2)), (3, (0, a3)), (4, (0, a4))] [] 118 V16
      have hF21 := pm_ff.tr (pm_ff.rf (cs := [74, 75, 76, 77]) (fs := [(73, 0), (73, 1), (73, 2), (73, 3), (73, 4), (73, 5), (73, 6), (73, 7), (73, 10), (73, 11), (73, 12), (73, 13), (73, 14), (73, 15)]) (V := V0)) hF19 (by decide) (by decide)
      refine pm_aload_n hC 0 (by decide) dX11_parted_28 rfl ?_
      have e22 : V16 0 5 = 73 := hV18.one 0 5 (by decide) (by decide) rfl
      refine pm_getf (v := 73) hC 0 fl_X11_75 rfl rfl (by decide) rfl e22 dX11_parted_29 ?_
      refine pm_iload_n hC 1 dX11_parted_32 rfl ?_
      refine pm_bipush (v := 10) hC dX11_parted_33 (by decide) ?_
      refine pm_idiv hC ⟨by exact ow_79i_27 b5 c7, by exact ow_79i_0 h0, by exact ow_79i_1 h0⟩ ⟨by decide, by decide, by decide⟩ dX11_parted_35 ?_
      refine pm_iload_n hC 1 dX11_parted_36 rfl ?_
      refine pm_bipush (v := 10) hC dX11_parted_37 (by decide) ?_
      refine pm_irem hC ⟨by exact ow_79i_27 b5 c7, by exact ow_79i_0 h0, by exact ow_79i_1 h0⟩ ⟨by decide, by decide, by decide⟩ dX11_parted_39 ?_
      refine pm_callV (ci := 10) (as := [(0, (a1 / 10)), (0, (a1 % 10))]) (st := []) hC 73 (fD_X10_partedBy_73 (a1 / 10) (a1 % 10) ⟨by exact ow_79i_28 h0, by exact ow_79i_29 h0⟩ ⟨by exact ow_79i_30, by exact ow_79i_31⟩) lm_X11_317 li_X10_partedBy (by decide) (by decide) rfl rfl rfl (by decide) rfl rfl (Nat.le_of_ble_eq_true rfl) ⟨Nat.le_refl _, Or.inl rfl⟩ dX11_parted_40 ⟨rfl, hV18⟩ (fun r23 V24 hp25 => ?_)
      obtain ⟨y26, rfl, b27, hV28, hF29, hE30⟩ := hp25
      replace hT := hT.trans (pf_call_eq hE30)
      change pm_J X 43 [(0, (3, 0)), (1, (0, a1)), (2, (0, a2)), (3, (0, a3)), (4, (0, a4))] [(0, y26)] 118 V24
      have hF31 := pm_ff.tr hF21 hF29 (by decide) (by decide)
      have e32 : V24 0 5 = 73 := by rw [hF29 0 5 (by decide) (by decide)]; exact e22
      exact pm_iret hC hR pm_nar0 ⟨y26, rfl, ⟨by exact ow_79i_0 b27, by exact ow_79i_1 b27⟩, hV28, hF31, hT⟩ dX11_parted_43
    · skip
      replace hT := hT.trans (if_neg (fun q => q c14))
      refine pm_iconst (v := (-1)) hC dX11_parted_18 ?_
      exact pm_iret hC hR pm_nar0 ⟨(-1), rfl, ⟨by exact ow_79i_16, by exact ow_79i_17⟩, hV0, (pm_ff.rf (cs := [74, 75, 76, 77]) (fs := [(73, 0), (73, 1), (73, 2), (73, 3), (73, 4), (73, 5), (73, 6), (73, 7), (73, 10), (73, 11), (73, 12), (73, 13), (73, 14), (73, 15)]) (V := V0)), hT⟩ dX11_parted_19
set_option maxHeartbeats 4000000 in
set_option maxRecDepth 100000 in
theorem fD_X11_next_0 (a1 a2 a3 a4 : Int) (h0 : (-2147483648) ≤ a1 ∧ a1 ≤ 2147483647) (h1 : (-2147483648) ≤ a2 ∧ a2 ≤ 2147483647) (h2 : (-2147483648) ≤ a3 ∧ a3 ≤ 2147483647) (h3 : (-2147483648) ≤ a4 ∧ a4 ≤ 2147483647) : pm_K 6 yX11_next cX11_next 12 (some .int) (fun av V => av = [(3, 0), (0, a1), (0, a2), (0, a3), (0, a4)] ∧ pm_ok 0 90 V) (fun _ V r V' => ∃ y, r = some (0, y) ∧ ((-1) ≤ y ∧ y ≤ 2147483647) ∧ pm_ok 0 90 V' ∧ pm_ff [74, 75, 76, 77] [(73, 0), (73, 1), (73, 2), (73, 3), (73, 4), (73, 5), (73, 6), (73, 7), (73, 10), (73, 11), (73, 12), (73, 13), (73, 14), (73, 15)] V V' ∧ F_X11_next a1 a2 a3 a4 V = (y, V')) := by
  refine pm_MT.of (by decide) ⟨Nat.le_refl _, by decide⟩ (fun av V h => by rw [h.1]; exact (by decide : pm_words [(3, 0), (0, 0), (0, 0), (0, 0), (0, 0)] ≤ 12)) ?_
  rintro X av V0 hC - hR ⟨rfl, hV0⟩
  change pm_J X 0 [(0, (3, 0)), (1, (0, a1)), (2, (0, a2)), (3, (0, a3)), (4, (0, a4))] [] 118 V0
  have hT := F_X11_next_eq a1 a2 a3 a4 V0
  refine pm_iload_n hC 1 dX11_next_0 rfl ?_
  refine pm_callS (as := [(0, a1)]) (st := []) hC (fD_X11_areLaws a1 ⟨by exact ow_79i_0 h0, by exact ow_79i_1 h0⟩) lm_X11_314 ls_X11_areLaws (by decide) (by decide) rfl rfl (Nat.le_of_ble_eq_true rfl) ⟨Nat.le_refl _, Or.inl rfl⟩ dX11_next_1 ⟨rfl, hV0⟩ (fun r1 V2 hp3 => ?_)
  obtain ⟨y4, rfl, b5, rfl, hE6⟩ := hp3
  replace hT := hT.trans (pf_call_eq hE6)
  change pm_J X 4 [(0, (3, 0)), (1, (0, a1)), (2, (0, a2)), (3, (0, a3)), (4, (0, a4))] [(0, y4)] 118 V0
  refine pm_if_eq (tgt := 32) hC ⟨by exact ow_79i_14 b5, by exact ow_79i_15 b5⟩ dX11_next_4 (by decide) (fun c7 => ?_) (fun c7 => ?_)
  · skip
    replace hT := hT.trans (if_pos c7)
    refine pm_iconst (v := 0) hC dX11_next_32 ?_
    refine pm_istore (lv' := [(5, (0, 0)), (0, (3, 0)), (1, (0, a1)), (2, (0, a2)), (3, (0, a3)), (4, (0, a4))]) hC dX11_next_33 (by decide) rfl ?_
    refine pm_iload hC 0 dX11_next_35 rfl ?_
    refine pm_if_eq (tgt := 48) hC ⟨by decide, by decide⟩ dX11_next_37 (by decide) (fun c8 => ?_) (fun c8 => ?_)
    · skip
      refine pm_iconst (v := (-1)) hC dX11_next_48 ?_
      exact pm_iret hC hR pm_nar0 ⟨(-1), rfl, ⟨by exact ow_79i_32, by exact ow_79i_17⟩, hV0, (pm_ff.rf (cs := [74, 75, 76, 77]) (fs := [(73, 0), (73, 1), (73, 2), (73, 3), (73, 4), (73, 5), (73, 6), (73, 7), (73, 10), (73, 11), (73, 12), (73, 13), (73, 14), (73, 15)]) (V := V0)), hT⟩ dX11_next_49
    · skip
      exfalso; exact ow_79i_33 c8
  · skip
    replace hT := hT.trans (if_neg c7)
    refine pm_iload_n hC 3 dX11_next_7 rfl ?_
    refine pm_if_lt (tgt := 32) hC ⟨by exact ow_79i_0 h2, by exact ow_79i_1 h2⟩ dX11_next_8 (by decide) (fun c9 => ?_) (fun c9 => ?_)
    · skip
      replace hT := hT.trans (if_pos c9)
      refine pm_iconst (v := 0) hC dX11_next_32 ?_
      refine pm_istore (lv' := [(5, (0, 0)), (0, (3, 0)), (1, (0, a1)), (2, (0, a2)), (3, (0, a3)), (4, (0, a4))]) hC dX11_next_33 (by decide) rfl ?_
      refine pm_iload hC 0 dX11_next_35 rfl ?_
      refine pm_if_eq (tgt := 48) hC ⟨by decide, by decide⟩ dX11_next_37 (by decide) (fun c10 => ?_) (fun c10 => ?_)
      · skip
        refine pm_iconst (v := (-1)) hC dX11_next_48 ?_
        exact pm_iret hC hR pm_nar0 ⟨(-1), rfl, ⟨by exact ow_79i_32, by exact ow_79i_17⟩, hV0, (pm_ff.rf (cs := [74, 75, 76, 77]) (fs := [(73, 0), (73, 1), (73, 2), (73, 3), (73, 4), (73, 5), (73, 6), (73, 7), (73, 10), (73, 11), (73, 12), (73, 13), (73, 14), (73, 15)]) (V := V0)), hT⟩ dX11_next_49
      · skip
        exfalso; exact ow_79i_33 c10
    · skip
      replace hT := hT.trans (if_neg (Int.not_lt.mpr c9))
      refine pm_iload_n hC 3 dX11_next_11 rfl ?_
      refine pm_bipush (v := 10) hC dX11_next_12 (by decide) ?_
      refine pm_icmp_ge (tgt := 32) hC ⟨by exact ow_79i_34 c9, by exact ow_79i_1 h2⟩ ⟨by decide, by decide⟩ dX11_next_14 (by decide) (fun c11 => ?_) (fun c11 => ?_)
      · skip
        replace hT := hT.trans (if_pos c11)
        refine pm_iconst (v := 0) hC dX11_next_32 ?_
        refine pm_istore (lv' := [(5, (0, 0)), (0, (3, 0)), (1, (0, a1)), (2, (0, a2)), (3, (0, a3)), (4, (0, a4))]) hC dX11_next_33 (by decide) rfl ?_
        refine pm_iload hC 0 dX11_next_35 rfl ?_
        refine pm_if_eq (tgt := 48) hC ⟨by decide, by decide⟩ dX11_next_37 (by decide) (fun c12 => ?_) (fun c12 => ?_)
        · skip
          refine pm_iconst (v := (-1)) hC dX11_next_48 ?_
          exact pm_iret hC hR pm_nar0 ⟨(-1), rfl, ⟨by exact ow_79i_32, by exact ow_79i_17⟩, hV0, (pm_ff.rf (cs := [74, 75, 76, 77]) (fs := [(73, 0), (73, 1), (73, 2), (73, 3), (73, 4), (73, 5), (73, 6), (73, 7), (73, 10), (73, 11), (73, 12), (73, 13), (73, 14), (73, 15)]) (V := V0)), hT⟩ dX11_next_49
        · skip
          exfalso; exact ow_79i_33 c12
      · skip
        replace hT := hT.trans (if_neg (Int.not_le.mpr c11))
        refine pm_iload hC 4 dX11_next_17 rfl ?_
        refine pm_if_eq (tgt := 28) hC ⟨by exact ow_79i_0 h3, by exact ow_79i_1 h3⟩ dX11_next_19 (by decide) (fun c13 => ?_) (fun c13 => ?_)
        · skip
          replace hT := hT.trans (if_pos c13)
          refine pm_iconst (v := 1) hC dX11_next_28 ?_
          refine pm_goto (tgt := 33) hC dX11_next_29 (by decide) ?_
          refine pm_istore (lv' := [(5, (0, 1)), (0, (3, 0)), (1, (0, a1)), (2, (0, a2)), (3, (0, a3)), (4, (0, a4))]) hC dX11_next_33 (by decide) rfl ?_
          refine pm_iload hC 0 dX11_next_35 rfl ?_
          refine pm_if_eq (tgt := 48) hC ⟨by decide, by decide⟩ dX11_next_37 (by decide) (fun c14 => ?_) (fun c14 => ?_)
          · skip
            exfalso; exact ow_79i_35 c14
          · skip
            refine pm_aload_n hC 1 (by decide) dX11_next_40 rfl ?_
            refine pm_iload_n hC 3 dX11_next_41 rfl ?_
            refine pm_callV (ci := 11) (as := [(0, a2)]) (st := []) hC 0 (fD_X11_isPerson_0 a2 ⟨by exact ow_79i_0 h1, by exact ow_79i_1 h1⟩) lm_X11_183 li_X11_isPerson (by decide) (by decide) rfl rfl rfl (by decide) rfl rfl (Nat.le_of_ble_eq_true rfl) ⟨Nat.le_refl _, Or.inl rfl⟩ dX11_next_42 ⟨rfl, hV0⟩ (fun r15 V16 hp17 => ?_)
            obtain ⟨y18, rfl, b19, rfl, hE20⟩ := hp17
            replace hT := hT.trans (pf_call_eq hE20)
            change pm_J X 45 [(5, (0, 1)), (0, (3, 0)), (1, (0, a1)), (2, (0, a2)), (3, (0, a3)), (4, (0, a4))] [(0, y18)] 118 V0
            refine pm_if_ne (tgt := 50) hC ⟨by exact ow_79i_36 b19, by exact ow_79i_37 b19⟩ dX11_next_45 (by decide) (fun c21 => ?_) (fun c21 => ?_)
            · skip
              replace hT := hT.trans (if_pos c21)
              refine pm_iconst (v := (-1)) hC dX11_next_50 ?_
              refine pm_istore (lv' := [(6, (0, (-1))), (5, (0, 1)), (0, (3, 0)), (1, (0, a1)), (2, (0, a2)), (3, (0, a3)), (4, (0, a4))]) hC dX11_next_51 (by decide) rfl ?_
              refine pm_iconst (v := (-1)) hC dX11_next_53 ?_
              refine pm_istore (lv' := [(7, (0, (-1))), (6, (0, (-1))), (5, (0, 1)), (0, (3, 0)), (1, (0, a1)), (2, (0, a2)), (3, (0, a3)), (4, (0, a4))]) hC dX11_next_54 (by decide) rfl ?_
              refine pm_iconst (v := 0) hC dX11_next_56 ?_
              refine pm_istore (lv' := [(8, (0, 0)), (7, (0, (-1))), (6, (0, (-1))), (5, (0, 1)), (0, (3, 0)), (1, (0, a1)), (2, (0, a2)), (3, (0, a3)), (4, (0, a4))]) hC dX11_next_57 (by decide) rfl ?_
              obtain ⟨B31, hB32, hT⟩ := pf_loop hT
              have L34 : ∀ (N36 : Nat) (x22 : Int) (x24 : Int) (x26 : Int) (V28 : pm_M), ((-1) ≤ x22 ∧ x22 ≤ 2147483647) → ((-1) ≤ x24 ∧ x24 ≤ 1000) → (0 ≤ x26 ∧ x26 ≤ 9) → pm_ok 0 90 V28 → pm_ff [74, 75, 76, 77] [(73, 0), (73, 1), (73, 2), (73, 3), (73, 4), (73, 5), (73, 6), (73, 7), (73, 10), (73, 11), (73, 12), (73, 13), (73, 14), (73, 15)] V0 V28 → F_X11_next a1 a2 a3 a4 V0 = pf_val ((0 : Int), V0) B31 (x22, x24, x26, V28) → (Int.toNat (9 - x26)) = N36 → pm_J X 59 [(0, (3, 0)), (1, (0, a1)), (2, (0, a2)), (3, (0, a3)), (4, (0, a4)), (5, (0, 1)), (6, (0, x22)), (7, (0, x24)), (8, (0, x26))] [] 118 V28 := by
                intro N36
                induction N36 using Nat.strongRecOn with
                | _ N36 ih37 =>
                intro x22 x24 x26 V28 b23 b25 b27 hV29 hF30 hT hm35
                have hb33 := congrFun hB32 (x22, x24, x26, V28)
                refine pm_iload hC 8 dX11_next_59 rfl ?_
                refine pm_aload_n hC 0 (by decide) dX11_next_61 rfl ?_
                rcases hV29.get2 0 8 (lo := 45) (hi := 51) (by decide) (by decide) rfl with e38 | e38
                · skip
                  replace hb33 := hb33.trans (if_pos e38)
                  refine pm_getf (v := 45) hC 0 fl_X11_35 rfl rfl (by decide) rfl e38 dX11_next_62 ?_
                  obtain ⟨y39, e40⟩ : ∃ y, V28 45 0 = y := ⟨_, rfl⟩
                  have b41 := hV29.get 45 0 (lo := 0) (hi := 9) (by decide) (by decide) rfl
                  rw [e40] at b41
                  replace hb33 := hb33.trans (pf_let_eq e40)
                  refine pm_getf (v := y39) hC 45 fl_X11_136 rfl rfl (by decide) rfl e40 dX11_next_65 ?_
                  refine pm_icmp_ge (tgt := 183) hC ⟨by exact ow_79i_3 b27, by exact ow_79i_4 b27⟩ ⟨by exact ow_79i_3 b41, by exact ow_79i_4 b41⟩ dX11_next_68 (by decide) (fun c42 => ?_) (fun c42 => ?_)
                  · skip
                    replace hb33 := hb33.trans (if_pos c42)
                    refine pm_iload hC 4 dX11_next_183 rfl ?_
                    refine pm_if_ne (tgt := 193) hC ⟨by exact ow_79i_38 c13, by exact ow_79i_39 c13⟩ dX11_next_185 (by decide) (fun c43 => ?_) (fun c43 => ?_)
                    · skip
                      replace hb33 := hb33.trans (if_pos c43)
                      exfalso; exact ow_79i_40 c13 c43
                    · skip
                      replace hb33 := hb33.trans (if_neg (fun q => q c43))
                      refine pm_iload hC 7 dX11_next_188 rfl ?_
                      refine pm_goto (tgt := 195) hC dX11_next_190 (by decide) ?_
                      replace hT := hT.trans (pf_val_inr hb33)
                      exact pm_iret hC hR pm_nar0 ⟨x24, rfl, ⟨by exact ow_79i_41 b25, by exact ow_79i_42 b25⟩, hV29, hF30, hT⟩ dX11_next_195
                  · skip
                    replace hb33 := hb33.trans (if_neg (Int.not_le.mpr c42))
                    refine pm_iconst (v := 0) hC dX11_next_71 ?_
                    refine pm_istore (lv' := [(9, (0, 0)), (0, (3, 0)), (1, (0, a1)), (2, (0, a2)), (3, (0, a3)), (4, (0, a4)), (5, (0, 1)), (6, (0, x22)), (7, (0, x24)), (8, (0, x26))]) hC dX11_next_72 (by decide) rfl ?_
                    obtain ⟨B55, hB56, hb33⟩ := pf_loop hb33
                    have L58 : ∀ (N60 : Nat) (x44 : Int) (x46 : Int) (x48 : Int) (V50 : pm_M), ((-1) ≤ x44 ∧ x44 ≤ 2147483647) → ((-1) ≤ x46 ∧ x46 ≤ 1000) → (0 ≤ x48 ∧ x48 ≤ 9) → pm_ok 0 90 V50 → pm_ff [74, 75, 76, 77] [(73, 0), (73, 1), (73, 2), (73, 3), (73, 4), (73, 5), (73, 6), (73, 7), (73, 10), (73, 11), (73, 12), (73, 13), (73, 14), (73, 15)] V0 V50 → V50 0 8 = 45 → V50 45 0 = y39 → B31 (x22, x24, x26, V28) = pf_val (.inr ((0 : Int), V0)) B55 (x44, x46, x48, V50) → (Int.toNat (9 - x48)) = N60 → pm_J X 74 [(0, (3, 0)), (1, (0, a1)), (2, (0, a2)), (3, (0, a3)), (4, (0, a4)), (5, (0, 1)), (6, (0, x44)), (7, (0, x46)), (8, (0, x26)), (9, (0, x48))] [] 118 V50 := by
                      intro N60
                      induction N60 using Nat.strongRecOn with
                      | _ N60 ih61 =>
                      intro x44 x46 x48 V50 b45 b47 b49 hV51 hF52 e53 e54 hb33 hm59
                      have hb57 := congrFun hB56 (x44, x46, x48, V50)
                      refine pm_iload hC 9 dX11_next_74 rfl ?_
                      refine pm_aload_n hC 0 (by decide) dX11_next_76 rfl ?_
                      refine pm_getf (v := 45) hC 0 fl_X11_35 rfl rfl (by decide) rfl e53 dX11_next_77 ?_
                      refine pm_getf (v := y39) hC 45 fl_X11_136 rfl rfl (by decide) rfl e54 dX11_next_80 ?_
                      refine pm_icmp_ge (tgt := 177) hC ⟨by exact ow_79i_3 b49, by exact ow_79i_4 b49⟩ ⟨by exact ow_79i_3 b41, by exact ow_79i_4 b41⟩ dX11_next_83 (by decide) (fun c62 => ?_) (fun c62 => ?_)
                      · skip
                        replace hb57 := hb57.trans (if_pos c62)
                        obtain ⟨x63, ei64⟩ : ∃ y : Int, x26 + 1 = y := ⟨_, rfl⟩
                        replace hb57 := hb57.trans (pf_let_eq ei64)
                        refine pm_iinc (y := x63) (lv' := [(8, (0, x63)), (0, (3, 0)), (1, (0, a1)), (2, (0, a2)), (3, (0, a3)), (4, (0, a4)), (5, (0, 1)), (6, (0, x44)), (7, (0, x46)), (9, (0, x48))]) hC 8 dX11_next_177 (by decide) rfl ei64 rfl ?_
                        refine pm_goto (tgt := 59) hC dX11_next_180 (by decide) ?_
                        replace hb33 := hb33.trans (pf_val_inr hb57)
                        refine pm_lvsub [1, 2, 3, 4, 5, 6, 7, 8, 0] (lv' := [(0, (3, 0)), (1, (0, a1)), (2, (0, a2)), (3, (0, a3)), (4, (0, a4)), (5, (0, 1)), (6, (0, x44)), (7, (0, x46)), (8, (0, x63))]) rfl ?_
                        exact ih37 _ (by exact ow_79i_10 hm35 b41 c42 ei64) x44 x46 x63 V50 ⟨by exact ow_79i_43 b45, by exact ow_79i_44 b45⟩ ⟨by exact ow_79i_41 b47, by exact ow_79i_45 b47⟩ ⟨by exact ow_79i_11 b27 ei64, by exact ow_79i_12 b41 c42 ei64⟩ hV51 hF52 (hT.trans (pf_val_inl hb33)) rfl
                      · skip
                        replace hb57 := hb57.trans (if_neg (Int.not_le.mpr c62))
                        refine pm_iconst (v := 0) hC dX11_next_86 ?_
                        refine pm_istore (lv' := [(10, (0, 0)), (0, (3, 0)), (1, (0, a1)), (2, (0, a2)), (3, (0, a3)), (4, (0, a4)), (5, (0, 1)), (6, (0, x44)), (7, (0, x46)), (8, (0, x26)), (9, (0, x48))]) hC dX11_next_87 (by decide) rfl ?_
                        obtain ⟨B76, hB77, hb57⟩ := pf_loop hb57
                        have L79 : ∀ (N81 : Nat) (x65 : Int) (x67 : Int) (x69 : Int) (V71 : pm_M), ((-1) ≤ x65 ∧ x65 ≤ 2147483647) → ((-1) ≤ x67 ∧ x67 ≤ 1000) → (0 ≤ x69 ∧ x69 ≤ 16) → pm_ok 0 90 V71 → pm_ff [74, 75, 76, 77] [(73, 0), (73, 1), (73, 2), (73, 3), (73, 4), (73, 5), (73, 6), (73, 7), (73, 10), (73, 11), (73, 12), (73, 13), (73, 14), (73, 15)] V0 V71 → V71 0 8 = 45 → V71 45 0 = y39 → B55 (x44, x46, x48, V50) = pf_val (.inr (.inr ((0 : Int), V0))) B76 (x65, x67, x69, V71) → (Int.toNat (16 - x69)) = N81 → pm_J X 89 [(0, (3, 0)), (1, (0, a1)), (2, (0, a2)), (3, (0, a3)), (4, (0, a4)), (5, (0, 1)), (6, (0, x65)), (7, (0, x67)), (8, (0, x26)), (9, (0, x48)), (10, (0, x69))] [] 118 V71 := by
                          intro N81
                          induction N81 using Nat.strongRecOn with
                          | _ N81 ih82 =>
                          intro x65 x67 x69 V71 b66 b68 b70 hV72 hF73 e74 e75 hb57 hm80
                          have hb78 := congrFun hB77 (x65, x67, x69, V71)
                          refine pm_iload hC 10 dX11_next_89 rfl ?_
                          refine pm_bipush (v := 10) hC dX11_next_91 (by decide) ?_
                          refine pm_icmp_ge (tgt := 171) hC ⟨by exact ow_79i_46 b70, by exact ow_79i_47 b70⟩ ⟨by decide, by decide⟩ dX11_next_93 (by decide) (fun c83 => ?_) (fun c83 => ?_)
                          · skip
                            replace hb78 := hb78.trans (if_pos c83)
                            obtain ⟨x84, ei85⟩ : ∃ y : Int, x48 + 1 = y := ⟨_, rfl⟩
                            replace hb78 := hb78.trans (pf_let_eq ei85)
                            refine pm_iinc (y := x84) (lv' := [(9, (0, x84)), (0, (3, 0)), (1, (0, a1)), (2, (0, a2)), (3, (0, a3)), (4, (0, a4)), (5, (0, 1)), (6, (0, x65)), (7, (0, x67)), (8, (0, x26)), (10, (0, x69))]) hC 9 dX11_next_171 (by decide) rfl ei85 rfl ?_
                            refine pm_goto (tgt := 74) hC dX11_next_174 (by decide) ?_
                            replace hb57 := hb57.trans (pf_val_inr hb78)
                            refine pm_lvsub [1, 2, 3, 4, 5, 6, 7, 8, 9, 0] (lv' := [(0, (3, 0)), (1, (0, a1)), (2, (0, a2)), (3, (0, a3)), (4, (0, a4)), (5, (0, 1)), (6, (0, x65)), (7, (0, x67)), (8, (0, x26)), (9, (0, x84))]) rfl ?_
                            exact ih61 _ (by exact ow_79i_48 b41 hm59 c62 ei85) x65 x67 x84 V71 ⟨by exact ow_79i_43 b66, by exact ow_79i_44 b66⟩ ⟨by exact ow_79i_41 b68, by exact ow_79i_45 b68⟩ ⟨by exact ow_79i_11 b49 ei85, by exact ow_79i_12 b41 c62 ei85⟩ hV72 hF73 e74 e75 (hb33.trans (pf_val_inl hb57)) rfl
                          · skip
                            replace hb78 := hb78.trans (if_neg (Int.not_le.mpr c83))
                            refine pm_aload_n hC 0 (by decide) dX11_next_96 rfl ?_
                            refine pm_iload_n hC 2 dX11_next_97 rfl ?_
                            refine pm_bipush (v := 100) hC dX11_next_98 (by decide) ?_
                            refine pm_imul hC dX11_next_100 ?_
                            refine pm_iload hC 8 dX11_next_101 rfl ?_
                            refine pm_bipush (v := 10) hC dX11_next_103 (by decide) ?_
                            refine pm_imul hC dX11_next_105 ?_
                            refine pm_iadd hC dX11_next_106 ?_
                            refine pm_iload hC 9 dX11_next_107 rfl ?_
                            refine pm_iadd hC dX11_next_109 ?_
                            refine pm_iload hC 10 dX11_next_110 rfl ?_
                            refine pm_bipush (v := 10) hC dX11_next_112 (by decide) ?_
                            refine pm_imul hC dX11_next_114 ?_
                            refine pm_iload_n hC 3 dX11_next_115 rfl ?_
                            refine pm_iadd hC dX11_next_116 ?_
                            refine pm_iconst (v := 0) hC dX11_next_117 ?_
                            refine pm_callV (ci := 11) (as := [(0, (((a2 * 100) + (x26 * 10)) + x48)), (0, ((x69 * 10) + a3)), (0, 0)]) (st := []) hC 0 (fD_X11_pose_0 (((a2 * 100) + (x26 * 10)) + x48) ((x69 * 10) + a3) 0 ⟨by exact ow_79i_49 b19 c21 b27 b49, by exact ow_79i_50 b19 c21 b41 c42 c62⟩ ⟨by exact ow_79i_51 c9 b70, by exact ow_79i_52 c11 c83⟩ ⟨by decide, by decide⟩ (by omega)) lm_X11_229 li_X11_pose (by decide) (by decide) rfl rfl rfl (by decide) rfl rfl (Nat.le_of_ble_eq_true rfl) ⟨Nat.le_refl _, Or.inl rfl⟩ dX11_next_118 ⟨rfl, hV72⟩ (fun r86 V87 hp88 => ?_)
                            obtain ⟨rfl, hV89, hF90, hE91⟩ := hp88
                            replace hb78 := hb78.trans (pf_call_eq hE91)
                            change pm_J X 121 [(0, (3, 0)), (1, (0, a1)), (2, (0, a2)), (3, (0, a3)), (4, (0, a4)), (5, (0, 1)), (6, (0, x65)), (7, (0, x67)), (8, (0, x26)), (9, (0, x48)), (10, (0, x69))] [] 118 V87
                            have hF92 := pm_ff.tr hF73 hF90 (by decide) (by decide)
                            have e93 : V87 0 8 = 45 := by rw [hF90 0 8 (by decide) (by decide)]; exact e74
                            have e94 : V87 45 0 = y39 := by rw [hF90 45 0 (by decide) (by decide)]; exact e75
                            refine pm_aload_n hC 0 (by decide) dX11_next_121 rfl ?_
                            have e95 : V87 0 5 = 73 := hV89.one 0 5 (by decide) (by decide) rfl
                            refine pm_getf (v := 73) hC 0 fl_X11_75 rfl rfl (by decide) rfl e95 dX11_next_122 ?_
                            refine pm_iload_n hC 1 dX11_next_125 rfl ?_
                            refine pm_bipush (v := 10) hC dX11_next_126 (by decide) ?_
                            refine pm_idiv hC ⟨by exact ow_79i_27 b5 c7, by exact ow_79i_0 h0, by exact ow_79i_1 h0⟩ ⟨by decide, by decide, by decide⟩ dX11_next_128 ?_
                            refine pm_iload_n hC 1 dX11_next_129 rfl ?_
                            refine pm_bipush (v := 10) hC dX11_next_130 (by decide) ?_
                            refine pm_irem hC ⟨by exact ow_79i_27 b5 c7, by exact ow_79i_0 h0, by exact ow_79i_1 h0⟩ ⟨by decide, by decide, by decide⟩ dX11_next_132 ?_
                            refine pm_callV (ci := 10) (as := [(0, (a1 / 10)), (0, (a1 % 10))]) (st := []) hC 73 (fD_X10_partedBy_73 (a1 / 10) (a1 % 10) ⟨by exact ow_79i_28 h0, by exact ow_79i_29 h0⟩ ⟨by exact ow_79i_30, by exact ow_79i_31⟩) lm_X11_317 li_X10_partedBy (by decide) (by decide) rfl rfl rfl (by decide) rfl rfl (Nat.le_of_ble_eq_true rfl) ⟨Nat.le_refl _, Or.inl rfl⟩ dX11_next_133 ⟨rfl, hV89⟩ (fun r96 V97 hp98 => ?_)
                            obtain ⟨y99, rfl, b100, hV101, hF102, hE103⟩ := hp98
                            replace hb78 := hb78.trans (pf_call_eq hE103)
                            change pm_J X 136 [(0, (3, 0)), (1, (0, a1)), (2, (0, a2)), (3, (0, a3)), (4, (0, a4)), (5, (0, 1)), (6, (0, x65)), (7, (0, x67)), (8, (0, x26)), (9, (0, x48)), (10, (0, x69))] [(0, y99)] 118 V97
                            have hF104 := pm_ff.tr hF92 hF102 (by decide) (by decide)
                            have e105 : V97 0 8 = 45 := by rw [hF102 0 8 (by decide) (by decide)]; exact e93
                            have e106 : V97 45 0 = y39 := by rw [hF102 45 0 (by decide) (by decide)]; exact e94
                            have e107 : V97 0 5 = 73 := by rw [hF102 0 5 (by decide) (by decide)]; exact e95
                            refine pm_istore (lv' := [(11, (0, y99)), (0, (3, 0)), (1, (0, a1)), (2, (0, a2)), (3, (0, a3)), (4, (0, a4)), (5, (0, 1)), (6, (0, x65)), (7, (0, x67)), (8, (0, x26)), (9, (0, x48)), (10, (0, x69))]) hC dX11_next_136 (by decide) rfl ?_
                            refine pm_iload hC 0 dX11_next_138 rfl ?_
                            refine pm_iload hC 7 dX11_next_140 rfl ?_
                            refine pm_icmp_le (tgt := 165) hC ⟨by exact ow_79i_0 b100, by exact ow_79i_1 b100⟩ ⟨by exact ow_79i_53 b66, by exact ow_79i_44 b66⟩ dX11_next_142 (by decide) (fun c108 => ?_) (fun c108 => ?_)
                            · skip
                              replace hb78 := hb78.trans (if_pos c108)
                              obtain ⟨x109, ei110⟩ : ∃ y : Int, x69 + 1 = y := ⟨_, rfl⟩
                              replace hb78 := hb78.trans (pf_let_eq ei110)
                              refine pm_iinc (y := x109) (lv' := [(10, (0, x109)), (11, (0, y99)), (0, (3, 0)), (1, (0, a1)), (2, (0, a2)), (3, (0, a3)), (4, (0, a4)), (5, (0, 1)), (6, (0, x65)), (7, (0, x67)), (8, (0, x26)), (9, (0, x48))]) hC 11 dX11_next_165 (by decide) rfl ei110 rfl ?_
                              refine pm_goto (tgt := 89) hC dX11_next_168 (by decide) ?_
                              refine pm_lvsub [2, 3, 4, 5, 6, 7, 8, 9, 10, 11, 0] (lv' := [(0, (3, 0)), (1, (0, a1)), (2, (0, a2)), (3, (0, a3)), (4, (0, a4)), (5, (0, 1)), (6, (0, x65)), (7, (0, x67)), (8, (0, x26)), (9, (0, x48)), (10, (0, x109))]) rfl ?_
                              exact ih82 _ (by exact ow_79i_54 hm80 c83 ei110) x65 x67 x109 V97 ⟨by exact ow_79i_43 b66, by exact ow_79i_44 b66⟩ ⟨by exact ow_79i_41 b68, by exact ow_79i_45 b68⟩ ⟨by exact ow_79i_55 b70 ei110, by exact ow_79i_56 c83 ei110⟩ hV101 hF104 e105 e106 (hb57.trans (pf_val_inl hb78)) rfl
                            · skip
                              replace hb78 := hb78.trans (if_neg (Int.not_le.mpr c108))
                              refine pm_iload hC 0 dX11_next_145 rfl ?_
                              refine pm_istore (lv' := [(6, (0, y99)), (11, (0, y99)), (0, (3, 0)), (1, (0, a1)), (2, (0, a2)), (3, (0, a3)), (4, (0, a4)), (5, (0, 1)), (7, (0, x67)), (8, (0, x26)), (9, (0, x48)), (10, (0, x69))]) hC dX11_next_147 (by decide) rfl ?_
                              refine pm_iload hC 9 dX11_next_149 rfl ?_
                              refine pm_bipush (v := 100) hC dX11_next_151 (by decide) ?_
                              refine pm_imul hC dX11_next_153 ?_
                              refine pm_iload hC 10 dX11_next_154 rfl ?_
                              refine pm_bipush (v := 10) hC dX11_next_156 (by decide) ?_
                              refine pm_imul hC dX11_next_158 ?_
                              refine pm_iadd hC dX11_next_159 ?_
                              refine pm_iload hC 11 dX11_next_160 rfl ?_
                              refine pm_iadd hC dX11_next_162 ?_
                              refine pm_istore (lv' := [(7, (0, (((x26 * 100) + (x48 * 10)) + x69))), (6, (0, y99)), (11, (0, y99)), (0, (3, 0)), (1, (0, a1)), (2, (0, a2)), (3, (0, a3)), (4, (0, a4)), (5, (0, 1)), (8, (0, x26)), (9, (0, x48)), (10, (0, x69))]) hC dX11_next_163 (by decide) rfl ?_
                              obtain ⟨x111, ei112⟩ : ∃ y : Int, x69 + 1 = y := ⟨_, rfl⟩
                              replace hb78 := hb78.trans (pf_let_eq ei112)
                              refine pm_iinc (y := x111) (lv' := [(10, (0, x111)), (7, (0, (((x26 * 100) + (x48 * 10)) + x69))), (6, (0, y99)), (11, (0, y99)), (0, (3, 0)), (1, (0, a1)), (2, (0, a2)), (3, (0, a3)), (4, (0, a4)), (5, (0, 1)), (8, (0, x26)), (9, (0, x48))]) hC 11 dX11_next_165 (by decide) rfl ei112 rfl ?_
                              refine pm_goto (tgt := 89) hC dX11_next_168 (by decide) ?_
                              refine pm_lvsub [4, 5, 6, 7, 8, 9, 2, 1, 10, 11, 0] (lv' := [(0, (3, 0)), (1, (0, a1)), (2, (0, a2)), (3, (0, a3)), (4, (0, a4)), (5, (0, 1)), (6, (0, y99)), (7, (0, (((x26 * 100) + (x48 * 10)) + x69))), (8, (0, x26)), (9, (0, x48)), (10, (0, x111))]) rfl ?_
                              exact ih82 _ (by exact ow_79i_54 hm80 c83 ei112) y99 (((x26 * 100) + (x48 * 10)) + x69) x111 V97 ⟨by exact ow_79i_57 b66 c108, by exact ow_79i_1 b100⟩ ⟨by exact ow_79i_58 b27 b49 b70, by exact ow_79i_59 b41 c42 c62 c83⟩ ⟨by exact ow_79i_55 b70 ei112, by exact ow_79i_56 c83 ei112⟩ hV101 hF104 e105 e106 (hb57.trans (pf_val_inl hb78)) rfl
                        refine pm_lvsub [1, 2, 3, 4, 5, 6, 7, 8, 9, 10, 0] (lv' := [(0, (3, 0)), (1, (0, a1)), (2, (0, a2)), (3, (0, a3)), (4, (0, a4)), (5, (0, 1)), (6, (0, x44)), (7, (0, x46)), (8, (0, x26)), (9, (0, x48)), (10, (0, 0))]) rfl ?_
                        exact L79 _ x44 x46 0 V50 ⟨by exact ow_79i_43 b45, by exact ow_79i_44 b45⟩ ⟨by exact ow_79i_41 b47, by exact ow_79i_45 b47⟩ ⟨by decide, by decide⟩ hV51 hF52 e53 e54 hb57 rfl
                    refine pm_lvsub [1, 2, 3, 4, 5, 6, 7, 8, 9, 0] (lv' := [(0, (3, 0)), (1, (0, a1)), (2, (0, a2)), (3, (0, a3)), (4, (0, a4)), (5, (0, 1)), (6, (0, x22)), (7, (0, x24)), (8, (0, x26)), (9, (0, 0))]) rfl ?_
                    exact L58 _ x22 x24 0 V28 ⟨by exact ow_79i_43 b23, by exact ow_79i_44 b23⟩ ⟨by exact ow_79i_41 b25, by exact ow_79i_45 b25⟩ ⟨by decide, by decide⟩ hV29 hF30 e38 e40 hb33 rfl
                · skip
                  replace hb33 := hb33.trans (if_neg (by rw [e38]; decide))
                  refine pm_getf (v := 51) hC 0 fl_X11_35 rfl rfl (by decide) rfl e38 dX11_next_62 ?_
                  obtain ⟨y113, e114⟩ : ∃ y, V28 51 0 = y := ⟨_, rfl⟩
                  have b115 := hV29.get 51 0 (lo := 0) (hi := 9) (by decide) (by decide) rfl
                  rw [e114] at b115
                  replace hb33 := hb33.trans (pf_let_eq e114)
                  refine pm_getf (v := y113) hC 51 fl_X11_136 rfl rfl (by decide) rfl e114 dX11_next_65 ?_
                  refine pm_icmp_ge (tgt := 183) hC ⟨by exact ow_79i_3 b27, by exact ow_79i_4 b27⟩ ⟨by exact ow_79i_3 b115, by exact ow_79i_4 b115⟩ dX11_next_68 (by decide) (fun c116 => ?_) (fun c116 => ?_)
                  · skip
                    replace hb33 := hb33.trans (if_pos c116)
                    refine pm_iload hC 4 dX11_next_183 rfl ?_
                    refine pm_if_ne (tgt := 193) hC ⟨by exact ow_79i_38 c13, by exact ow_79i_39 c13⟩ dX11_next_185 (by decide) (fun c117 => ?_) (fun c117 => ?_)
                    · skip
                      replace hb33 := hb33.trans (if_pos c117)
                      exfalso; exact ow_79i_40 c13 c117
                    · skip
                      replace hb33 := hb33.trans (if_neg (fun q => q c117))
                      refine pm_iload hC 7 dX11_next_188 rfl ?_
                      refine pm_goto (tgt := 195) hC dX11_next_190 (by decide) ?_
                      replace hT := hT.trans (pf_val_inr hb33)
                      exact pm_iret hC hR pm_nar0 ⟨x24, rfl, ⟨by exact ow_79i_41 b25, by exact ow_79i_42 b25⟩, hV29, hF30, hT⟩ dX11_next_195
                  · skip
                    replace hb33 := hb33.trans (if_neg (Int.not_le.mpr c116))
                    refine pm_iconst (v := 0) hC dX11_next_71 ?_
                    refine pm_istore (lv' := [(9, (0, 0)), (0, (3, 0)), (1, (0, a1)), (2, (0, a2)), (3, (0, a3)), (4, (0, a4)), (5, (0, 1)), (6, (0, x22)), (7, (0, x24)), (8, (0, x26))]) hC dX11_next_72 (by decide) rfl ?_
                    obtain ⟨B129, hB130, hb33⟩ := pf_loop hb33
                    have L132 : ∀ (N134 : Nat) (x118 : Int) (x120 : Int) (x122 : Int) (V124 : pm_M), ((-1) ≤ x118 ∧ x118 ≤ 2147483647) → ((-1) ≤ x120 ∧ x120 ≤ 1000) → (0 ≤ x122 ∧ x122 ≤ 9) → pm_ok 0 90 V124 → pm_ff [74, 75, 76, 77] [(73, 0), (73, 1), (73, 2), (73, 3), (73, 4), (73, 5), (73, 6), (73, 7), (73, 10), (73, 11), (73, 12), (73, 13), (73, 14), (73, 15)] V0 V124 → V124 0 8 = 51 → V124 51 0 = y113 → B31 (x22, x24, x26, V28) = pf_val (.inr ((0 : Int), V0)) B129 (x118, x120, x122, V124) → (Int.toNat (9 - x122)) = N134 → pm_J X 74 [(0, (3, 0)), (1, (0, a1)), (2, (0, a2)), (3, (0, a3)), (4, (0, a4)), (5, (0, 1)), (6, (0, x118)), (7, (0, x120)), (8, (0, x26)), (9, (0, x122))] [] 118 V124 := by
                      intro N134
                      induction N134 using Nat.strongRecOn with
                      | _ N134 ih135 =>
                      intro x118 x120 x122 V124 b119 b121 b123 hV125 hF126 e127 e128 hb33 hm133
                      have hb131 := congrFun hB130 (x118, x120, x122, V124)
                      refine pm_iload hC 9 dX11_next_74 rfl ?_
                      refine pm_aload_n hC 0 (by decide) dX11_next_76 rfl ?_
                      refine pm_getf (v := 51) hC 0 fl_X11_35 rfl rfl (by decide) rfl e127 dX11_next_77 ?_
                      refine pm_getf (v := y113) hC 51 fl_X11_136 rfl rfl (by decide) rfl e128 dX11_next_80 ?_
                      refine pm_icmp_ge (tgt := 177) hC ⟨by exact ow_79i_3 b123, by exact ow_79i_4 b123⟩ ⟨by exact ow_79i_3 b115, by exact ow_79i_4 b115⟩ dX11_next_83 (by decide) (fun c136 => ?_) (fun c136 => ?_)
                      · skip
                        replace hb131 := hb131.trans (if_pos c136)
                        obtain ⟨x137, ei138⟩ : ∃ y : Int, x26 + 1 = y := ⟨_, rfl⟩
                        replace hb131 := hb131.trans (pf_let_eq ei138)
                        refine pm_iinc (y := x137) (lv' := [(8, (0, x137)), (0, (3, 0)), (1, (0, a1)), (2, (0, a2)), (3, (0, a3)), (4, (0, a4)), (5, (0, 1)), (6, (0, x118)), (7, (0, x120)), (9, (0, x122))]) hC 8 dX11_next_177 (by decide) rfl ei138 rfl ?_
                        refine pm_goto (tgt := 59) hC dX11_next_180 (by decide) ?_
                        replace hb33 := hb33.trans (pf_val_inr hb131)
                        refine pm_lvsub [1, 2, 3, 4, 5, 6, 7, 8, 0] (lv' := [(0, (3, 0)), (1, (0, a1)), (2, (0, a2)), (3, (0, a3)), (4, (0, a4)), (5, (0, 1)), (6, (0, x118)), (7, (0, x120)), (8, (0, x137))]) rfl ?_
                        exact ih37 _ (by exact ow_79i_10 hm35 b115 c116 ei138) x118 x120 x137 V124 ⟨by exact ow_79i_43 b119, by exact ow_79i_44 b119⟩ ⟨by exact ow_79i_41 b121, by exact ow_79i_45 b121⟩ ⟨by exact ow_79i_11 b27 ei138, by exact ow_79i_12 b115 c116 ei138⟩ hV125 hF126 (hT.trans (pf_val_inl hb33)) rfl
                      · skip
                        replace hb131 := hb131.trans (if_neg (Int.not_le.mpr c136))
                        refine pm_iconst (v := 0) hC dX11_next_86 ?_
                        refine pm_istore (lv' := [(10, (0, 0)), (0, (3, 0)), (1, (0, a1)), (2, (0, a2)), (3, (0, a3)), (4, (0, a4)), (5, (0, 1)), (6, (0, x118)), (7, (0, x120)), (8, (0, x26)), (9, (0, x122))]) hC dX11_next_87 (by decide) rfl ?_
                        obtain ⟨B150, hB151, hb131⟩ := pf_loop hb131
                        have L153 : ∀ (N155 : Nat) (x139 : Int) (x141 : Int) (x143 : Int) (V145 : pm_M), ((-1) ≤ x139 ∧ x139 ≤ 2147483647) → ((-1) ≤ x141 ∧ x141 ≤ 1000) → (0 ≤ x143 ∧ x143 ≤ 16) → pm_ok 0 90 V145 → pm_ff [74, 75, 76, 77] [(73, 0), (73, 1), (73, 2), (73, 3), (73, 4), (73, 5), (73, 6), (73, 7), (73, 10), (73, 11), (73, 12), (73, 13), (73, 14), (73, 15)] V0 V145 → V145 0 8 = 51 → V145 51 0 = y113 → B129 (x118, x120, x122, V124) = pf_val (.inr (.inr ((0 : Int), V0))) B150 (x139, x141, x143, V145) → (Int.toNat (16 - x143)) = N155 → pm_J X 89 [(0, (3, 0)), (1, (0, a1)), (2, (0, a2)), (3, (0, a3)), (4, (0, a4)), (5, (0, 1)), (6, (0, x139)), (7, (0, x141)), (8, (0, x26)), (9, (0, x122)), (10, (0, x143))] [] 118 V145 := by
                          intro N155
                          induction N155 using Nat.strongRecOn with
                          | _ N155 ih156 =>
                          intro x139 x141 x143 V145 b140 b142 b144 hV146 hF147 e148 e149 hb131 hm154
                          have hb152 := congrFun hB151 (x139, x141, x143, V145)
                          refine pm_iload hC 10 dX11_next_89 rfl ?_
                          refine pm_bipush (v := 10) hC dX11_next_91 (by decide) ?_
                          refine pm_icmp_ge (tgt := 171) hC ⟨by exact ow_79i_46 b144, by exact ow_79i_47 b144⟩ ⟨by decide, by decide⟩ dX11_next_93 (by decide) (fun c157 => ?_) (fun c157 => ?_)
                          · skip
                            replace hb152 := hb152.trans (if_pos c157)
                            obtain ⟨x158, ei159⟩ : ∃ y : Int, x122 + 1 = y := ⟨_, rfl⟩
                            replace hb152 := hb152.trans (pf_let_eq ei159)
                            refine pm_iinc (y := x158) (lv' := [(9, (0, x158)), (0, (3, 0)), (1, (0, a1)), (2, (0, a2)), (3, (0, a3)), (4, (0, a4)), (5, (0, 1)), (6, (0, x139)), (7, (0, x141)), (8, (0, x26)), (10, (0, x143))]) hC 9 dX11_next_171 (by decide) rfl ei159 rfl ?_
                            refine pm_goto (tgt := 74) hC dX11_next_174 (by decide) ?_
                            replace hb131 := hb131.trans (pf_val_inr hb152)
                            refine pm_lvsub [1, 2, 3, 4, 5, 6, 7, 8, 9, 0] (lv' := [(0, (3, 0)), (1, (0, a1)), (2, (0, a2)), (3, (0, a3)), (4, (0, a4)), (5, (0, 1)), (6, (0, x139)), (7, (0, x141)), (8, (0, x26)), (9, (0, x158))]) rfl ?_
                            exact ih135 _ (by exact ow_79i_48 b115 hm133 c136 ei159) x139 x141 x158 V145 ⟨by exact ow_79i_43 b140, by exact ow_79i_44 b140⟩ ⟨by exact ow_79i_41 b142, by exact ow_79i_45 b142⟩ ⟨by exact ow_79i_11 b123 ei159, by exact ow_79i_12 b115 c136 ei159⟩ hV146 hF147 e148 e149 (hb33.trans (pf_val_inl hb131)) rfl
                          · skip
                            replace hb152 := hb152.trans (if_neg (Int.not_le.mpr c157))
                            refine pm_aload_n hC 0 (by decide) dX11_next_96 rfl ?_
                            refine pm_iload_n hC 2 dX11_next_97 rfl ?_
                            refine pm_bipush (v := 100) hC dX11_next_98 (by decide) ?_
                            refine pm_imul hC dX11_next_100 ?_
                            refine pm_iload hC 8 dX11_next_101 rfl ?_
                            refine pm_bipush (v := 10) hC dX11_next_103 (by decide) ?_
                            refine pm_imul hC dX11_next_105 ?_
                            refine pm_iadd hC dX11_next_106 ?_
                            refine pm_iload hC 9 dX11_next_107 rfl ?_
                            refine pm_iadd hC dX11_next_109 ?_
                            refine pm_iload hC 10 dX11_next_110 rfl ?_
                            refine pm_bipush (v := 10) hC dX11_next_112 (by decide) ?_
                            refine pm_imul hC dX11_next_114 ?_
                            refine pm_iload_n hC 3 dX11_next_115 rfl ?_
                            refine pm_iadd hC dX11_next_116 ?_
                            refine pm_iconst (v := 0) hC dX11_next_117 ?_
                            refine pm_callV (ci := 11) (as := [(0, (((a2 * 100) + (x26 * 10)) + x122)), (0, ((x143 * 10) + a3)), (0, 0)]) (st := []) hC 0 (fD_X11_pose_0 (((a2 * 100) + (x26 * 10)) + x122) ((x143 * 10) + a3) 0 ⟨by exact ow_79i_49 b19 c21 b27 b123, by exact ow_79i_50 b19 c21 b115 c116 c136⟩ ⟨by exact ow_79i_51 c9 b144, by exact ow_79i_52 c11 c157⟩ ⟨by decide, by decide⟩ (by omega)) lm_X11_229 li_X11_pose (by decide) (by decide) rfl rfl rfl (by decide) rfl rfl (Nat.le_of_ble_eq_true rfl) ⟨Nat.le_refl _, Or.inl rfl⟩ dX11_next_118 ⟨rfl, hV146⟩ (fun r160 V161 hp162 => ?_)
                            obtain ⟨rfl, hV163, hF164, hE165⟩ := hp162
                            replace hb152 := hb152.trans (pf_call_eq hE165)
                            change pm_J X 121 [(0, (3, 0)), (1, (0, a1)), (2, (0, a2)), (3, (0, a3)), (4, (0, a4)), (5, (0, 1)), (6, (0, x139)), (7, (0, x141)), (8, (0, x26)), (9, (0, x122)), (10, (0, x143))] [] 118 V161
                            have hF166 := pm_ff.tr hF147 hF164 (by decide) (by decide)
                            have e167 : V161 0 8 = 51 := by rw [hF164 0 8 (by decide) (by decide)]; exact e148
                            have e168 : V161 51 0 = y113 := by rw [hF164 51 0 (by decide) (by decide)]; exact e149
                            refine pm_aload_n hC 0 (by decide) dX11_next_121 rfl ?_
                            have e169 : V161 0 5 = 73 := hV163.one 0 5 (by decide) (by decide) rfl
                            refine pm_getf (v := 73) hC 0 fl_X11_75 rfl rfl (by decide) rfl e169 dX11_next_122 ?_
                            refine pm_iload_n hC 1 dX11_next_125 rfl ?_
                            refine pm_bipush (v := 10) hC dX11_next_126 (by decide) ?_
                            refine pm_idiv hC ⟨by exact ow_79i_27 b5 c7, by exact ow_79i_0 h0, by exact ow_79i_1 h0⟩ ⟨by decide, by decide, by decide⟩ dX11_next_128 ?_
                            refine pm_iload_n hC 1 dX11_next_129 rfl ?_
                            refine pm_bipush (v := 10) hC dX11_next_130 (by decide) ?_
                            refine pm_irem hC ⟨by exact ow_79i_27 b5 c7, by exact ow_79i_0 h0, by exact ow_79i_1 h0⟩ ⟨by decide, by decide, by decide⟩ dX11_next_132 ?_
                            refine pm_callV (ci := 10) (as := [(0, (a1 / 10)), (0, (a1 % 10))]) (st := []) hC 73 (fD_X10_partedBy_73 (a1 / 10) (a1 % 10) ⟨by exact ow_79i_28 h0, by exact ow_79i_29 h0⟩ ⟨by exact ow_79i_30, by exact ow_79i_31⟩) lm_X11_317 li_X10_partedBy (by decide) (by decide) rfl rfl rfl (by decide) rfl rfl (Nat.le_of_ble_eq_true rfl) ⟨Nat.le_refl _, Or.inl rfl⟩ dX11_next_133 ⟨rfl, hV163⟩ (fun r170 V171 hp172 => ?_)
                            obtain ⟨y173, rfl, b174, hV175, hF176, hE177⟩ := hp172
                            replace hb152 := hb152.trans (pf_call_eq hE177)
                            change pm_J X 136 [(0, (3, 0)), (1, (0, a1)), (2, (0, a2)), (3, (0, a3)), (4, (0, a4)), (5, (0, 1)), (6, (0, x139)), (7, (0, x141)), (8, (0, x26)), (9, (0, x122)), (10, (0, x143))] [(0, y173)] 118 V171
                            have hF178 := pm_ff.tr hF166 hF176 (by decide) (by decide)
                            have e179 : V171 0 8 = 51 := by rw [hF176 0 8 (by decide) (by decide)]; exact e167
                            have e180 : V171 51 0 = y113 := by rw [hF176 51 0 (by decide) (by decide)]; exact e168
                            have e181 : V171 0 5 = 73 := by rw [hF176 0 5 (by decide) (by decide)]; exact e169
                            refine pm_istore (lv' := [(11, (0, y173)), (0, (3, 0)), (1, (0, a1)), (2, (0, a2)), (3, (0, a3)), (4, (0, a4)), (5, (0, 1)), (6, (0, x139)), (7, (0, x141)), (8, (0, x26)), (9, (0, x122)), (10, (0, x143))]) hC dX11_next_136 (by decide) rfl ?_
                            refine pm_iload hC 0 dX11_next_138 rfl ?_
                            refine pm_iload hC 7 dX11_next_140 rfl ?_
                            refine pm_icmp_le (tgt := 165) hC ⟨by exact ow_79i_0 b174, by exact ow_79i_1 b174⟩ ⟨by exact ow_79i_53 b140, by exact ow_79i_44 b140⟩ dX11_next_142 (by decide) (fun c182 => ?_) (fun c182 => ?_)
                            · skip
                              replace hb152 := hb152.trans (if_pos c182)
                              obtain ⟨x183, ei184⟩ : ∃ y : Int, x143 + 1 = y := ⟨_, rfl⟩
                              replace hb152 := hb152.trans (pf_let_eq ei184)
                              refine pm_iinc (y := x183) (lv' := [(10, (0, x183)), (11, (0, y173)), (0, (3, 0)), (1, (0, a1)), (2, (0, a2)), (3, (0, a3)), (4, (0, a4)), (5, (0, 1)), (6, (0, x139)), (7, (0, x141)), (8, (0, x26)), (9, (0, x122))]) hC 11 dX11_next_165 (by decide) rfl ei184 rfl ?_
                              refine pm_goto (tgt := 89) hC dX11_next_168 (by decide) ?_
                              refine pm_lvsub [2, 3, 4, 5, 6, 7, 8, 9, 10, 11, 0] (lv' := [(0, (3, 0)), (1, (0, a1)), (2, (0, a2)), (3, (0, a3)), (4, (0, a4)), (5, (0, 1)), (6, (0, x139)), (7, (0, x141)), (8, (0, x26)), (9, (0, x122)), (10, (0, x183))]) rfl ?_
                              exact ih156 _ (by exact ow_79i_54 hm154 c157 ei184) x139 x141 x183 V171 ⟨by exact ow_79i_43 b140, by exact ow_79i_44 b140⟩ ⟨by exact ow_79i_41 b142, by exact ow_79i_45 b142⟩ ⟨by exact ow_79i_55 b144 ei184, by exact ow_79i_56 c157 ei184⟩ hV175 hF178 e179 e180 (hb131.trans (pf_val_inl hb152)) rfl
                            · skip
                              replace hb152 := hb152.trans (if_neg (Int.not_le.mpr c182))
                              refine pm_iload hC 0 dX11_next_145 rfl ?_
                              refine pm_istore (lv' := [(6, (0, y173)), (11, (0, y173)), (0, (3, 0)), (1, (0, a1)), (2, (0, a2)), (3, (0, a3)), (4, (0, a4)), (5, (0, 1)), (7, (0, x141)), (8, (0, x26)), (9, (0, x122)), (10, (0, x143))]) hC dX11_next_147 (by decide) rfl ?_
                              refine pm_iload hC 9 dX11_next_149 rfl ?_
                              refine pm_bipush (v := 100) hC dX11_next_151 (by decide) ?_
                              refine pm_imul hC dX11_next_153 ?_
                              refine pm_iload hC 10 dX11_next_154 rfl ?_
                              refine pm_bipush (v := 10) hC dX11_next_156 (by decide) ?_
                              refine pm_imul hC dX11_next_158 ?_
                              refine pm_iadd hC dX11_next_159 ?_
                              refine pm_iload hC 11 dX11_next_160 rfl ?_
                              refine pm_iadd hC dX11_next_162 ?_
                              refine pm_istore (lv' := [(7, (0, (((x26 * 100) + (x122 * 10)) + x143))), (6, (0, y173)), (11, (0, y173)), (0, (3, 0)), (1, (0, a1)), (2, (0, a2)), (3, (0, a3)), (4, (0, a4)), (5, (0, 1)), (8, (0, x26)), (9, (0, x122)), (10, (0, x143))]) hC dX11_next_163 (by decide) rfl ?_
                              obtain ⟨x185, ei186⟩ : ∃ y : Int, x143 + 1 = y := ⟨_, rfl⟩
                              replace hb152 := hb152.trans (pf_let_eq ei186)
                              refine pm_iinc (y := x185) (lv' := [(10, (0, x185)), (7, (0, (((x26 * 100) + (x122 * 10)) + x143))), (6, (0, y173)), (11, (0, y173)), (0, (3, 0)), (1, (0, a1)), (2, (0, a2)), (3, (0, a3)), (4, (0, a4)), (5, (0, 1)), (8, (0, x26)), (9, (0, x122))]) hC 11 dX11_next_165 (by decide) rfl ei186 rfl ?_
                              refine pm_goto (tgt := 89) hC dX11_next_168 (by decide) ?_
                              refine pm_lvsub [4, 5, 6, 7, 8, 9, 2, 1, 10, 11, 0] (lv' := [(0, (3, 0)), (1, (0, a1)), (2, (0, a2)), (3, (0, a3)), (4, (0, a4)), (5, (0, 1)), (6, (0, y173)), (7, (0, (((x26 * 100) + (x122 * 10)) + x143))), (8, (0, x26)), (9, (0, x122)), (10, (0, x185))]) rfl ?_
                              exact ih156 _ (by exact ow_79i_54 hm154 c157 ei186) y173 (((x26 * 100) + (x122 * 10)) + x143) x185 V171 ⟨by exact ow_79i_57 b140 c182, by exact ow_79i_1 b174⟩ ⟨by exact ow_79i_58 b27 b123 b144, by exact ow_79i_59 b115 c116 c136 c157⟩ ⟨by exact ow_79i_55 b144 ei186, by exact ow_79i_56 c157 ei186⟩ hV175 hF178 e179 e180 (hb131.trans (pf_val_inl hb152)) rfl
                        refine pm_lvsub [1, 2, 3, 4, 5, 6, 7, 8, 9, 10, 0] (lv' := [(0, (3, 0)), (1, (0, a1)), (2, (0, a2)), (3, (0, a3)), (4, (0, a4)), (5, (0, 1)), (6, (0, x118)), (7, (0, x120)), (8, (0, x26)), (9, (0, x122)), (10, (0, 0))]) rfl ?_
                        exact L153 _ x118 x120 0 V124 ⟨by exact ow_79i_43 b119, by exact ow_79i_44 b119⟩ ⟨by exact ow_79i_41 b121, by exact ow_79i_45 b121⟩ ⟨by decide, by decide⟩ hV125 hF126 e127 e128 hb131 rfl
                    refine pm_lvsub [1, 2, 3, 4, 5, 6, 7, 8, 9, 0] (lv' := [(0, (3, 0)), (1, (0, a1)), (2, (0, a2)), (3, (0, a3)), (4, (0, a4)), (5, (0, 1)), (6, (0, x22)), (7, (0, x24)), (8, (0, x26)), (9, (0, 0))]) rfl ?_
                    exact L132 _ x22 x24 0 V28 ⟨by exact ow_79i_43 b23, by exact ow_79i_44 b23⟩ ⟨by exact ow_79i_41 b25, by exact ow_79i_45 b25⟩ ⟨by decide, by decide⟩ hV29 hF30 e38 e114 hb33 rfl
              refine pm_lvsub [4, 5, 6, 7, 8, 3, 2, 1, 0] (lv' := [(0, (3, 0)), (1, (0, a1)), (2, (0, a2)), (3, (0, a3)), (4, (0, a4)), (5, (0, 1)), (6, (0, (-1))), (7, (0, (-1))), (8, (0, 0))]) rfl ?_
              exact L34 _ (-1) (-1) 0 V0 ⟨by decide, by decide⟩ ⟨by decide, by decide⟩ ⟨by decide, by decide⟩ hV0 (pm_ff.rf (cs := [74, 75, 76, 77]) (fs := [(73, 0), (73, 1), (73, 2), (73, 3), (73, 4), (73, 5), (73, 6), (73, 7), (73, 10), (73, 11), (73, 12), (73, 13), (73, 14), (73, 15)]) (V := V0)) hT rfl
            · skip
              replace hT := hT.trans (if_neg (fun q => q c21))
              refine pm_iconst (v := (-1)) hC dX11_next_48 ?_
              exact pm_iret hC hR pm_nar0 ⟨(-1), rfl, ⟨by exact ow_79i_32, by exact ow_79i_17⟩, hV0, (pm_ff.rf (cs := [74, 75, 76, 77]) (fs := [(73, 0), (73, 1), (73, 2), (73, 3), (73, 4), (73, 5), (73, 6), (73, 7), (73, 10), (73, 11), (73, 12), (73, 13), (73, 14), (73, 15)]) (V := V0)), hT⟩ dX11_next_49
        · skip
          replace hT := hT.trans (if_neg c13)
          refine pm_iload hC 4 dX11_next_22 rfl ?_
          refine pm_iconst (v := 1) hC dX11_next_24 ?_
          refine pm_icmp_ne (tgt := 32) hC ⟨by exact ow_79i_0 h3, by exact ow_79i_1 h3⟩ ⟨by decide, by decide⟩ dX11_next_25 (by decide) (fun c187 => ?_) (fun c187 => ?_)
          · skip
            replace hT := hT.trans (if_pos c187)
            refine pm_iconst (v := 0) hC dX11_next_32 ?_
            refine pm_istore (lv' := [(5, (0, 0)), (0, (3, 0)), (1, (0, a1)), (2, (0, a2)), (3, (0, a3)), (4, (0, a4))]) hC dX11_next_33 (by decide) rfl ?_
            refine pm_iload hC 0 dX11_next_35 rfl ?_
            refine pm_if_eq (tgt := 48) hC ⟨by decide, by decide⟩ dX11_next_37 (by decide) (fun c188 => ?_) (fun c188 => ?_)
            · skip
              refine pm_iconst (v := (-1)) hC dX11_next_48 ?_
              exact pm_iret hC hR pm_nar0 ⟨(-1), rfl, ⟨by exact ow_79i_32, by exact ow_79i_17⟩, hV0, (pm_ff.rf (cs := [74, 75, 76, 77]) (fs := [(73, 0), (73, 1), (73, 2), (73, 3), (73, 4), (73, 5), (73, 6), (73, 7), (73, 10), (73, 11), (73, 12), (73, 13), (73, 14), (73, 15)]) (V := V0)), hT⟩ dX11_next_49
            · skip
              exfalso; exact ow_79i_33 c188
          · skip
            replace hT := hT.trans (if_neg (fun q => q c187))
            refine pm_iconst (v := 1) hC dX11_next_28 ?_
            refine pm_goto (tgt := 33) hC dX11_next_29 (by decide) ?_
            refine pm_istore (lv' := [(5, (0, 1)), (0, (3, 0)), (1, (0, a1)), (2, (0, a2)), (3, (0, a3)), (4, (0, a4))]) hC dX11_next_33 (by decide) rfl ?_
            refine pm_iload hC 0 dX11_next_35 rfl ?_
            refine pm_if_eq (tgt := 48) hC ⟨by decide, by decide⟩ dX11_next_37 (by decide) (fun c189 => ?_) (fun c189 => ?_)
            · skip
              exfalso; exact ow_79i_35 c189
            · skip
              refine pm_aload_n hC 1 (by decide) dX11_next_40 rfl ?_
              refine pm_iload_n hC 3 dX11_next_41 rfl ?_
              refine pm_callV (ci := 11) (as := [(0, a2)]) (st := []) hC 0 (fD_X11_isPerson_0 a2 ⟨by exact ow_79i_0 h1, by exact ow_79i_1 h1⟩) lm_X11_183 li_X11_isPerson (by decide) (by decide) rfl rfl rfl (by decide) rfl rfl (Nat.le_of_ble_eq_true rfl) ⟨Nat.le_refl _, Or.inl rfl⟩ dX11_next_42 ⟨rfl, hV0⟩ (fun r190 V191 hp192 => ?_)
              obtain ⟨y193, rfl, b194, rfl, hE195⟩ := hp192
              replace hT := hT.trans (pf_call_eq hE195)
              change pm_J X 45 [(5, (0, 1)), (0, (3, 0)), (1, (0, a1)), (2, (0, a2)), (3, (0, a3)), (4, (0, a4))] [(0, y193)] 118 V0
              refine pm_if_ne (tgt := 50) hC ⟨by exact ow_79i_36 b194, by exact ow_79i_37 b194⟩ dX11_next_45 (by decide) (fun c196 => ?_) (fun c196 => ?_)
              · skip
                replace hT := hT.trans (if_pos c196)
                refine pm_iconst (v := (-1)) hC dX11_next_50 ?_
                refine pm_istore (lv' := [(6, (0, (-1))), (5, (0, 1)), (0, (3, 0)), (1, (0, a1)), (2, (0, a2)), (3, (0, a3)), (4, (0, a4))]) hC dX11_next_51 (by decide) rfl ?_
                refine pm_iconst (v := (-1)) hC dX11_next_53 ?_
                refine pm_istore (lv' := [(7, (0, (-1))), (6, (0, (-1))), (5, (0, 1)), (0, (3, 0)), (1, (0, a1)), (2, (0, a2)), (3, (0, a3)), (4, (0, a4))]) hC dX11_next_54 (by decide) rfl ?_
                refine pm_iconst (v := 0) hC dX11_next_56 ?_
                refine pm_istore (lv' := [(8, (0, 0)), (7, (0, (-1))), (6, (0, (-1))), (5, (0, 1)), (0, (3, 0)), (1, (0, a1)), (2, (0, a2)), (3, (0, a3)), (4, (0, a4))]) hC dX11_next_57 (by decide) rfl ?_
                obtain ⟨B206, hB207, hT⟩ := pf_loop hT
                have L209 : ∀ (N211 : Nat) (x197 : Int) (x199 : Int) (x201 : Int) (V203 : pm_M), ((-1) ≤ x197 ∧ x197 ≤ 2147483647) → ((-1) ≤ x199 ∧ x199 ≤ 1000) → (0 ≤ x201 ∧ x201 ≤ 9) → pm_ok 0 90 V203 → pm_ff [74, 75, 76, 77] [(73, 0), (73, 1), (73, 2), (73, 3), (73, 4), (73, 5), (73, 6), (73, 7), (73, 10), (73, 11), (73, 12), (73, 13), (73, 14), (73, 15)] V0 V203 → F_X11_next a1 a2 a3 a4 V0 = pf_val ((0 : Int), V0) B206 (x197, x199, x201, V203) → (Int.toNat (9 - x201)) = N211 → pm_J X 59 [(0, (3, 0)), (1, (0, a1)), (2, (0, a2)), (3, (0, a3)), (4, (0, a4)), (5, (0, 1)), (6, (0, x197)), (7, (0, x199)), (8, (0, x201))] [] 118 V203 := by
                  intro N211
                  induction N211 using Nat.strongRecOn with
                  | _ N211 ih212 =>
                  intro x197 x199 x201 V203 b198 b200 b202 hV204 hF205 hT hm210
                  have hb208 := congrFun hB207 (x197, x199, x201, V203)
                  refine pm_iload hC 8 dX11_next_59 rfl ?_
                  refine pm_aload_n hC 0 (by decide) dX11_next_61 rfl ?_
                  rcases hV204.get2 0 8 (lo := 45) (hi := 51) (by decide) (by decide) rfl with e213 | e213
                  · skip
                    replace hb208 := hb208.trans (if_pos e213)
                    refine pm_getf (v := 45) hC 0 fl_X11_35 rfl rfl (by decide) rfl e213 dX11_next_62 ?_
                    obtain ⟨y214, e215⟩ : ∃ y, V203 45 0 = y := ⟨_, rfl⟩
                    have b216 := hV204.get 45 0 (lo := 0) (hi := 9) (by decide) (by decide) rfl
                    rw [e215] at b216
                    replace hb208 := hb208.trans (pf_let_eq e215)
                    refine pm_getf (v := y214) hC 45 fl_X11_136 rfl rfl (by decide) rfl e215 dX11_next_65 ?_
                    refine pm_icmp_ge (tgt := 183) hC ⟨by exact ow_79i_3 b202, by exact ow_79i_4 b202⟩ ⟨by exact ow_79i_3 b216, by exact ow_79i_4 b216⟩ dX11_next_68 (by decide) (fun c217 => ?_) (fun c217 => ?_)
                    · skip
                      replace hb208 := hb208.trans (if_pos c217)
                      refine pm_iload hC 4 dX11_next_183 rfl ?_
                      refine pm_if_ne (tgt := 193) hC ⟨by exact ow_79i_60 c187, by exact ow_79i_61 c187⟩ dX11_next_185 (by decide) (fun c218 => ?_) (fun c218 => ?_)
                      · skip
                        replace hb208 := hb208.trans (if_pos c218)
                        refine pm_iload hC 6 dX11_next_193 rfl ?_
                        replace hT := hT.trans (pf_val_inr hb208)
                        exact pm_iret hC hR pm_nar0 ⟨x197, rfl, ⟨by exact ow_79i_43 b198, by exact ow_79i_44 b198⟩, hV204, hF205, hT⟩ dX11_next_195
                      · skip
                        replace hb208 := hb208.trans (if_neg (fun q => q c218))
                        exfalso; exact ow_79i_62 c187 c218
                    · skip
                      replace hb208 := hb208.trans (if_neg (Int.not_le.mpr c217))
                      refine pm_iconst (v := 0) hC dX11_next_71 ?_
                      refine pm_istore (lv' := [(9, (0, 0)), (0, (3, 0)), (1, (0, a1)), (2, (0, a2)), (3, (0, a3)), (4, (0, a4)), (5, (0, 1)), (6, (0, x197)), (7, (0, x199)), (8, (0, x201))]) hC dX11_next_72 (by decide) rfl ?_
                      obtain ⟨B230, hB231, hb208⟩ := pf_loop hb208
                      have L233 : ∀ (N235 : Nat) (x219 : Int) (x221 : Int) (x223 : Int) (V225 : pm_M), ((-1) ≤ x219 ∧ x219 ≤ 2147483647) → ((-1) ≤ x221 ∧ x221 ≤ 1000) → (0 ≤ x223 ∧ x223 ≤ 9) → pm_ok 0 90 V225 → pm_ff [74, 75, 76, 77] [(73, 0), (73, 1), (73, 2), (73, 3), (73, 4), (73, 5), (73, 6), (73, 7), (73, 10), (73, 11), (73, 12), (73, 13), (73, 14), (73, 15)] V0 V225 → V225 0 8 = 45 → V225 45 0 = y214 → B206 (x197, x199, x201, V203) = pf_val (.inr ((0 : Int), V0)) B230 (x219, x221, x223, V225) → (Int.toNat (9 - x223)) = N235 → pm_J X 74 [(0, (3, 0)), (1, (0, a1)), (2, (0, a2)), (3, (0, a3)), (4, (0, a4)), (5, (0, 1)), (6, (0, x219)), (7, (0, x221)), (8, (0, x201)), (9, (0, x223))] [] 118 V225 := by
                        intro N235
                        induction N235 using Nat.strongRecOn with
                        | _ N235 ih236 =>
                        intro x219 x221 x223 V225 b220 b222 b224 hV226 hF227 e228 e229 hb208 hm234
                        have hb232 := congrFun hB231 (x219, x221, x223, V225)
                        refine pm_iload hC 9 dX11_next_74 rfl ?_
                        refine pm_aload_n hC 0 (by decide) dX11_next_76 rfl ?_
                        refine pm_getf (v := 45) hC 0 fl_X11_35 rfl rfl (by decide) rfl e228 dX11_next_77 ?_
                        refine pm_getf (v := y214) hC 45 fl_X11_136 rfl rfl (by decide) rfl e229 dX11_next_80 ?_
                        refine pm_icmp_ge (tgt := 177) hC ⟨by exact ow_79i_3 b224, by exact ow_79i_4 b224⟩ ⟨by exact ow_79i_3 b216, by exact ow_79i_4 b216⟩ dX11_next_83 (by decide) (fun c237 => ?_) (fun c237 => ?_)
                        · skip
                          replace hb232 := hb232.trans (if_pos c237)
                          obtain ⟨x238, ei239⟩ : ∃ y : Int, x201 + 1 = y := ⟨_, rfl⟩
                          replace hb232 := hb232.trans (pf_let_eq ei239)
                          refine pm_iinc (y := x238) (lv' := [(8, (0, x238)), (0, (3, 0)), (1, (0, a1)), (2, (0, a2)), (3, (0, a3)), (4, (0, a4)), (5, (0, 1)), (6, (0, x219)), (7, (0, x221)), (9, (0, x223))]) hC 8 dX11_next_177 (by decide) rfl ei239 rfl ?_
                          refine pm_goto (tgt := 59) hC dX11_next_180 (by decide) ?_
                          replace hb208 := hb208.trans (pf_val_inr hb232)
                          refine pm_lvsub [1, 2, 3, 4, 5, 6, 7, 8, 0] (lv' := [(0, (3, 0)), (1, (0, a1)), (2, (0, a2)), (3, (0, a3)), (4, (0, a4)), (5, (0, 1)), (6, (0, x219)), (7, (0, x221)), (8, (0, x238))]) rfl ?_
                          exact ih212 _ (by exact ow_79i_10 hm210 b216 c217 ei239) x219 x221 x238 V225 ⟨by exact ow_79i_43 b220, by exact ow_79i_44 b220⟩ ⟨by exact ow_79i_41 b222, by exact ow_79i_45 b222⟩ ⟨by exact ow_79i_11 b202 ei239, by exact ow_79i_12 b216 c217 ei239⟩ hV226 hF227 (hT.trans (pf_val_inl hb208)) rfl
                        · skip
                          replace hb232 := hb232.trans (if_neg (Int.not_le.mpr c237))
                          refine pm_iconst (v := 0) hC dX11_next_86 ?_
                          refine pm_istore (lv' := [(10, (0, 0)), (0, (3, 0)), (1, (0, a1)), (2, (0, a2)), (3, (0, a3)), (4, (0, a4)), (5, (0, 1)), (6, (0, x219)), (7, (0, x221)), (8, (0, x201)), (9, (0, x223))]) hC dX11_next_87 (by decide) rfl ?_
                          obtain ⟨B251, hB252, hb232⟩ := pf_loop hb232
                          have L254 : ∀ (N256 : Nat) (x240 : Int) (x242 : Int) (x244 : Int) (V246 : pm_M), ((-1) ≤ x240 ∧ x240 ≤ 2147483647) → ((-1) ≤ x242 ∧ x242 ≤ 1000) → (0 ≤ x244 ∧ x244 ≤ 16) → pm_ok 0 90 V246 → pm_ff [74, 75, 76, 77] [(73, 0), (73, 1), (73, 2), (73, 3), (73, 4), (73, 5), (73, 6), (73, 7), (73, 10), (73, 11), (73, 12), (73, 13), (73, 14), (73, 15)] V0 V246 → V246 0 8 = 45 → V246 45 0 = y214 → B230 (x219, x221, x223, V225) = pf_val (.inr (.inr ((0 : Int), V0))) B251 (x240, x242, x244, V246) → (Int.toNat (16 - x244)) = N256 → pm_J X 89 [(0, (3, 0)), (1, (0, a1)), (2, (0, a2)), (3, (0, a3)), (4, (0, a4)), (5, (0, 1)), (6, (0, x240)), (7, (0, x242)), (8, (0, x201)), (9, (0, x223)), (10, (0, x244))] [] 118 V246 := by
                            intro N256
                            induction N256 using Nat.strongRecOn with
                            | _ N256 ih257 =>
                            intro x240 x242 x244 V246 b241 b243 b245 hV247 hF248 e249 e250 hb232 hm255
                            have hb253 := congrFun hB252 (x240, x242, x244, V246)
                            refine pm_iload hC 10 dX11_next_89 rfl ?_
                            refine pm_bipush (v := 10) hC dX11_next_91 (by decide) ?_
                            refine pm_icmp_ge (tgt := 171) hC ⟨by exact ow_79i_46 b245, by exact ow_79i_47 b245⟩ ⟨by decide, by decide⟩ dX11_next_93 (by decide) (fun c258 => ?_) (fun c258 => ?_)
                            · skip
                              replace hb253 := hb253.trans (if_pos c258)
                              obtain ⟨x259, ei260⟩ : ∃ y : Int, x223 + 1 = y := ⟨_, rfl⟩
                              replace hb253 := hb253.trans (pf_let_eq ei260)
                              refine pm_iinc (y := x259) (lv' := [(9, (0, x259)), (0, (3, 0)), (1, (0, a1)), (2, (0, a2)), (3, (0, a3)), (4, (0, a4)), (5, (0, 1)), (6, (0, x240)), (7, (0, x242)), (8, (0, x201)), (10, (0, x244))]) hC 9 dX11_next_171 (by decide) rfl ei260 rfl ?_
                              refine pm_goto (tgt := 74) hC dX11_next_174 (by decide) ?_
                              replace hb232 := hb232.trans (pf_val_inr hb253)
                              refine pm_lvsub [1, 2, 3, 4, 5, 6, 7, 8, 9, 0] (lv' := [(0, (3, 0)), (1, (0, a1)), (2, (0, a2)), (3, (0, a3)), (4, (0, a4)), (5, (0, 1)), (6, (0, x240)), (7, (0, x242)), (8, (0, x201)), (9, (0, x259))]) rfl ?_
                              exact ih236 _ (by exact ow_79i_48 b216 hm234 c237 ei260) x240 x242 x259 V246 ⟨by exact ow_79i_43 b241, by exact ow_79i_44 b241⟩ ⟨by exact ow_79i_41 b243, by exact ow_79i_45 b243⟩ ⟨by exact ow_79i_11 b224 ei260, by exact ow_79i_12 b216 c237 ei260⟩ hV247 hF248 e249 e250 (hb208.trans (pf_val_inl hb232)) rfl
                            · skip
                              replace hb253 := hb253.trans (if_neg (Int.not_le.mpr c258))
                              refine pm_aload_n hC 0 (by decide) dX11_next_96 rfl ?_
                              refine pm_iload_n hC 2 dX11_next_97 rfl ?_
                              refine pm_bipush (v := 100) hC dX11_next_98 (by decide) ?_
                              refine pm_imul hC dX11_next_100 ?_
                              refine pm_iload hC 8 dX11_next_101 rfl ?_
                              refine pm_bipush (v := 10) hC dX11_next_103 (by decide) ?_
                              refine pm_imul hC dX11_next_105 ?_
                              refine pm_iadd hC dX11_next_106 ?_
                              refine pm_iload hC 9 dX11_next_107 rfl ?_
                              refine pm_iadd hC dX11_next_109 ?_
                              refine pm_iload hC 10 dX11_next_110 rfl ?_
                              refine pm_bipush (v := 10) hC dX11_next_112 (by decide) ?_
                              refine pm_imul hC dX11_next_114 ?_
                              refine pm_iload_n hC 3 dX11_next_115 rfl ?_
                              refine pm_iadd hC dX11_next_116 ?_
                              refine pm_iconst (v := 0) hC dX11_next_117 ?_
                              refine pm_callV (ci := 11) (as := [(0, (((a2 * 100) + (x201 * 10)) + x223)), (0, ((x244 * 10) + a3)), (0, 0)]) (st := []) hC 0 (fD_X11_pose_0 (((a2 * 100) + (x201 * 10)) + x223) ((x244 * 10) + a3) 0 ⟨by exact ow_79i_49 b194 c196 b202 b224, by exact ow_79i_50 b194 c196 b216 c217 c237⟩ ⟨by exact ow_79i_51 c9 b245, by exact ow_79i_52 c11 c258⟩ ⟨by decide, by decide⟩ (by omega)) lm_X11_229 li_X11_pose (by decide) (by decide) rfl rfl rfl (by decide) rfl rfl (Nat.le_of_ble_eq_true rfl) ⟨Nat.le_refl _, Or.inl rfl⟩ dX11_next_118 ⟨rfl, hV247⟩ (fun r261 V262 hp263 => ?_)
                              obtain ⟨rfl, hV264, hF265, hE266⟩ := hp263
                              replace hb253 := hb253.trans (pf_call_eq hE266)
                              change pm_J X 121 [(0, (3, 0)), (1, (0, a1)), (2, (0, a2)), (3, (0, a3)), (4, (0, a4)), (5, (0, 1)), (6, (0, x240)), (7, (0, x242)), (8, (0, x201)), (9, (0, x223)), (10, (0, x244))] [] 118 V262
                              have hF267 := pm_ff.tr hF248 hF265 (by decide) (by decide)
                              have e268 : V262 0 8 = 45 := by rw [hF265 0 8 (by decide) (by decide)]; exact e249
                              have e269 : V262 45 0 = y214 := by rw [hF265 45 0 (by decide) (by decide)]; exact e250
                              refine pm_aload_n hC 0 (by decide) dX11_next_121 rfl ?_
                              have e270 : V262 0 5 = 73 := hV264.one 0 5 (by decide) (by decide) rfl
                              refine pm_getf (v := 73) hC 0 fl_X11_75 rfl rfl (by decide) rfl e270 dX11_next_122 ?_
                              refine pm_iload_n hC 1 dX11_next_125 rfl ?_
                              refine pm_bipush (v := 10) hC dX11_next_126 (by decide) ?_
                              refine pm_idiv hC ⟨by exact ow_79i_27 b5 c7, by exact ow_79i_0 h0, by exact ow_79i_1 h0⟩ ⟨by decide, by decide, by decide⟩ dX11_next_128 ?_
                              refine pm_iload_n hC 1 dX11_next_129 rfl ?_
                              refine pm_bipush (v := 10) hC dX11_next_130 (by decide) ?_
                              refine pm_irem hC ⟨by exact ow_79i_27 b5 c7, by exact ow_79i_0 h0, by exact ow_79i_1 h0⟩ ⟨by decide, by decide, by decide⟩ dX11_next_132 ?_
                              refine pm_callV (ci := 10) (as := [(0, (a1 / 10)), (0, (a1 % 10))]) (st := []) hC 73 (fD_X10_partedBy_73 (a1 / 10) (a1 % 10) ⟨by exact ow_79i_28 h0, by exact ow_79i_29 h0⟩ ⟨by exact ow_79i_30, by exact ow_79i_31⟩) lm_X11_317 li_X10_partedBy (by decide) (by decide) rfl rfl rfl (by decide) rfl rfl (Nat.le_of_ble_eq_true rfl) ⟨Nat.le_refl _, Or.inl rfl⟩ dX11_next_133 ⟨rfl, hV264⟩ (fun r271 V272 hp273 => ?_)
                              obtain ⟨y274, rfl, b275, hV276, hF277, hE278⟩ := hp273
                              replace hb253 := hb253.trans (pf_call_eq hE278)
                              change pm_J X 136 [(0, (3, 0)), (1, (0, a1)), (2, (0, a2)), (3, (0, a3)), (4, (0, a4)), (5, (0, 1)), (6, (0, x240)), (7, (0, x242)), (8, (0, x201)), (9, (0, x223)), (10, (0, x244))] [(0, y274)] 118 V272
                              have hF279 := pm_ff.tr hF267 hF277 (by decide) (by decide)
                              have e280 : V272 0 8 = 45 := by rw [hF277 0 8 (by decide) (by decide)]; exact e268
                              have e281 : V272 45 0 = y214 := by rw [hF277 45 0 (by decide) (by decide)]; exact e269
                              have e282 : V272 0 5 = 73 := by rw [hF277 0 5 (by decide) (by decide)]; exact e270
                              refine pm_istore (lv' := [(11, (0, y274)), (0, (3, 0)), (1, (0, a1)), (2, (0, a2)), (3, (0, a3)), (4, (0, a4)), (5, (0, 1)), (6, (0, x240)), (7, (0, x242)), (8, (0, x201)), (9, (0, x223)), (10, (0, x244))]) hC dX11_next_136 (by decide) rfl ?_
                              refine pm_iload hC 0 dX11_next_138 rfl ?_
                              refine pm_iload hC 7 dX11_next_140 rfl ?_
                              refine pm_icmp_le (tgt := 165) hC ⟨by exact ow_79i_0 b275, by exact ow_79i_1 b275⟩ ⟨by exact ow_79i_53 b241, by exact ow_79i_44 b241⟩ dX11_next_142 (by decide) (fun c283 => ?_) (fun c283 => ?_)
                              · skip
                                replace hb253 := hb253.trans (if_pos c283)
                                obtain ⟨x284, ei285⟩ : ∃ y : Int, x244 + 1 = y := ⟨_, rfl⟩
                                replace hb253 := hb253.trans (pf_let_eq ei285)
                                refine pm_iinc (y := x284) (lv' := [(10, (0, x284)), (11, (0, y274)), (0, (3, 0)), (1, (0, a1)), (2, (0, a2)), (3, (0, a3)), (4, (0, a4)), (5, (0, 1)), (6, (0, x240)), (7, (0, x242)), (8, (0, x201)), (9, (0, x223))]) hC 11 dX11_next_165 (by decide) rfl ei285 rfl ?_
                                refine pm_goto (tgt := 89) hC dX11_next_168 (by decide) ?_
                                refine pm_lvsub [2, 3, 4, 5, 6, 7, 8, 9, 10, 11, 0] (lv' := [(0, (3, 0)), (1, (0, a1)), (2, (0, a2)), (3, (0, a3)), (4, (0, a4)), (5, (0, 1)), (6, (0, x240)), (7, (0, x242)), (8, (0, x201)), (9, (0, x223)), (10, (0, x284))]) rfl ?_
                                exact ih257 _ (by exact ow_79i_54 hm255 c258 ei285) x240 x242 x284 V272 ⟨by exact ow_79i_43 b241, by exact ow_79i_44 b241⟩ ⟨by exact ow_79i_41 b243, by exact ow_79i_45 b243⟩ ⟨by exact ow_79i_55 b245 ei285, by exact ow_79i_56 c258 ei285⟩ hV276 hF279 e280 e281 (hb232.trans (pf_val_inl hb253)) rfl
                              · skip
                                replace hb253 := hb253.trans (if_neg (Int.not_le.mpr c283))
                                refine pm_iload hC 0 dX11_next_145 rfl ?_
                                refine pm_istore (lv' := [(6, (0, y274)), (11, (0, y274)), (0, (3, 0)), (1, (0, a1)), (2, (0, a2)), (3, (0, a3)), (4, (0, a4)), (5, (0, 1)), (7, (0, x242)), (8, (0, x201)), (9, (0, x223)), (10, (0, x244))]) hC dX11_next_147 (by decide) rfl ?_
                                refine pm_iload hC 9 dX11_next_149 rfl ?_
                                refine pm_bipush (v := 100) hC dX11_next_151 (by decide) ?_
                                refine pm_imul hC dX11_next_153 ?_
                                refine pm_iload hC 10 dX11_next_154 rfl ?_
                                refine pm_bipush (v := 10) hC dX11_next_156 (by decide) ?_
                                refine pm_imul hC dX11_next_158 ?_
                                refine pm_iadd hC dX11_next_159 ?_
                                refine pm_iload hC 11 dX11_next_160 rfl ?_
                                refine pm_iadd hC dX11_next_162 ?_
                                refine pm_istore (lv' := [(7, (0, (((x201 * 100) + (x223 * 10)) + x244))), (6, (0, y274)), (11, (0, y274)), (0, (3, 0)), (1, (0, a1)), (2, (0, a2)), (3, (0, a3)), (4, (0, a4)), (5, (0, 1)), (8, (0, x201)), (9, (0, x223)), (10, (0, x244))]) hC dX11_next_163 (by decide) rfl ?_
                                obtain ⟨x286, ei287⟩ : ∃ y : Int, x244 + 1 = y := ⟨_, rfl⟩
                                replace hb253 := hb253.trans (pf_let_eq ei287)
                                refine pm_iinc (y := x286) (lv' := [(10, (0, x286)), (7, (0, (((x201 * 100) + (x223 * 10)) + x244))), (6, (0, y274)), (11, (0, y274)), (0, (3, 0)), (1, (0, a1)), (2, (0, a2)), (3, (0, a3)), (4, (0, a4)), (5, (0, 1)), (8, (0, x201)), (9, (0, x223))]) hC 11 dX11_next_165 (by decide) rfl ei287 rfl ?_
                                refine pm_goto (tgt := 89) hC dX11_next_168 (by decide) ?_
                                refine pm_lvsub [4, 5, 6, 7, 8, 9, 2, 1, 10, 11, 0] (lv' := [(0, (3, 0)), (1, (0, a1)), (2, (0, a2)), (3, (0, a3)), (4, (0, a4)), (5, (0, 1)), (6, (0, y274)), (7, (0, (((x201 * 100) + (x223 * 10)) + x244))), (8, (0, x201)), (9, (0, x223)), (10, (0, x286))]) rfl ?_
                                exact ih257 _ (by exact ow_79i_54 hm255 c258 ei287) y274 (((x201 * 100) + (x223 * 10)) + x244) x286 V272 ⟨by exact ow_79i_57 b241 c283, by exact ow_79i_1 b275⟩ ⟨by exact ow_79i_58 b202 b224 b245, by exact ow_79i_59 b216 c217 c237 c258⟩ ⟨by exact ow_79i_55 b245 ei287, by exact ow_79i_56 c258 ei287⟩ hV276 hF279 e280 e281 (hb232.trans (pf_val_inl hb253)) rfl
                          refine pm_lvsub [1, 2, 3, 4, 5, 6, 7, 8, 9, 10, 0] (lv' := [(0, (3, 0)), (1, (0, a1)), (2, (0, a2)), (3, (0, a3)), (4, (0, a4)), (5, (0, 1)), (6, (0, x219)), (7, (0, x221)), (8, (0, x201)), (9, (0, x223)), (10, (0, 0))]) rfl ?_
                          exact L254 _ x219 x221 0 V225 ⟨by exact ow_79i_43 b220, by exact ow_79i_44 b220⟩ ⟨by exact ow_79i_41 b222, by exact ow_79i_45 b222⟩ ⟨by decide, by decide⟩ hV226 hF227 e228 e229 hb232 rfl
                      refine pm_lvsub [1, 2, 3, 4, 5, 6, 7, 8, 9, 0] (lv' := [(0, (3, 0)), (1, (0, a1)), (2, (0, a2)), (3, (0, a3)), (4, (0, a4)), (5, (0, 1)), (6, (0, x197)), (7, (0, x199)), (8, (0, x201)), (9, (0, 0))]) rfl ?_
                      exact L233 _ x197 x199 0 V203 ⟨by exact ow_79i_43 b198, by exact ow_79i_44 b198⟩ ⟨by exact ow_79i_41 b200, by exact ow_79i_45 b200⟩ ⟨by decide, by decide⟩ hV204 hF205 e213 e215 hb208 rfl
                  · skip
                    replace hb208 := hb208.trans (if_neg (by rw [e213]; decide))
                    refine pm_getf (v := 51) hC 0 fl_X11_35 rfl rfl (by decide) rfl e213 dX11_next_62 ?_
                    obtain ⟨y288, e289⟩ : ∃ y, V203 51 0 = y := ⟨_, rfl⟩
                    have b290 := hV204.get 51 0 (lo := 0) (hi := 9) (by decide) (by decide) rfl
                    rw [e289] at b290
                    replace hb208 := hb208.trans (pf_let_eq e289)
                    refine pm_getf (v := y288) hC 51 fl_X11_136 rfl rfl (by decide) rfl e289 dX11_next_65 ?_
                    refine pm_icmp_ge (tgt := 183) hC ⟨by exact ow_79i_3 b202, by exact ow_79i_4 b202⟩ ⟨by exact ow_79i_3 b290, by exact ow_79i_4 b290⟩ dX11_next_68 (by decide) (fun c291 => ?_) (fun c291 => ?_)
                    · skip
                      replace hb208 := hb208.trans (if_pos c291)
                      refine pm_iload hC 4 dX11_next_183 rfl ?_
                      refine pm_if_ne (tgt := 193) hC ⟨by exact ow_79i_60 c187, by exact ow_79i_61 c187⟩ dX11_next_185 (by decide) (fun c292 => ?_) (fun c292 => ?_)
                      · skip
                        replace hb208 := hb208.trans (if_pos c292)
                        refine pm_iload hC 6 dX11_next_193 rfl ?_
                        replace hT := hT.trans (pf_val_inr hb208)
                        exact pm_iret hC hR pm_nar0 ⟨x197, rfl, ⟨by exact ow_79i_43 b198, by exact ow_79i_44 b198⟩, hV204, hF205, hT⟩ dX11_next_195
                      · skip
                        replace hb208 := hb208.trans (if_neg (fun q => q c292))
                        exfalso; exact ow_79i_62 c187 c292
                    · skip
                      replace hb208 := hb208.trans (if_neg (Int.not_le.mpr c291))
                      refine pm_iconst (v := 0) hC dX11_next_71 ?_
                      refine pm_istore (lv' := [(9, (0, 0)), (0, (3, 0)), (1, (0, a1)), (2, (0, a2)), (3, (0, a3)), (4, (0, a4)), (5, (0, 1)), (6, (0, x197)), (7, (0, x199)), (8, (0, x201))]) hC dX11_next_72 (by decide) rfl ?_
                      obtain ⟨B304, hB305, hb208⟩ := pf_loop hb208
                      have L307 : ∀ (N309 : Nat) (x293 : Int) (x295 : Int) (x297 : Int) (V299 : pm_M), ((-1) ≤ x293 ∧ x293 ≤ 2147483647) → ((-1) ≤ x295 ∧ x295 ≤ 1000) → (0 ≤ x297 ∧ x297 ≤ 9) → pm_ok 0 90 V299 → pm_ff [74, 75, 76, 77] [(73, 0), (73, 1), (73, 2), (73, 3), (73, 4), (73, 5), (73, 6), (73, 7), (73, 10), (73, 11), (73, 12), (73, 13), (73, 14), (73, 15)] V0 V299 → V299 0 8 = 51 → V299 51 0 = y288 → B206 (x197, x199, x201, V203) = pf_val (.inr ((0 : Int), V0)) B304 (x293, x295, x297, V299) → (Int.toNat (9 - x297)) = N309 → pm_J X 74 [(0, (3, 0)), (1, (0, a1)), (2, (0, a2)), (3, (0, a3)), (4, (0, a4)), (5, (0, 1)), (6, (0, x293)), (7, (0, x295)), (8, (0, x201)), (9, (0, x297))] [] 118 V299 := by
                        intro N309
                        induction N309 using Nat.strongRecOn with
                        | _ N309 ih310 =>
                        intro x293 x295 x297 V299 b294 b296 b298 hV300 hF301 e302 e303 hb208 hm308
                        have hb306 := congrFun hB305 (x293, x295, x297, V299)
                        refine pm_iload hC 9 dX11_next_74 rfl ?_
                        refine pm_aload_n hC 0 (by decide) dX11_next_76 rfl ?_
                        refine pm_getf (v := 51) hC 0 fl_X11_35 rfl rfl (by decide) rfl e302 dX11_next_77 ?_
                        refine pm_getf (v := y288) hC 51 fl_X11_136 rfl rfl (by decide) rfl e303 dX11_next_80 ?_
                        refine pm_icmp_ge (tgt := 177) hC ⟨by exact ow_79i_3 b298, by exact ow_79i_4 b298⟩ ⟨by exact ow_79i_3 b290, by exact ow_79i_4 b290⟩ dX11_next_83 (by decide) (fun c311 => ?_) (fun c311 => ?_)
                        · skip
                          replace hb306 := hb306.trans (if_pos c311)
                          obtain ⟨x312, ei313⟩ : ∃ y : Int, x201 + 1 = y := ⟨_, rfl⟩
                          replace hb306 := hb306.trans (pf_let_eq ei313)
                          refine pm_iinc (y := x312) (lv' := [(8, (0, x312)), (0, (3, 0)), (1, (0, a1)), (2, (0, a2)), (3, (0, a3)), (4, (0, a4)), (5, (0, 1)), (6, (0, x293)), (7, (0, x295)), (9, (0, x297))]) hC 8 dX11_next_177 (by decide) rfl ei313 rfl ?_
                          refine pm_goto (tgt := 59) hC dX11_next_180 (by decide) ?_
                          replace hb208 := hb208.trans (pf_val_inr hb306)
                          refine pm_lvsub [1, 2, 3, 4, 5, 6, 7, 8, 0] (lv' := [(0, (3, 0)), (1, (0, a1)), (2, (0, a2)), (3, (0, a3)), (4, (0, a4)), (5, (0, 1)), (6, (0, x293)), (7, (0, x295)), (8, (0, x312))]) rfl ?_
                          exact ih212 _ (by exact ow_79i_10 hm210 b290 c291 ei313) x293 x295 x312 V299 ⟨by exact ow_79i_43 b294, by exact ow_79i_44 b294⟩ ⟨by exact ow_79i_41 b296, by exact ow_79i_45 b296⟩ ⟨by exact ow_79i_11 b202 ei313, by exact ow_79i_12 b290 c291 ei313⟩ hV300 hF301 (hT.trans (pf_val_inl hb208)) rfl
                        · skip
                          replace hb306 := hb306.trans (if_neg (Int.not_le.mpr c311))
                          refine pm_iconst (v := 0) hC dX11_next_86 ?_
                          refine pm_istore (lv' := [(10, (0, 0)), (0, (3, 0)), (1, (0, a1)), (2, (0, a2)), (3, (0, a3)), (4, (0, a4)), (5, (0, 1)), (6, (0, x293)), (7, (0, x295)), (8, (0, x201)), (9, (0, x297))]) hC dX11_next_87 (by decide) rfl ?_
                          obtain ⟨B325, hB326, hb306⟩ := pf_loop hb306
                          have L328 : ∀ (N330 : Nat) (x314 : Int) (x316 : Int) (x318 : Int) (V320 : pm_M), ((-1) ≤ x314 ∧ x314 ≤ 2147483647) → ((-1) ≤ x316 ∧ x316 ≤ 1000) → (0 ≤ x318 ∧ x318 ≤ 16) → pm_ok 0 90 V320 → pm_ff [74, 75, 76, 77] [(73, 0), (73, 1), (73, 2), (73, 3), (73, 4), (73, 5), (73, 6), (73, 7), (73, 10), (73, 11), (73, 12), (73, 13), (73, 14), (73, 15)] V0 V320 → V320 0 8 = 51 → V320 51 0 = y288 → B304 (x293, x295, x297, V299) = pf_val (.inr (.inr ((0 : Int), V0))) B325 (x314, x316, x318, V320) → (Int.toNat (16 - x318)) = N330 → pm_J X 89 [(0, (3, 0)), (1, (0, a1)), (2, (0, a2)), (3, (0, a3)), (4, (0, a4)), (5, (0, 1)), (6, (0, x314)), (7, (0, x316)), (8, (0, x201)), (9, (0, x297)), (10, (0, x318))] [] 118 V320 := by
                            intro N330
                            induction N330 using Nat.strongRecOn with
                            | _ N330 ih331 =>
                            intro x314 x316 x318 V320 b315 b317 b319 hV321 hF322 e323 e324 hb306 hm329
                            have hb327 := congrFun hB326 (x314, x316, x318, V320)
                            refine pm_iload hC 10 dX11_next_89 rfl ?_
                            refine pm_bipush (v := 10) hC dX11_next_91 (by decide) ?_
                            refine pm_icmp_ge (tgt := 171) hC ⟨by exact ow_79i_46 b319, by exact ow_79i_47 b319⟩ ⟨by decide, by decide⟩ dX11_next_93 (by decide) (fun c332 => ?_) (fun c332 => ?_)
                            · skip
                              replace hb327 := hb327.trans (if_pos c332)
                              obtain ⟨x333, ei334⟩ : ∃ y : Int, x297 + 1 = y := ⟨_, rfl⟩
                              replace hb327 := hb327.trans (pf_let_eq ei334)
                              refine pm_iinc (y := x333) (lv' := [(9, (0, x333)), (0, (3, 0)), (1, (0, a1)), (2, (0, a2)), (3, (0, a3)), (4, (0, a4)), (5, (0, 1)), (6, (0, x314)), (7, (0, x316)), (8, (0, x201)), (10, (0, x318))]) hC 9 dX11_next_171 (by decide) rfl ei334 rfl ?_
                              refine pm_goto (tgt := 74) hC dX11_next_174 (by decide) ?_
                              replace hb306 := hb306.trans (pf_val_inr hb327)
                              refine pm_lvsub [1, 2, 3, 4, 5, 6, 7, 8, 9, 0] (lv' := [(0, (3, 0)), (1, (0, a1)), (2, (0, a2)), (3, (0, a3)), (4, (0, a4)), (5, (0, 1)), (6, (0, x314)), (7, (0, x316)), (8, (0, x201)), (9, (0, x333))]) rfl ?_
                              exact ih310 _ (by exact ow_79i_48 b290 hm308 c311 ei334) x314 x316 x333 V320 ⟨by exact ow_79i_43 b315, by exact ow_79i_44 b315⟩ ⟨by exact ow_79i_41 b317, by exact ow_79i_45 b317⟩ ⟨by exact ow_79i_11 b298 ei334, by exact ow_79i_12 b290 c311 ei334⟩ hV321 hF322 e323 e324 (hb208.trans (pf_val_inl hb306)) rfl
                            · skip
                              replace hb327 := hb327.trans (if_neg (Int.not_le.mpr c332))
                              refine pm_aload_n hC 0 (by decide) dX11_next_96 rfl ?_
                              refine pm_iload_n hC 2 dX11_next_97 rfl ?_
                              refine pm_bipush (v := 100) hC dX11_next_98 (by decide) ?_
                              refine pm_imul hC dX11_next_100 ?_
                              refine pm_iload hC 8 dX11_next_101 rfl ?_
                              refine pm_bipush (v := 10) hC dX11_next_103 (by decide) ?_
                              refine pm_imul hC dX11_next_105 ?_
                              refine pm_iadd hC dX11_next_106 ?_
                              refine pm_iload hC 9 dX11_next_107 rfl ?_
                              refine pm_iadd hC dX11_next_109 ?_
                              refine pm_iload hC 10 dX11_next_110 rfl ?_
                              refine pm_bipush (v := 10) hC dX11_next_112 (by decide) ?_
                              refine pm_imul hC dX11_next_114 ?_
                              refine pm_iload_n hC 3 dX11_next_115 rfl ?_
                              refine pm_iadd hC dX11_next_116 ?_
                              refine pm_iconst (v := 0) hC dX11_next_117 ?_
                              refine pm_callV (ci := 11) (as := [(0, (((a2 * 100) + (x201 * 10)) + x297)), (0, ((x318 * 10) + a3)), (0, 0)]) (st := []) hC 0 (fD_X11_pose_0 (((a2 * 100) + (x201 * 10)) + x297) ((x318 * 10) + a3) 0 ⟨by exact ow_79i_49 b194 c196 b202 b298, by exact ow_79i_50 b194 c196 b290 c291 c311⟩ ⟨by exact ow_79i_51 c9 b319, by exact ow_79i_52 c11 c332⟩ ⟨by decide, by decide⟩ (by omega)) lm_X11_229 li_X11_pose (by decide) (by decide) rfl rfl rfl (by decide) rfl rfl (Nat.le_of_ble_eq_true rfl) ⟨Nat.le_refl _, Or.inl rfl⟩ dX11_next_118 ⟨rfl, hV321⟩ (fun r335 V336 hp337 => ?_)
                              obtain ⟨rfl, hV338, hF339, hE340⟩ := hp337
                              replace hb327 := hb327.trans (pf_call_eq hE340)
                              change pm_J X 121 [(0, (3, 0)), (1, (0, a1)), (2, (0, a2)), (3, (0, a3)), (4, (0, a4)), (5, (0, 1)), (6, (0, x314)), (7, (0, x316)), (8, (0, x201)), (9, (0, x297)), (10, (0, x318))] [] 118 V336
                              have hF341 := pm_ff.tr hF322 hF339 (by decide) (by decide)
                              have e342 : V336 0 8 = 51 := by rw [hF339 0 8 (by decide) (by decide)]; exact e323
                              have e343 : V336 51 0 = y288 := by rw [hF339 51 0 (by decide) (by decide)]; exact e324
                              refine pm_aload_n hC 0 (by decide) dX11_next_121 rfl ?_
                              have e344 : V336 0 5 = 73 := hV338.one 0 5 (by decide) (by decide) rfl
                              refine pm_getf (v := 73) hC 0 fl_X11_75 rfl rfl (by decide) rfl e344 dX11_next_122 ?_
                              refine pm_iload_n hC 1 dX11_next_125 rfl ?_
                              refine pm_bipush (v := 10) hC dX11_next_126 (by decide) ?_
                              refine pm_idiv hC ⟨by exact ow_79i_27 b5 c7, by exact ow_79i_0 h0, by exact ow_79i_1 h0⟩ ⟨by decide, by decide, by decide⟩ dX11_next_128 ?_
                              refine pm_iload_n hC 1 dX11_next_129 rfl ?_
                              refine pm_bipush (v := 10) hC dX11_next_130 (by decide) ?_
                              refine pm_irem hC ⟨by exact ow_79i_27 b5 c7, by exact ow_79i_0 h0, by exact ow_79i_1 h0⟩ ⟨by decide, by decide, by decide⟩ dX11_next_132 ?_
                              refine pm_callV (ci := 10) (as := [(0, (a1 / 10)), (0, (a1 % 10))]) (st := []) hC 73 (fD_X10_partedBy_73 (a1 / 10) (a1 % 10) ⟨by exact ow_79i_28 h0, by exact ow_79i_29 h0⟩ ⟨by exact ow_79i_30, by exact ow_79i_31⟩) lm_X11_317 li_X10_partedBy (by decide) (by decide) rfl rfl rfl (by decide) rfl rfl (Nat.le_of_ble_eq_true rfl) ⟨Nat.le_refl _, Or.inl rfl⟩ dX11_next_133 ⟨rfl, hV338⟩ (fun r345 V346 hp347 => ?_)
                              obtain ⟨y348, rfl, b349, hV350, hF351, hE352⟩ := hp347
                              replace hb327 := hb327.trans (pf_call_eq hE352)
                              change pm_J X 136 [(0, (3, 0)), (1, (0, a1)), (2, (0, a2)), (3, (0, a3)), (4, (0, a4)), (5, (0, 1)), (6, (0, x314)), (7, (0, x316)), (8, (0, x201)), (9, (0, x297)), (10, (0, x318))] [(0, y348)] 118 V346
                              have hF353 := pm_ff.tr hF341 hF351 (by decide) (by decide)
                              have e354 : V346 0 8 = 51 := by rw [hF351 0 8 (by decide) (by decide)]; exact e342
                              have e355 : V346 51 0 = y288 := by rw [hF351 51 0 (by decide) (by decide)]; exact e343
                              have e356 : V346 0 5 = 73 := by rw [hF351 0 5 (by decide) (by decide)]; exact e344
                              refine pm_istore (lv' := [(11, (0, y348)), (0, (3, 0)), (1, (0, a1)), (2, (0, a2)), (3, (0, a3)), (4, (0, a4)), (5, (0, 1)), (6, (0, x314)), (7, (0, x316)), (8, (0, x201)), (9, (0, x297)), (10, (0, x318))]) hC dX11_next_136 (by decide) rfl ?_
                              refine pm_iload hC 0 dX11_next_138 rfl ?_
                              refine pm_iload hC 7 dX11_next_140 rfl ?_
                              refine pm_icmp_le (tgt := 165) hC ⟨by exact ow_79i_0 b349, by exact ow_79i_1 b349⟩ ⟨by exact ow_79i_53 b315, by exact ow_79i_44 b315⟩ dX11_next_142 (by decide) (fun c357 => ?_) (fun c357 => ?_)
                              · skip
                                replace hb327 := hb327.trans (if_pos c357)
                                obtain ⟨x358, ei359⟩ : ∃ y : Int, x318 + 1 = y := ⟨_, rfl⟩
                                replace hb327 := hb327.trans (pf_let_eq ei359)
                                refine pm_iinc (y := x358) (lv' := [(10, (0, x358)), (11, (0, y348)), (0, (3, 0)), (1, (0, a1)), (2, (0, a2)), (3, (0, a3)), (4, (0, a4)), (5, (0, 1)), (6, (0, x314)), (7, (0, x316)), (8, (0, x201)), (9, (0, x297))]) hC 11 dX11_next_165 (by decide) rfl ei359 rfl ?_
                                refine pm_goto (tgt := 89) hC dX11_next_168 (by decide) ?_
                                refine pm_lvsub [2, 3, 4, 5, 6, 7, 8, 9, 10, 11, 0] (lv' := [(0, (3, 0)), (1, (0, a1)), (2, (0, a2)), (3, (0, a3)), (4, (0, a4)), (5, (0, 1)), (6, (0, x314)), (7, (0, x316)), (8, (0, x201)), (9, (0, x297)), (10, (0, x358))]) rfl ?_
                                exact ih331 _ (by exact ow_79i_54 hm329 c332 ei359) x314 x316 x358 V346 ⟨by exact ow_79i_43 b315, by exact ow_79i_44 b315⟩ ⟨by exact ow_79i_41 b317, by exact ow_79i_45 b317⟩ ⟨by exact ow_79i_55 b319 ei359, by exact ow_79i_56 c332 ei359⟩ hV350 hF353 e354 e355 (hb306.trans (pf_val_inl hb327)) rfl
                              · skip
                                replace hb327 := hb327.trans (if_neg (Int.not_le.mpr c357))
                                refine pm_iload hC 0 dX11_next_145 rfl ?_
                                refine pm_istore (lv' := [(6, (0, y348)), (11, (0, y348)), (0, (3, 0)), (1, (0, a1)), (2, (0, a2)), (3, (0, a3)), (4, (0, a4)), (5, (0, 1)), (7, (0, x316)), (8, (0, x201)), (9, (0, x297)), (10, (0, x318))]) hC dX11_next_147 (by decide) rfl ?_
                                refine pm_iload hC 9 dX11_next_149 rfl ?_
                                refine pm_bipush (v := 100) hC dX11_next_151 (by decide) ?_
                                refine pm_imul hC dX11_next_153 ?_
                                refine pm_iload hC 10 dX11_next_154 rfl ?_
                                refine pm_bipush (v := 10) hC dX11_next_156 (by decide) ?_
                                refine pm_imul hC dX11_next_158 ?_
                                refine pm_iadd hC dX11_next_159 ?_
                                refine pm_iload hC 11 dX11_next_160 rfl ?_
                                refine pm_iadd hC dX11_next_162 ?_
                                refine pm_istore (lv' := [(7, (0, (((x201 * 100) + (x297 * 10)) + x318))), (6, (0, y348)), (11, (0, y348)), (0, (3, 0)), (1, (0, a1)), (2, (0, a2)), (3, (0, a3)), (4, (0, a4)), (5, (0, 1)), (8, (0, x201)), (9, (0, x297)), (10, (0, x318))]) hC dX11_next_163 (by decide) rfl ?_
                                obtain ⟨x360, ei361⟩ : ∃ y : Int, x318 + 1 = y := ⟨_, rfl⟩
                                replace hb327 := hb327.trans (pf_let_eq ei361)
                                refine pm_iinc (y := x360) (lv' := [(10, (0, x360)), (7, (0, (((x201 * 100) + (x297 * 10)) + x318))), (6, (0, y348)), (11, (0, y348)), (0, (3, 0)), (1, (0, a1)), (2, (0, a2)), (3, (0, a3)), (4, (0, a4)), (5, (0, 1)), (8, (0, x201)), (9, (0, x297))]) hC 11 dX11_next_165 (by decide) rfl ei361 rfl ?_
                                refine pm_goto (tgt := 89) hC dX11_next_168 (by decide) ?_
                                refine pm_lvsub [4, 5, 6, 7, 8, 9, 2, 1, 10, 11, 0] (lv' := [(0, (3, 0)), (1, (0, a1)), (2, (0, a2)), (3, (0, a3)), (4, (0, a4)), (5, (0, 1)), (6, (0, y348)), (7, (0, (((x201 * 100) + (x297 * 10)) + x318))), (8, (0, x201)), (9, (0, x297)), (10, (0, x360))]) rfl ?_
                                exact ih331 _ (by exact ow_79i_54 hm329 c332 ei361) y348 (((x201 * 100) + (x297 * 10)) + x318) x360 V346 ⟨by exact ow_79i_57 b315 c357, by exact ow_79i_1 b349⟩ ⟨by exact ow_79i_58 b202 b298 b319, by exact ow_79i_59 b290 c291 c311 c332⟩ ⟨by exact ow_79i_55 b319 ei361, by exact ow_79i_56 c332 ei361⟩ hV350 hF353 e354 e355 (hb306.trans (pf_val_inl hb327)) rfl
                          refine pm_lvsub [1, 2, 3, 4, 5, 6, 7, 8, 9, 10, 0] (lv' := [(0, (3, 0)), (1, (0, a1)), (2, (0, a2)), (3, (0, a3)), (4, (0, a4)), (5, (0, 1)), (6, (0, x293)), (7, (0, x295)), (8, (0, x201)), (9, (0, x297)), (10, (0, 0))]) rfl ?_
                          exact L328 _ x293 x295 0 V299 ⟨by exact ow_79i_43 b294, by exact ow_79i_44 b294⟩ ⟨by exact ow_79i_41 b296, by exact ow_79i_45 b296⟩ ⟨by decide, by decide⟩ hV300 hF301 e302 e303 hb306 rfl
                      refine pm_lvsub [1, 2, 3, 4, 5, 6, 7, 8, 9, 0] (lv' := [(0, (3, 0)), (1, (0, a1)), (2, (0, a2)), (3, (0, a3)), (4, (0, a4)), (5, (0, 1)), (6, (0, x197)), (7, (0, x199)), (8, (0, x201)), (9, (0, 0))]) rfl ?_
                      exact L307 _ x197 x199 0 V203 ⟨by exact ow_79i_43 b198, by exact ow_79i_44 b198⟩ ⟨by exact ow_79i_41 b200, by exact ow_79i_45 b200⟩ ⟨by decide, by decide⟩ hV204 hF205 e213 e289 hb208 rfl
                refine pm_lvsub [4, 5, 6, 7, 8, 3, 2, 1, 0] (lv' := [(0, (3, 0)), (1, (0, a1)), (2, (0, a2)), (3, (0, a3)), (4, (0, a4)), (5, (0, 1)), (6, (0, (-1))), (7, (0, (-1))), (8, (0, 0))]) rfl ?_
                exact L209 _ (-1) (-1) 0 V0 ⟨by decide, by decide⟩ ⟨by decide, by decide⟩ ⟨by decide, by decide⟩ hV0 (pm_ff.rf (cs := [74, 75, 76, 77]) (fs := [(73, 0), (73, 1), (73, 2), (73, 3), (73, 4), (73, 5), (73, 6), (73, 7), (73, 10), (73, 11), (73, 12), (73, 13), (73, 14), (73, 15)]) (V := V0)) hT rfl
              · skip
                replace hT := hT.trans (if_neg (fun q => q c196))
                refine pm_iconst (v := (-1)) hC dX11_next_48 ?_
                exact pm_iret hC hR pm_nar0 ⟨(-1), rfl, ⟨by exact ow_79i_32, by exact ow_79i_17⟩, hV0, (pm_ff.rf (cs := [74, 75, 76, 77]) (fs := [(73, 0), (73, 1), (73, 2), (73, 3), (73, 4), (73, 5), (73, 6), (73, 7), (73, 10), (73, 11), (73, 12), (73, 13), (73, 14), (73, 15)]) (V := V0)), hT⟩ dX11_next_49
set_option maxHeartbeats 4000000 in
set_option maxRecDepth 100000 in
theorem fD_X11_knowing_0 (a1 a2 a3 a4 : Int) (h0 : (-2147483648) ≤ a1 ∧ a1 ≤ 2147483647) (h1 : (-2147483648) ≤ a2 ∧ a2 ≤ 2147483647) (h2 : (-2147483648) ≤ a3 ∧ a3 ≤ 2147483647) (h3 : (-2147483648) ≤ a4 ∧ a4 ≤ 2147483647) : pm_K 6 yX11_knowing cX11_knowing 6 (some .int) (fun av V => av = [(3, 0), (0, a1), (0, a2), (0, a3), (0, a4)] ∧ pm_ok 0 90 V) (fun _ V r V' => ∃ y, r = some (0, y) ∧ ((-1) ≤ y ∧ y ≤ 1) ∧ pm_ok 0 90 V' ∧ pm_ff [74, 75, 76, 77] [(73, 0), (73, 1), (73, 2), (73, 3), (73, 4), (73, 5), (73, 6), (73, 7), (73, 10), (73, 11), (73, 12), (73, 14)] V V' ∧ F_X11_knowing a1 a2 a3 a4 V = (y, V')) := by
  refine pm_MT.of (by decide) ⟨Nat.le_refl _, by decide⟩ (fun av V h => by rw [h.1]; exact (by decide : pm_words [(3, 0), (0, 0), (0, 0), (0, 0), (0, 0)] ≤ 6)) ?_
  rintro X av V0 hC - hR ⟨rfl, hV0⟩
  change pm_J X 0 [(0, (3, 0)), (1, (0, a1)), (2, (0, a2)), (3, (0, a3)), (4, (0, a4))] [] 118 V0
  have hT := F_X11_knowing_eq a1 a2 a3 a4 V0
  refine pm_aload_n hC 0 (by decide) dX11_knowing_0 rfl ?_
  refine pm_iload_n hC 1 dX11_knowing_1 rfl ?_
  refine pm_iload_n hC 2 dX11_knowing_2 rfl ?_
  refine pm_iload_n hC 3 dX11_knowing_3 rfl ?_
  refine pm_iload hC 4 dX11_knowing_4 rfl ?_
  refine pm_callV (ci := 11) (as := [(0, a1), (0, a2), (0, a3), (0, a4)]) (st := []) hC 0 (fD_X11_weighs_0 a1 a2 a3 a4 ⟨by exact ow_79i_0 h0, by exact ow_79i_1 h0⟩ ⟨by exact ow_79i_0 h1, by exact ow_79i_1 h1⟩ ⟨by exact ow_79i_0 h2, by exact ow_79i_1 h2⟩ ⟨by exact ow_79i_0 h3, by exact ow_79i_1 h3⟩) lm_X11_201 li_X11_weighs (by decide) (by decide) rfl rfl rfl (by decide) rfl rfl (Nat.le_of_ble_eq_true rfl) ⟨Nat.le_refl _, Or.inl rfl⟩ dX11_knowing_6 ⟨rfl, hV0⟩ (fun r1 V2 hp3 => ?_)
  obtain ⟨y4, rfl, b5, hV6, hF7, hE8⟩ := hp3
  replace hT := hT.trans (pf_call_eq hE8)
  change pm_J X 9 [(0, (3, 0)), (1, (0, a1)), (2, (0, a2)), (3, (0, a3)), (4, (0, a4))] [(0, y4)] 118 V2
  have hF9 := pm_ff.tr (pm_ff.rf (cs := [74, 75, 76, 77]) (fs := [(73, 0), (73, 1), (73, 2), (73, 3), (73, 4), (73, 5), (73, 6), (73, 7), (73, 10), (73, 11), (73, 12), (73, 14)]) (V := V0)) hF7 (by decide) (by decide)
  refine pm_if_ne (tgt := 14) hC ⟨by exact ow_79i_63 b5, by exact ow_79i_64 b5⟩ dX11_knowing_9 (by decide) (fun c10 => ?_) (fun c10 => ?_)
  · skip
    replace hT := hT.trans (if_pos c10)
    refine pm_aload_n hC 0 (by decide) dX11_knowing_14 rfl ?_
    have e11 : V2 0 5 = 73 := hV6.one 0 5 (by decide) (by decide) rfl
    refine pm_getf (v := 73) hC 0 fl_X11_75 rfl rfl (by decide) rfl e11 dX11_knowing_15 ?_
    refine pm_callV (ci := 10) (as := []) (st := []) hC 73 fD_X10_mostLikely_73 lm_X11_221 li_X10_mostLikely (by decide) (by decide) rfl rfl rfl (by decide) rfl rfl (Nat.le_of_ble_eq_true rfl) ⟨Nat.le_refl _, Or.inl rfl⟩ dX11_knowing_18 ⟨rfl, hV6⟩ (fun r12 V13 hp14 => ?_)
    obtain ⟨y15, rfl, b16, rfl, hE17⟩ := hp14
    replace hT := hT.trans (pf_call_eq hE17)
    change pm_J X 21 [(0, (3, 0)), (1, (0, a1)), (2, (0, a2)), (3, (0, a3)), (4, (0, a4))] [(0, y15)] 118 V2
    refine pm_istore (lv' := [(5, (0, y15)), (0, (3, 0)), (1, (0, a1)), (2, (0, a2)), (3, (0, a3)), (4, (0, a4))]) hC dX11_knowing_21 (by decide) rfl ?_
    refine pm_aload_n hC 1 (by decide) dX11_knowing_23 rfl ?_
    refine pm_getf (v := 73) hC 0 fl_X11_75 rfl rfl (by decide) rfl e11 dX11_knowing_24 ?_
    refine pm_iconst (v := 0) hC dX11_knowing_27 ?_
    refine pm_iload hC 5 dX11_knowing_28 rfl ?_
    refine pm_callV (ci := 10) (as := [(0, 0), (0, a4)]) (st := []) hC 73 (fD_X10_trustAt_73 0 a4 ⟨by decide, by decide⟩ ⟨by exact ow_79i_65 b5 c10, by exact ow_79i_66 b5 c10⟩) lm_X11_306 li_X10_trustAt (by decide) (by decide) rfl rfl rfl (by decide) rfl rfl (Nat.le_of_ble_eq_true rfl) ⟨Nat.le_refl _, Or.inl rfl⟩ dX11_knowing_30 ⟨rfl, hV6⟩ (fun r18 V19 hp20 => ?_)
    obtain ⟨rfl, hV21, hF22, hE23⟩ := hp20
    replace hT := hT.trans (pf_call_eq hE23)
    change pm_J X 33 [(5, (0, y15)), (0, (3, 0)), (1, (0, a1)), (2, (0, a2)), (3, (0, a3)), (4, (0, a4))] [] 118 V19
    have hF24 := pm_ff.tr hF9 hF22 (by decide) (by decide)
    have e25 : V19 0 5 = 73 := by rw [hF22 0 5 (by decide) (by decide)]; exact e11
    refine pm_aload_n hC 1 (by decide) dX11_knowing_33 rfl ?_
    refine pm_getf (v := 73) hC 0 fl_X11_75 rfl rfl (by decide) rfl e25 dX11_knowing_34 ?_
    refine pm_iload_n hC 2 dX11_knowing_37 rfl ?_
    refine pm_callV (ci := 10) (as := [(0, a1)]) (st := []) hC 73 (fD_X10_weigh_73 a1 ⟨by exact ow_79i_0 h0, by exact ow_79i_1 h0⟩) lm_X11_294 li_X10_weigh (by decide) (by decide) rfl rfl rfl (by decide) rfl rfl (Nat.le_of_ble_eq_true rfl) ⟨Nat.le_refl _, Or.inl rfl⟩ dX11_knowing_38 ⟨rfl, hV21⟩ (fun r26 V27 hp28 => ?_)
    obtain ⟨rfl, hV29, hF30, hE31⟩ := hp28
    replace hT := hT.trans (pf_call_eq hE31)
    change pm_J X 41 [(5, (0, y15)), (0, (3, 0)), (1, (0, a1)), (2, (0, a2)), (3, (0, a3)), (4, (0, a4))] [] 118 V27
    have hF32 := pm_ff.tr hF24 hF30 (by decide) (by decide)
    have e33 : V27 0 5 = 73 := by rw [hF30 0 5 (by decide) (by decide)]; exact e25
    refine pm_aload_n hC 1 (by decide) dX11_knowing_41 rfl ?_
    refine pm_getf (v := 73) hC 0 fl_X11_75 rfl rfl (by decide) rfl e33 dX11_knowing_42 ?_
    refine pm_callV (ci := 10) (as := []) (st := []) hC 73 fD_X10_mostLikely_73 lm_X11_221 li_X10_mostLikely (by decide) (by decide) rfl rfl rfl (by decide) rfl rfl (Nat.le_of_ble_eq_true rfl) ⟨Nat.le_refl _, Or.inl rfl⟩ dX11_knowing_45 ⟨rfl, hV29⟩ (fun r34 V35 hp36 => ?_)
    obtain ⟨y37, rfl, b38, rfl, hE39⟩ := hp36
    replace hT := hT.trans (pf_call_eq hE39)
    change pm_J X 48 [(5, (0, y15)), (0, (3, 0)), (1, (0, a1)), (2, (0, a2)), (3, (0, a3)), (4, (0, a4))] [(0, y37)] 118 V27
    refine pm_iload hC 0 dX11_knowing_48 rfl ?_
    refine pm_icmp_ne (tgt := 57) hC ⟨by exact ow_79i_67 b38, by exact ow_79i_68 b38⟩ ⟨by exact ow_79i_67 b16, by exact ow_79i_68 b16⟩ dX11_knowing_50 (by decide) (fun c40 => ?_) (fun c40 => ?_)
    · skip
      replace hT := hT.trans (if_pos c40)
      refine pm_iconst (v := 0) hC dX11_knowing_57 ?_
      exact pm_iret hC hR pm_nar0 ⟨0, rfl, ⟨by exact ow_79i_69, by exact ow_79i_70⟩, hV29, hF32, hT⟩ dX11_knowing_58
    · skip
      replace hT := hT.trans (if_neg (fun q => q c40))
      refine pm_iconst (v := 1) hC dX11_knowing_53 ?_
      refine pm_goto (tgt := 58) hC dX11_knowing_54 (by decide) ?_
      exact pm_iret hC hR pm_nar0 ⟨1, rfl, ⟨by exact ow_79i_71, by exact ow_79i_72⟩, hV29, hF32, hT⟩ dX11_knowing_58
  · skip
    replace hT := hT.trans (if_neg (fun q => q c10))
    refine pm_iconst (v := (-1)) hC dX11_knowing_12 ?_
    exact pm_iret hC hR pm_nar0 ⟨(-1), rfl, ⟨by exact ow_79i_32, by exact ow_79i_71⟩, hV6, hF9, hT⟩ dX11_knowing_13
set_option maxHeartbeats 4000000 in
set_option maxRecDepth 100000 in
theorem fD_X11_fillAtoms_0 (a1 : Int) (h0 : (-99) ≤ a1 ∧ a1 ≤ 99) : pm_K 5 yX11_fillAtoms cX11_fillAtoms 2 none (fun av V => av = [(3, 0), (0, a1)] ∧ pm_ok 0 90 V) (fun _ V r V' => r = none ∧ pm_ok 0 90 V' ∧ pm_ff [76, 77, 83] [(73, 14)] V V' ∧ F_X11_fillAtoms a1 V = (0, V')) := by
  refine pm_MT.of (by decide) ⟨Nat.le_refl _, by decide⟩ (fun av V h => by rw [h.1]; exact (by decide : pm_words [(3, 0), (0, 0)] ≤ 2)) ?_
  rintro X av V0 hC - hR ⟨rfl, hV0⟩
  change pm_J X 0 [(0, (3, 0)), (1, (0, a1))] [] 118 V0
  have hT := F_X11_fillAtoms_eq a1 V0
  refine pm_aload_n hC 0 (by decide) dX11_fillAtoms_0 rfl ?_
  have e1 : V0 0 5 = 73 := hV0.one 0 5 (by decide) (by decide) rfl
  refine pm_getf (v := 73) hC 0 fl_X11_75 rfl rfl (by decide) rfl e1 dX11_fillAtoms_1 ?_
  refine pm_iconst (v := 4) hC dX11_fillAtoms_4 ?_
  refine pm_callV (ci := 10) (as := [(0, 4)]) (st := []) hC 73 (fD_X10_weigh_73 4 ⟨by decide, by decide⟩) lm_X11_294 li_X10_weigh (by decide) (by decide) rfl rfl rfl (by decide) rfl rfl (Nat.le_of_ble_eq_true rfl) ⟨Nat.le_refl _, Or.inl rfl⟩ dX11_fillAtoms_5 ⟨rfl, hV0⟩ (fun r2 V3 hp4 => ?_)
  obtain ⟨rfl, hV5, hF6, hE7⟩ := hp4
  replace hT := hT.trans (pf_call_eq hE7)
  change pm_J X 8 [(0, (3, 0)), (1, (0, a1))] [] 118 V3
  have hF8 := pm_ff.tr (pm_ff.rf (cs := [76, 77, 83]) (fs := [(73, 14)]) (V := V0)) hF6 (by decide) (by decide)
  have e9 : V3 0 5 = 73 := by rw [hF6 0 5 (by decide) (by decide)]; exact e1
  refine pm_aload_n hC 0 (by decide) dX11_fillAtoms_8 rfl ?_
  have e10 : V3 0 7 = 83 := hV5.one 0 7 (by decide) (by decide) rfl
  refine pm_getf (v := 83) hC 0 fl_X11_86 rfl rfl (by decide) rfl e10 dX11_fillAtoms_9 ?_
  refine pm_iconst (v := 0) hC dX11_fillAtoms_12 ?_
  refine pm_aload_n hC 0 (by decide) dX11_fillAtoms_13 rfl ?_
  refine pm_getf (v := 73) hC 0 fl_X11_75 rfl rfl (by decide) rfl e9 dX11_fillAtoms_14 ?_
  refine pm_iconst (v := 3) hC dX11_fillAtoms_17 ?_
  refine pm_callV (ci := 10) (as := [(0, 3)]) (st := [(0, 0), (3, 83)]) hC 73 (fD_X10_chanceOfKind_73 3 ⟨by decide, by decide⟩) lm_X11_218 li_X10_chanceOfKind (by decide) (by decide) rfl rfl rfl (by decide) rfl rfl (Nat.le_of_ble_eq_true rfl) ⟨Nat.le_refl _, Or.inl rfl⟩ dX11_fillAtoms_18 ⟨rfl, hV5⟩ (fun r11 V12 hp13 => ?_)
  obtain ⟨y14, rfl, b15, rfl, hE16⟩ := hp13
  replace hT := hT.trans (pf_call_eq hE16)
  change pm_J X 21 [(0, (3, 0)), (1, (0, a1))] [(0, y14), (0, 0), (3, 83)] 118 V3
  refine pm_i2l hC ⟨by exact ow_79i_0 b15, by exact ow_79i_1 b15⟩ dX11_fillAtoms_21 ?_
  refine pm_lastore (len := 7) hC 83 rfl rfl (by decide) ⟨by decide, by decide⟩ (by decide) dX11_fillAtoms_22 ?_
  refine pm_aload_n hC 0 (by decide) dX11_fillAtoms_23 rfl ?_
  refine pm_getf (v := 83) hC 0 fl_X11_86 rfl rfl (by decide) rfl e10 dX11_fillAtoms_24 ?_
  refine pm_iconst (v := 1) hC dX11_fillAtoms_27 ?_
  refine pm_aload_n hC 0 (by decide) dX11_fillAtoms_28 rfl ?_
  refine pm_getf (v := 73) hC 0 fl_X11_75 rfl rfl (by decide) rfl e9 dX11_fillAtoms_29 ?_
  refine pm_callV (ci := 10) (as := []) (st := [(0, 1), (3, 83)]) hC 73 fD_X10_chanceNoticed_73 lm_X11_233 li_X10_chanceNoticed (by decide) (by decide) rfl rfl rfl (by decide) rfl rfl (Nat.le_of_ble_eq_true rfl) ⟨Nat.le_refl _, Or.inl rfl⟩ dX11_fillAtoms_32 ⟨rfl, (hV5.put 83 (0 : Int).toNat (x := y14) (lo := (-9223372036854775808)) (hi := 9223372036854775807) rfl ⟨by exact ow_79i_73 b15, by exact ow_79i_74 b15⟩)⟩ (fun r17 V18 hp19 => ?_)
  obtain ⟨y20, rfl, b21, rfl, hE22⟩ := hp19
  replace hT := hT.trans (pf_call_eq hE22)
  change pm_J X 35 [(0, (3, 0)), (1, (0, a1))] [(0, y20), (0, 1), (3, 83)] 118 (pm_up V3 83 (0 : Int).toNat y14)
  refine pm_i2l hC ⟨by exact ow_79i_0 b21, by exact ow_79i_1 b21⟩ dX11_fillAtoms_35 ?_
  refine pm_lastore (len := 7) hC 83 rfl rfl (by decide) ⟨by decide, by decide⟩ (by decide) dX11_fillAtoms_36 ?_
  refine pm_aload_n hC 0 (by decide) dX11_fillAtoms_37 rfl ?_
  refine pm_getf (v := 83) hC 0 fl_X11_86 rfl rfl (by decide) rfl e10 dX11_fillAtoms_38 ?_
  refine pm_iconst (v := 2) hC dX11_fillAtoms_41 ?_
  refine pm_aload_n hC 0 (by decide) dX11_fillAtoms_42 rfl ?_
  refine pm_getf (v := 73) hC 0 fl_X11_75 rfl rfl (by decide) rfl e9 dX11_fillAtoms_43 ?_
  refine pm_aload_n hC 0 (by decide) dX11_fillAtoms_46 rfl ?_
  refine pm_getf (v := 73) hC 0 fl_X11_75 rfl rfl (by decide) rfl e9 dX11_fillAtoms_47 ?_
  obtain ⟨y23, e24⟩ : ∃ y, V3 73 1 = y := ⟨_, rfl⟩
  have b25 := hV5.get 73 1 (lo := 0) (hi := 8) (by decide) (by decide) rfl
  rw [e24] at b25
  replace hT := hT.trans (pf_let_eq e24)
  refine pm_getf (v := y23) hC 73 fl_X11_354 rfl rfl (by decide) rfl e24 dX11_fillAtoms_50 ?_
  refine pm_callV (ci := 10) (as := [(0, y23)]) (st := [(0, 2), (3, 83)]) hC 73 (fD_X10_chanceOf_73 y23 ⟨by exact ow_79i_75 b25, by exact ow_79i_76 b25⟩) lm_X11_211 li_X10_chanceOf (by decide) (by decide) rfl rfl rfl (by decide) rfl rfl (Nat.le_of_ble_eq_true rfl) ⟨Nat.le_refl _, Or.inl rfl⟩ dX11_fillAtoms_53 ⟨rfl, ((hV5.put 83 (0 : Int).toNat (x := y14) (lo := (-9223372036854775808)) (hi := 9223372036854775807) rfl ⟨by exact ow_79i_73 b15, by exact ow_79i_74 b15⟩).put 83 (1 : Int).toNat (x := y20) (lo := (-9223372036854775808)) (hi := 9223372036854775807) rfl ⟨by exact ow_79i_73 b21, by exact ow_79i_74 b21⟩)⟩ (fun r26 V27 hp28 => ?_)
  obtain ⟨y29, rfl, b30, rfl, hE31⟩ := hp28
  replace hT := hT.trans (pf_call_eq hE31)
  change pm_J X 56 [(0, (3, 0)), (1, (0, a1))] [(0, y29), (0, 2), (3, 83)] 118 (pm_up (pm_up V3 83 (0 : Int).toNat y14) 83 (1 : Int).toNat y20)
  refine pm_i2l hC ⟨by exact ow_79i_0 b30, by exact ow_79i_1 b30⟩ dX11_fillAtoms_56 ?_
  refine pm_lastore (len := 7) hC 83 rfl rfl (by decide) ⟨by decide, by decide⟩ (by decide) dX11_fillAtoms_57 ?_
  refine pm_aload_n hC 0 (by decide) dX11_fillAtoms_58 rfl ?_
  refine pm_getf (v := 83) hC 0 fl_X11_86 rfl rfl (by decide) rfl e10 dX11_fillAtoms_59 ?_
  refine pm_iconst (v := 3) hC dX11_fillAtoms_62 ?_
  refine pm_aload_n hC 0 (by decide) dX11_fillAtoms_63 rfl ?_
  refine pm_getf (v := 73) hC 0 fl_X11_75 rfl rfl (by decide) rfl e9 dX11_fillAtoms_64 ?_
  refine pm_aload_n hC 0 (by decide) dX11_fillAtoms_67 rfl ?_
  refine pm_getf (v := 73) hC 0 fl_X11_75 rfl rfl (by decide) rfl e9 dX11_fillAtoms_68 ?_
  obtain ⟨y32, e33⟩ : ∃ y, V3 73 2 = y := ⟨_, rfl⟩
  have b34 := hV5.get 73 2 (lo := 0) (hi := 8) (by decide) (by decide) rfl
  rw [e33] at b34
  replace hT := hT.trans (pf_let_eq e33)
  refine pm_getf (v := y32) hC 73 fl_X11_357 rfl rfl (by decide) rfl e33 dX11_fillAtoms_71 ?_
  refine pm_callV (ci := 10) (as := [(0, y32)]) (st := [(0, 3), (3, 83)]) hC 73 (fD_X10_chanceOf_73 y32 ⟨by exact ow_79i_75 b34, by exact ow_79i_76 b34⟩) lm_X11_211 li_X10_chanceOf (by decide) (by decide) rfl rfl rfl (by decide) rfl rfl (Nat.le_of_ble_eq_true rfl) ⟨Nat.le_refl _, Or.inl rfl⟩ dX11_fillAtoms_74 ⟨rfl, (((hV5.put 83 (0 : Int).toNat (x := y14) (lo := (-9223372036854775808)) (hi := 9223372036854775807) rfl ⟨by exact ow_79i_73 b15, by exact ow_79i_74 b15⟩).put 83 (1 : Int).toNat (x := y20) (lo := (-9223372036854775808)) (hi := 9223372036854775807) rfl ⟨by exact ow_79i_73 b21, by exact ow_79i_74 b21⟩).put 83 (2 : Int).toNat (x := y29) (lo := (-9223372036854775808)) (hi := 9223372036854775807) rfl ⟨by exact ow_79i_73 b30, by exact ow_79i_74 b30⟩)⟩ (fun r35 V36 hp37 => ?_)
  obtain ⟨y38, rfl, b39, rfl, hE40⟩ := hp37
  replace hT := hT.trans (pf_call_eq hE40)
  change pm_J X 77 [(0, (3, 0)), (1, (0, a1))] [(0, y38), (0, 3), (3, 83)] 118 (pm_up (pm_up (pm_up V3 83 (0 : Int).toNat y14) 83 (1 : Int).toNat y20) 83 (2 : Int).toNat y29)
  refine pm_i2l hC ⟨by exact ow_79i_0 b39, by exact ow_79i_1 b39⟩ dX11_fillAtoms_77 ?_
  refine pm_lastore (len := 7) hC 83 rfl rfl (by decide) ⟨by decide, by decide⟩ (by decide) dX11_fillAtoms_78 ?_
  refine pm_aload_n hC 0 (by decide) dX11_fillAtoms_79 rfl ?_
  refine pm_getf (v := 83) hC 0 fl_X11_86 rfl rfl (by decide) rfl e10 dX11_fillAtoms_80 ?_
  refine pm_iconst (v := 4) hC dX11_fillAtoms_83 ?_
  refine pm_aload_n hC 0 (by decide) dX11_fillAtoms_84 rfl ?_
  refine pm_getf (v := 73) hC 0 fl_X11_75 rfl rfl (by decide) rfl e9 dX11_fillAtoms_85 ?_
  obtain ⟨y41, e42⟩ : ∃ y, V3 73 3 = y := ⟨_, rfl⟩
  have b43 := hV5.get 73 3 (lo := 0) (hi := 9) (by decide) (by decide) rfl
  rw [e42] at b43
  replace hT := hT.trans (pf_let_eq e42)
  refine pm_getf (v := y41) hC 73 fl_X11_360 rfl rfl (by decide) rfl e42 dX11_fillAtoms_88 ?_
  refine pm_i2l hC ⟨by exact ow_79i_3 b43, by exact ow_79i_4 b43⟩ dX11_fillAtoms_91 ?_
  refine pm_lastore (len := 7) hC 83 rfl rfl (by decide) ⟨by decide, by decide⟩ (by decide) dX11_fillAtoms_92 ?_
  refine pm_aload_n hC 0 (by decide) dX11_fillAtoms_93 rfl ?_
  refine pm_getf (v := 83) hC 0 fl_X11_86 rfl rfl (by decide) rfl e10 dX11_fillAtoms_94 ?_
  refine pm_iconst (v := 5) hC dX11_fillAtoms_97 ?_
  refine pm_aload_n hC 0 (by decide) dX11_fillAtoms_98 rfl ?_
  refine pm_getf (v := 73) hC 0 fl_X11_75 rfl rfl (by decide) rfl e9 dX11_fillAtoms_99 ?_
  obtain ⟨y44, e45⟩ : ∃ y, V3 73 4 = y := ⟨_, rfl⟩
  have b46 := hV5.get 73 4 (lo := 0) (hi := 9) (by decide) (by decide) rfl
  rw [e45] at b46
  replace hT := hT.trans (pf_let_eq e45)
  refine pm_getf (v := y44) hC 73 fl_X11_363 rfl rfl (by decide) rfl e45 dX11_fillAtoms_102 ?_
  refine pm_i2l hC ⟨by exact ow_79i_3 b46, by exact ow_79i_4 b46⟩ dX11_fillAtoms_105 ?_
  refine pm_lastore (len := 7) hC 83 rfl rfl (by decide) ⟨by decide, by decide⟩ (by decide) dX11_fillAtoms_106 ?_
  refine pm_aload_n hC 0 (by decide) dX11_fillAtoms_107 rfl ?_
  refine pm_getf (v := 83) hC 0 fl_X11_86 rfl rfl (by decide) rfl e10 dX11_fillAtoms_108 ?_
  refine pm_bipush (v := 6) hC dX11_fillAtoms_111 (by decide) ?_
  refine pm_iload_n hC 1 dX11_fillAtoms_113 rfl ?_
  refine pm_mabsT hC 4214 4015 1018 4016 ⟨by exact ow_79i_77 h0, by exact ow_79i_78 h0⟩ (by decide) wL_X11_366 wS_mabs wI_math wC_mabs (Nat.le_of_ble_eq_true rfl) dX11_fillAtoms_114 (fun y47 he49 b48 => ?_)
  have b48 := And.intro b48.1.1 (And.intro b48.1.2 b48.2)
  replace hT := hT.trans (pf_let_eq he49)
  refine pm_i2l hC ⟨by exact ow_79i_79 b48, by exact ow_79i_80 b48⟩ dX11_fillAtoms_117 ?_
  refine pm_lastore (len := 7) hC 83 rfl rfl (by decide) ⟨by decide, by decide⟩ (by decide) dX11_fillAtoms_118 ?_
  exact pm_vret hC hR ⟨rfl, (((((((hV5.put 83 (0 : Int).toNat (x := y14) (lo := (-9223372036854775808)) (hi := 9223372036854775807) rfl ⟨by exact ow_79i_73 b15, by exact ow_79i_74 b15⟩).put 83 (1 : Int).toNat (x := y20) (lo := (-9223372036854775808)) (hi := 9223372036854775807) rfl ⟨by exact ow_79i_73 b21, by exact ow_79i_74 b21⟩).put 83 (2 : Int).toNat (x := y29) (lo := (-9223372036854775808)) (hi := 9223372036854775807) rfl ⟨by exact ow_79i_73 b30, by exact ow_79i_74 b30⟩).put 83 (3 : Int).toNat (x := y38) (lo := (-9223372036854775808)) (hi := 9223372036854775807) rfl ⟨by exact ow_79i_73 b39, by exact ow_79i_74 b39⟩).put 83 (4 : Int).toNat (x := y41) (lo := (-9223372036854775808)) (hi := 9223372036854775807) rfl ⟨by exact ow_79i_81 b43, by exact ow_79i_82 b43⟩).put 83 (5 : Int).toNat (x := y44) (lo := (-9223372036854775808)) (hi := 9223372036854775807) rfl ⟨by exact ow_79i_81 b46, by exact ow_79i_82 b46⟩).put 83 (6 : Int).toNat (x := y47) (lo := (-9223372036854775808)) (hi := 9223372036854775807) rfl ⟨by exact ow_79i_83 b48, by exact ow_79i_84 b48⟩), (((((((hF8.upa 83 (0 : Int).toNat y14 rfl).upa 83 (1 : Int).toNat y20 rfl).upa 83 (2 : Int).toNat y29 rfl).upa 83 (3 : Int).toNat y38 rfl).upa 83 (4 : Int).toNat y41 rfl).upa 83 (5 : Int).toNat y44 rfl).upa 83 (6 : Int).toNat y47 rfl), hT⟩ dX11_fillAtoms_119
set_option maxHeartbeats 4000000 in
set_option maxRecDepth 100000 in
theorem fD_X2_pop_57  : pm_K 1 yX2_pop cX2_pop 1 (some .long) (fun av V => av = [(3, 57)] ∧ pm_ok 0 90 V) (fun _ V r V' => ∃ y, r = some (1, y) ∧ ((-9223372036854775808) ≤ y ∧ y ≤ 9223372036854775807) ∧ pm_ok 0 90 V' ∧ pm_ff [] [(57, 7)] V V' ∧ F_X2_pop 57 V = (y, V')) := by
  refine pm_MT.of (by decide) ⟨Nat.le_refl _, by decide⟩ (fun av V h => by rw [h.1]; exact (by decide : pm_words [(3, 0)] ≤ 1)) ?_
  rintro X av V0 hC - hR ⟨rfl, hV0⟩
  change pm_J X 0 [(0, (3, 57))] [] 118 V0
  have hT := F_X2_pop_eq 57 V0
  refine pm_aload_n hC 0 (by decide) dX2_pop_0 rfl ?_
  obtain ⟨y1, e2⟩ : ∃ y, V0 57 7 = y := ⟨_, rfl⟩
  have b3 := hV0.get 57 7 (lo := 0) (hi := 64) (by decide) (by decide) rfl
  rw [e2] at b3
  replace hT := hT.trans (pf_let_eq e2)
  refine pm_getf (v := y1) hC 57 fl_X2_35 rfl rfl (by decide) rfl e2 dX2_pop_1 ?_
  refine pm_if_gt (tgt := 9) hC ⟨by exact ow_79i_85 b3, by exact ow_79i_86 b3⟩ dX2_pop_4 (by decide) (fun c4 => ?_) (fun c4 => ?_)
  · skip
    replace hT := hT.trans (if_pos c4)
    refine pm_aload_n hC 0 (by decide) dX2_pop_9 rfl ?_
    refine pm_dup hC rfl dX2_pop_10 ?_
    refine pm_getf (v := y1) hC 57 fl_X2_35 rfl rfl (by decide) rfl e2 dX2_pop_11 ?_
    refine pm_iconst (v := 1) hC dX2_pop_14 ?_
    refine pm_isub hC dX2_pop_15 ?_
    refine pm_putf hC 57 fl_X2_35 rfl rfl rfl (by decide) rfl trivial dX2_pop_16 ?_
    refine pm_aload_n hC 0 (by decide) dX2_pop_19 rfl ?_
    have e5 : V0 57 6 = 62 := hV0.one 57 6 (by decide) (by decide) rfl
    refine pm_getf (v := 62) hC 57 fl_X2_31 rfl rfl (by decide) rfl e5 dX2_pop_20 ?_
    refine pm_aload_n hC 0 (by decide) dX2_pop_23 rfl ?_
    refine pm_getf (v := (y1 - 1)) hC 57 fl_X2_35 rfl rfl (by decide) rfl rfl dX2_pop_24 ?_
    obtain ⟨y6, e7⟩ : ∃ y, V0 62 ((y1 - 1) : Int).toNat = y := ⟨_, rfl⟩
    replace hT := hT.trans (pf_let_eq e7)
    have b8 := hV0.get 62 ((y1 - 1) : Int).toNat (lo := (-9223372036854775808)) (hi := 9223372036854775807) (by decide) (show _ < 64 by exact ow_79i_87 b3) rfl
    rw [e7] at b8
    refine pm_laload (len := 64) (v := y6) hC 62 rfl rfl (by decide) ⟨by exact ow_79i_88 c4, by exact ow_79i_89 b3⟩ (by decide) e7 dX2_pop_27 ?_
    exact pm_lret hC hR ⟨y6, rfl, ⟨by exact ow_79i_5 b8, by exact ow_79i_6 b8⟩, (hV0.put 57 7 (x := (y1 - 1)) (lo := 0) (hi := 64) rfl ⟨by exact ow_79i_88 c4, by exact ow_79i_90 b3⟩), ((pm_ff.rf (cs := []) (fs := [(57, 7)]) (V := V0)).upf 57 7 (y1 - 1) rfl), hT⟩ dX2_pop_28
  · skip
    replace hT := hT.trans (if_neg (Int.not_lt.mpr c4))
    refine pm_lconst (x := 0) hC dX2_pop_7 rfl ?_
    exact pm_lret hC hR ⟨0, rfl, ⟨by exact ow_79i_91, by exact ow_79i_92⟩, hV0, (pm_ff.rf (cs := []) (fs := [(57, 7)]) (V := V0)), hT⟩ dX2_pop_8
set_option maxHeartbeats 4000000 in
set_option maxRecDepth 100000 in
theorem fD_X2_bounded (a1 : Int) (h0 : (-9223372036854775808) ≤ a1 ∧ a1 ≤ 9223372036854775807) : pm_K 1 yX2_bounded cX2_bounded 2 (some .long) (fun av V => av = [(1, a1)] ∧ pm_ok 0 90 V) (fun _ V r V' => ∃ y, r = some (1, y) ∧ ((-1000000) ≤ y ∧ y ≤ 1000000) ∧ V = V' ∧ F_X2_bounded a1 V = (y, V)) := by
  refine pm_MT.of (by decide) ⟨Nat.le_refl _, by decide⟩ (fun av V h => by rw [h.1]; exact (by decide : pm_words [(1, 0)] ≤ 2)) ?_
  rintro X av V0 hC - hR ⟨rfl, hV0⟩
  change pm_J X 0 [(0, (1, a1))] [] 118 V0
  have hT := F_X2_bounded_eq a1 V0
  refine pm_ldc2 (v := (-1000000)) hC 5074 dX2_bounded_0 (by decide +kernel) ?_
  refine pm_ldc2 (v := 1000000) hC 5075 dX2_bounded_3 (by decide +kernel) ?_
  refine pm_lload_n hC 0 dX2_bounded_6 rfl ?_
  refine pm_mminL hC 5076 5077 1018 5078 ⟨by decide, by decide⟩ ⟨by exact ow_79i_5 h0, by exact ow_79i_6 h0⟩ (by decide) wL_X2_58 wS_mminL wI_math wC_mminL (Nat.le_of_ble_eq_true rfl) dX2_bounded_7 (fun y1 b2 => ?_)
  have he3 : pm_mn 1000000 a1 = y1 := pm_mn_of b2
  replace b2 : (-9223372036854775808) ≤ y1 ∧ y1 ≤ 1000000 ∧ y1 ≤ 1000000 ∧ y1 ≤ a1 := ⟨by exact ow_79i_93 h0 b2, by exact ow_79i_94 b2, b2.1, b2.2.1⟩
  replace hT := hT.trans (pf_let_eq he3)
  refine pm_mmaxL hC 5079 4169 1018 4170 ⟨by decide, by decide⟩ ⟨by exact ow_79i_95 b2, by exact ow_79i_96 b2⟩ (by decide) wL_X2_64 wS_mmaxL wI_math wC_mmaxL (Nat.le_of_ble_eq_true rfl) dX2_bounded_10 (fun y4 b5 => ?_)
  have he6 : pm_mx (-1000000) y1 = y4 := pm_mx_of b5
  replace b5 : (-1000000) ≤ y4 ∧ y4 ≤ 1000000 ∧ (-1000000) ≤ y4 ∧ y1 ≤ y4 := ⟨by exact ow_79i_97 b5, by exact ow_79i_98 b2 b5, b5.1, b5.2.1⟩
  replace hT := hT.trans (pf_let_eq he6)
  exact pm_lret hC hR ⟨y4, rfl, ⟨by exact ow_79i_99 b5, by exact ow_79i_100 b5⟩, rfl, hT⟩ dX2_bounded_13
set_option maxHeartbeats 4000000 in
set_option maxRecDepth 100000 in
theorem fD_X2_push_57 (a1 : Int) (h0 : (-9223372036854775808) ≤ a1 ∧ a1 ≤ 9223372036854775807) : pm_K 1 yX2_push cX2_push 3 none (fun av V => av = [(3, 57), (1, a1)] ∧ pm_ok 0 90 V) (fun _ V r V' => r = none ∧ pm_ok 0 90 V' ∧ pm_ff [62] [(57, 7)] V V' ∧ F_X2_push 57 a1 V = (0, V')) := by
  refine pm_MT.of (by decide) ⟨Nat.le_refl _, by decide⟩ (fun av V h => by rw [h.1]; exact (by decide : pm_words [(3, 0), (1, 0)] ≤ 3)) ?_
  rintro X av V0 hC - hR ⟨rfl, hV0⟩
  change pm_J X 0 [(0, (3, 57)), (1, (1, a1))] [] 118 V0
  have hT := F_X2_push_eq 57 a1 V0
  refine pm_aload_n hC 0 (by decide) dX2_push_0 rfl ?_
  obtain ⟨y1, e2⟩ : ∃ y, V0 57 7 = y := ⟨_, rfl⟩
  have b3 := hV0.get 57 7 (lo := 0) (hi := 64) (by decide) (by decide) rfl
  rw [e2] at b3
  replace hT := hT.trans (pf_let_eq e2)
  refine pm_getf (v := y1) hC 57 fl_X2_35 rfl rfl (by decide) rfl e2 dX2_push_1 ?_
  refine pm_bipush (v := 64) hC dX2_push_4 (by decide) ?_
  refine pm_icmp_ge (tgt := 29) hC ⟨by exact ow_79i_85 b3, by exact ow_79i_86 b3⟩ ⟨by decide, by decide⟩ dX2_push_6 (by decide) (fun c4 => ?_) (fun c4 => ?_)
  · skip
    replace hT := hT.trans (if_pos c4)
    exact pm_vret hC hR ⟨rfl, hV0, (pm_ff.rf (cs := [62]) (fs := [(57, 7)]) (V := V0)), hT⟩ dX2_push_29
  · skip
    replace hT := hT.trans (if_neg (Int.not_le.mpr c4))
    refine pm_aload_n hC 0 (by decide) dX2_push_9 rfl ?_
    have e5 : V0 57 6 = 62 := hV0.one 57 6 (by decide) (by decide) rfl
    refine pm_getf (v := 62) hC 57 fl_X2_31 rfl rfl (by decide) rfl e5 dX2_push_10 ?_
    refine pm_aload_n hC 0 (by decide) dX2_push_13 rfl ?_
    refine pm_getf (v := y1) hC 57 fl_X2_35 rfl rfl (by decide) rfl e2 dX2_push_14 ?_
    refine pm_lload_n hC 1 dX2_push_17 rfl ?_
    refine pm_lastore (len := 64) hC 62 rfl rfl (by decide) ⟨by exact ow_79i_101 b3, by exact ow_79i_102 c4⟩ (by decide) dX2_push_18 ?_
    refine pm_aload_n hC 0 (by decide) dX2_push_19 rfl ?_
    refine pm_dup hC rfl dX2_push_20 ?_
    refine pm_getf (v := y1) hC 57 fl_X2_35 rfl rfl (by decide) rfl e2 dX2_push_21 ?_
    refine pm_iconst (v := 1) hC dX2_push_24 ?_
    refine pm_iadd hC dX2_push_25 ?_
    refine pm_putf hC 57 fl_X2_35 rfl rfl rfl (by decide) rfl trivial dX2_push_26 ?_
    exact pm_vret hC hR ⟨rfl, ((hV0.put 62 (y1 : Int).toNat (x := a1) (lo := (-9223372036854775808)) (hi := 9223372036854775807) rfl ⟨by exact ow_79i_5 h0, by exact ow_79i_6 h0⟩).put 57 7 (x := (y1 + 1)) (lo := 0) (hi := 64) rfl ⟨by exact ow_79i_103 b3, by exact ow_79i_104 c4⟩), (((pm_ff.rf (cs := [62]) (fs := [(57, 7)]) (V := V0)).upa 62 (y1 : Int).toNat a1 rfl).upf 57 7 (y1 + 1) rfl), hT⟩ dX2_push_29
