theorem ow_79e_0 {a0 : Int} (h0 : (((-2147483648) ≤ (a0 : Int)) ∧ (a0 ≤ (2147483647 : Int)))) : ((-2147483648) ≤ (a0 : Int)) := by omega
theorem ow_79e_1 {a0 : Int} (h0 : (((-2147483648) ≤ (a0 : Int)) ∧ (a0 ≤ (2147483647 : Int)))) : (a0 ≤ (2147483647 : Int)) := by omega
theorem ow_79e_2 {a0 a1 : Int} (h0 : ((0 ≤ (a0 : Int)) ∧ ((a0 ≤ (1 : Int)) ∧ ((a0 = (1 : Int)) → ((0 ≤ (a1 : Int)) ∧ (a1 ≤ (3 : Int))))))) : ((-2147483648) ≤ (a0 : Int)) := by omega
theorem ow_79e_3 {a0 a1 : Int} (h0 : ((0 ≤ (a0 : Int)) ∧ ((a0 ≤ (1 : Int)) ∧ ((a0 = (1 : Int)) → ((0 ≤ (a1 : Int)) ∧ (a1 ≤ (3 : Int))))))) : (a0 ≤ (2147483647 : Int)) := by omega
theorem ow_79e_4 : ((-2147483648) ≤ ((-1) : Int)) := by omega
theorem ow_79e_5 : ((-1) ≤ (2147483647 : Int)) := by omega
theorem ow_79e_6 {a0 a1 a2 a3 a4 : Int} (h0 : ((0 ≤ (a0 : Int)) ∧ ((a0 ≤ (1 : Int)) ∧ ((a0 = (1 : Int)) → ((0 ≤ (a1 : Int)) ∧ ((a1 ≤ (6 : Int)) ∧ ((0 ≤ (a2 : Int)) ∧ ((a2 ≤ (999 : Int)) ∧ ((0 ≤ (a3 : Int)) ∧ ((a3 ≤ (99 : Int)) ∧ (((-99) ≤ (a4 : Int)) ∧ ((a4 ≤ (99 : Int)) ∧ (((a2 % 10) ≤ (8 : Int)) ∧ (((a2 / 10) % 10) ≤ (8 : Int))))))))))))))) : ((-2147483648) ≤ (a0 : Int)) := by omega
theorem ow_79e_7 {a0 a1 a2 a3 a4 : Int} (h0 : ((0 ≤ (a0 : Int)) ∧ ((a0 ≤ (1 : Int)) ∧ ((a0 = (1 : Int)) → ((0 ≤ (a1 : Int)) ∧ ((a1 ≤ (6 : Int)) ∧ ((0 ≤ (a2 : Int)) ∧ ((a2 ≤ (999 : Int)) ∧ ((0 ≤ (a3 : Int)) ∧ ((a3 ≤ (99 : Int)) ∧ (((-99) ≤ (a4 : Int)) ∧ ((a4 ≤ (99 : Int)) ∧ (((a2 % 10) ≤ (8 : Int)) ∧ (((a2 / 10) % 10) ≤ (8 : Int))))))))))))))) : (a0 ≤ (2147483647 : Int)) := by omega
theorem ow_79e_8 {a0 : Int} (h0 : ((0 ≤ (a0 : Int)) ∧ (a0 ≤ (8 : Int)))) : ((-1) ≤ (a0 : Int)) := by omega
theorem ow_79e_9 {a0 : Int} (h0 : ((0 ≤ (a0 : Int)) ∧ (a0 ≤ (8 : Int)))) : (a0 ≤ (8 : Int)) := by omega
theorem ow_79e_10 : ((-1) ≤ ((-1) : Int)) := by omega
theorem ow_79e_11 : ((-1) ≤ (8 : Int)) := by omega
theorem ow_79e_12 {a0 : Int} (h0 : ((0 ≤ (a0 : Int)) ∧ (a0 ≤ (9 : Int)))) : ((-2147483648) ≤ (a0 : Int)) := by omega
theorem ow_79e_13 {a0 : Int} (h0 : ((0 ≤ (a0 : Int)) ∧ (a0 ≤ (9 : Int)))) : (a0 ≤ (2147483647 : Int)) := by omega
theorem ow_79e_14 {a0 : Int} (h0 : (((-9223372036854775808) ≤ (a0 : Int)) ∧ (a0 ≤ (9223372036854775807 : Int)))) : ((-9223372036854775808) ≤ (a0 : Int)) := by omega
theorem ow_79e_15 {a0 : Int} (h0 : (((-9223372036854775808) ≤ (a0 : Int)) ∧ (a0 ≤ (9223372036854775807 : Int)))) : (a0 ≤ (9223372036854775807 : Int)) := by omega
theorem ow_79e_16 {a0 a1 : Int} (h0 : (((a0 = (1 : Int)) ∧ (0 < (a1 : Int))) ∨ (((a0 = (0 : Int)) ∧ (a1 = (0 : Int))) ∨ ((a0 = ((-1) : Int)) ∧ (a1 < (0 : Int)))))) : ((-2147483648) ≤ (a0 : Int)) := by omega
theorem ow_79e_17 {a0 a1 : Int} (h0 : (((a0 = (1 : Int)) ∧ (0 < (a1 : Int))) ∨ (((a0 = (0 : Int)) ∧ (a1 = (0 : Int))) ∨ ((a0 = ((-1) : Int)) ∧ (a1 < (0 : Int)))))) : (a0 ≤ (2147483647 : Int)) := by omega
theorem ow_79e_18 : ((-2147483648) ≤ (1000 : Int)) := by omega
theorem ow_79e_19 : (1000 ≤ (2147483647 : Int)) := by omega
theorem ow_79e_20 {a0 a1 a2 a3 : Int} (h0 : ((0 ≤ (a0 : Int)) ∧ ((a0 ≤ (1 : Int)) ∧ ((a0 = (1 : Int)) → ((0 ≤ (a1 : Int)) ∧ ((a1 ≤ (999 : Int)) ∧ ((0 ≤ (a2 : Int)) ∧ ((a2 ≤ (99 : Int)) ∧ (((-99) ≤ (a3 : Int)) ∧ ((a3 ≤ (99 : Int)) ∧ (((a1 % 10) ≤ (8 : Int)) ∧ (((a1 / 10) % 10) ≤ (8 : Int))))))))))))) : ((-2147483648) ≤ (a0 : Int)) := by omega
theorem ow_79e_21 {a0 a1 a2 a3 : Int} (h0 : ((0 ≤ (a0 : Int)) ∧ ((a0 ≤ (1 : Int)) ∧ ((a0 = (1 : Int)) → ((0 ≤ (a1 : Int)) ∧ ((a1 ≤ (999 : Int)) ∧ ((0 ≤ (a2 : Int)) ∧ ((a2 ≤ (99 : Int)) ∧ (((-99) ≤ (a3 : Int)) ∧ ((a3 ≤ (99 : Int)) ∧ (((a1 % 10) ≤ (8 : Int)) ∧ (((a1 / 10) % 10) ≤ (8 : Int))))))))))))) : (a0 ≤ (2147483647 : Int)) := by omega
theorem ow_79e_22 {a0 a1 a2 a3 : Int} (h0 : ((0 ≤ (a0 : Int)) ∧ ((a0 ≤ (1 : Int)) ∧ ((a0 = (1 : Int)) → ((0 ≤ (a1 : Int)) ∧ ((a1 ≤ (999 : Int)) ∧ ((0 ≤ (a2 : Int)) ∧ ((a2 ≤ (99 : Int)) ∧ (((-99) ≤ (a3 : Int)) ∧ ((a3 ≤ (99 : Int)) ∧ (((a1 % 10) ≤ (8 : Int)) ∧ (((a1 / 10) % 10) ≤ (8 : Int))))))))))))) (h1 : ¬((a0 = (0 : Int)))) : (0 ≤ (a1 : Int)) := by omega
theorem ow_79e_23 {a0 a1 a2 a3 : Int} (h0 : ((0 ≤ (a0 : Int)) ∧ ((a0 ≤ (1 : Int)) ∧ ((a0 = (1 : Int)) → ((0 ≤ (a1 : Int)) ∧ ((a1 ≤ (999 : Int)) ∧ ((0 ≤ (a2 : Int)) ∧ ((a2 ≤ (99 : Int)) ∧ (((-99) ≤ (a3 : Int)) ∧ ((a3 ≤ (99 : Int)) ∧ (((a1 % 10) ≤ (8 : Int)) ∧ (((a1 / 10) % 10) ≤ (8 : Int))))))))))))) (h1 : ¬((a0 = (0 : Int)))) : (a1 ≤ (999 : Int)) := by omega
theorem ow_79e_24 {a0 a1 a2 a3 : Int} (h0 : ((0 ≤ (a0 : Int)) ∧ ((a0 ≤ (1 : Int)) ∧ ((a0 = (1 : Int)) → ((0 ≤ (a1 : Int)) ∧ ((a1 ≤ (999 : Int)) ∧ ((0 ≤ (a2 : Int)) ∧ ((a2 ≤ (99 : Int)) ∧ (((-99) ≤ (a3 : Int)) ∧ ((a3 ≤ (99 : Int)) ∧ (((a1 % 10) ≤ (8 : Int)) ∧ (((a1 / 10) % 10) ≤ (8 : Int))))))))))))) (h1 : ¬((a0 = (0 : Int)))) : (0 ≤ (a2 : Int)) := by omega
theorem ow_79e_25 {a0 a1 a2 a3 : Int} (h0 : ((0 ≤ (a0 : Int)) ∧ ((a0 ≤ (1 : Int)) ∧ ((a0 = (1 : Int)) → ((0 ≤ (a1 : Int)) ∧ ((a1 ≤ (999 : Int)) ∧ ((0 ≤ (a2 : Int)) ∧ ((a2 ≤ (99 : Int)) ∧ (((-99) ≤ (a3 : Int)) ∧ ((a3 ≤ (99 : Int)) ∧ (((a1 % 10) ≤ (8 : Int)) ∧ (((a1 / 10) % 10) ≤ (8 : Int))))))))))))) (h1 : ¬((a0 = (0 : Int)))) : (a2 ≤ (99 : Int)) := by omega
theorem ow_79e_26 {a0 a1 a2 a3 : Int} (h0 : ((0 ≤ (a0 : Int)) ∧ ((a0 ≤ (1 : Int)) ∧ ((a0 = (1 : Int)) → ((0 ≤ (a1 : Int)) ∧ ((a1 ≤ (999 : Int)) ∧ ((0 ≤ (a2 : Int)) ∧ ((a2 ≤ (99 : Int)) ∧ (((-99) ≤ (a3 : Int)) ∧ ((a3 ≤ (99 : Int)) ∧ (((a1 % 10) ≤ (8 : Int)) ∧ (((a1 / 10) % 10) ≤ (8 : Int))))))))))))) (h1 : ¬((a0 = (0 : Int)))) : ((-99) ≤ (a3 : Int)) := by omega
theorem ow_79e_27 {a0 a1 a2 a3 : Int} (h0 : ((0 ≤ (a0 : Int)) ∧ ((a0 ≤ (1 : Int)) ∧ ((a0 = (1 : Int)) → ((0 ≤ (a1 : Int)) ∧ ((a1 ≤ (999 : Int)) ∧ ((0 ≤ (a2 : Int)) ∧ ((a2 ≤ (99 : Int)) ∧ (((-99) ≤ (a3 : Int)) ∧ ((a3 ≤ (99 : Int)) ∧ (((a1 % 10) ≤ (8 : Int)) ∧ (((a1 / 10) % 10) ≤ (8 : Int))))))))))))) (h1 : ¬((a0 = (0 : Int)))) : (a3 ≤ (99 : Int)) := by omega
theorem ow_79e_28 {a0 a1 a2 a3 : Int} (h0 : ((0 ≤ (a0 : Int)) ∧ ((a0 ≤ (1 : Int)) ∧ ((a0 = (1 : Int)) → ((0 ≤ (a1 : Int)) ∧ ((a1 ≤ (999 : Int)) ∧ ((0 ≤ (a2 : Int)) ∧ ((a2 ≤ (99 : Int)) ∧ (((-99) ≤ (a3 : Int)) ∧ ((a3 ≤ (99 : Int)) ∧ (((a1 % 10) ≤ (8 : Int)) ∧ (((a1 / 10) % 10) ≤ (8 : Int))))))))))))) (h1 : ¬((a0 = (0 : Int)))) : (((a1 % 10) ≤ (8 : Int)) ∧ (((a1 / 10) % 10) ≤ (8 : Int))) := by omega
theorem ow_79e_29 {a0 : Int} (h0 : ((0 ≤ (a0 : Int)) ∧ (a0 ≤ (60 : Int)))) : ((-2147483648) ≤ (a0 : Int)) := by omega
theorem ow_79e_30 {a0 : Int} (h0 : ((0 ≤ (a0 : Int)) ∧ (a0 ≤ (60 : Int)))) : (a0 ≤ (2147483647 : Int)) := by omega
theorem ow_79e_31 {a0 : Int} (h0 : (60 ≤ (a0 : Int))) (h1 : (a0 < (60 : Int))) : False := by omega
theorem ow_79e_32 {a0 : Int} (h0 : ((0 ≤ (a0 : Int)) ∧ (a0 ≤ (60 : Int)))) : (0 ≤ (a0 : Int)) := by omega
theorem ow_79e_33 {a0 : Int} (h0 : (a0 < (60 : Int))) : (a0 < (((60 : Nat) : Int) : Int)) := by omega
theorem ow_79e_34 {a0 : Int} (h0 : ((0 ≤ (a0 : Int)) ∧ (a0 ≤ (1 : Int)))) : ((a0 = (0 : Int)) ∨ (a0 = (1 : Int))) := by omega
theorem ow_79e_35 {a0 : Int} (h0 : ((0 ≤ (a0 : Int)) ∧ (a0 ≤ (999 : Int)))) (h1 : (((a0 % 10) ≤ (8 : Int)) ∧ (((a0 / 10) % 10) ≤ (8 : Int)))) : ((0 ≤ (a0 : Int)) ∧ ((a0 ≤ (999 : Int)) ∧ (((a0 % 10) ≤ (8 : Int)) ∧ (((a0 / 10) % 10) ≤ (8 : Int))))) := by omega
theorem ow_79e_36 {a0 : Int} (h0 : ((0 ≤ (a0 : Int)) ∧ (a0 ≤ (99 : Int)))) : (0 ≤ (a0 : Int)) := by omega
theorem ow_79e_37 {a0 : Int} (h0 : ((0 ≤ (a0 : Int)) ∧ (a0 ≤ (99 : Int)))) : (a0 ≤ (99 : Int)) := by omega
theorem ow_79e_38 {a0 : Int} (h0 : (((-99) ≤ (a0 : Int)) ∧ (a0 ≤ (99 : Int)))) : ((-99) ≤ (a0 : Int)) := by omega
theorem ow_79e_39 {a0 : Int} (h0 : (((-99) ≤ (a0 : Int)) ∧ (a0 ≤ (99 : Int)))) : (a0 ≤ (99 : Int)) := by omega
theorem ow_79e_40 {a0 : Int} (h0 : ((0 ≤ (a0 : Int)) ∧ (a0 ≤ (8 : Int)))) : (0 ≤ (a0 : Int)) := by omega
theorem ow_79e_41 {a0 : Int} (h0 : ((0 ≤ (a0 : Int)) ∧ (a0 ≤ (1 : Int)))) : (0 ≤ (a0 : Int)) := by omega
theorem ow_79e_42 {a0 : Int} (h0 : ((0 ≤ (a0 : Int)) ∧ (a0 ≤ (1 : Int)))) : (a0 ≤ (1 : Int)) := by omega
theorem ow_79e_43 {a0 : Int} (h0 : ((0 ≤ (a0 : Int)) ∧ (a0 ≤ (60 : Int)))) : (0 ≤ ((a0 + 1) : Int)) := by omega
theorem ow_79e_44 {a0 : Int} (h0 : (a0 < (60 : Int))) : ((a0 + 1) ≤ (60 : Int)) := by omega
theorem ow_79e_45 : ((-1) ≤ (60 : Int)) := by omega
theorem ow_79e_46 (h0 : ¬((0 = (0 : Int)))) : False := by omega
theorem ow_79e_47 {a0 : Int} (h0 : (0 ≤ (a0 : Int))) : (0 ≤ (a0 : Int)) := by omega
theorem ow_79e_48 {a0 : Int} (h0 : (0 ≤ (a0 : Int))) : ((-2147483648) ≤ (a0 : Int)) := by omega
theorem ow_79e_49 {a0 : Int} (h0 : (0 ≤ (a0 : Int))) : ((-2147483648) ≤ ((a0 / 100) : Int)) := by omega
theorem ow_79e_50 {a0 : Int} (h0 : (((-2147483648) ≤ (a0 : Int)) ∧ (a0 ≤ (2147483647 : Int)))) : ((a0 / 100) ≤ (2147483647 : Int)) := by omega
theorem ow_79e_51 {a0 : Int} (h0 : ((a0 / 100) ≤ (1 : Int))) : (a0 ≤ (2147483647 : Int)) := by omega
theorem ow_79e_52 {a0 : Int} : ((-2147483648) ≤ ((a0 % 100) : Int)) := by omega
theorem ow_79e_53 {a0 : Int} : ((a0 % 100) ≤ (2147483647 : Int)) := by omega
theorem ow_79e_54 {a0 a1 : Int} (h0 : ((0 ≤ (a0 : Int)) ∧ ((a0 ≤ (1 : Int)) ∧ ((a0 = (1 : Int)) → ((0 ≤ ((a1 % 100) : Int)) ∧ ((a1 % 100) ≤ (8 : Int))))))) : ((-2147483648) ≤ (a0 : Int)) := by omega
theorem ow_79e_55 {a0 a1 : Int} (h0 : ((0 ≤ (a0 : Int)) ∧ ((a0 ≤ (1 : Int)) ∧ ((a0 = (1 : Int)) → ((0 ≤ ((a1 % 100) : Int)) ∧ ((a1 % 100) ≤ (8 : Int))))))) : (a0 ≤ (2147483647 : Int)) := by omega
theorem ow_79e_56 (h0 : (1 = (0 : Int))) : False := by omega
theorem ow_79e_57 {a0 : Int} : (0 ≤ ((a0 % 100) : Int)) := by omega
theorem ow_79e_58 {a0 a1 : Int} (h0 : ((0 ≤ (a0 : Int)) ∧ ((a0 ≤ (1 : Int)) ∧ ((a0 = (1 : Int)) → ((0 ≤ ((a1 % 100) : Int)) ∧ ((a1 % 100) ≤ (8 : Int))))))) (h1 : ¬((a0 = (0 : Int)))) : ((a1 % 100) ≤ (8 : Int)) := by omega
theorem ow_79e_59 {a0 : Int} (h0 : ((0 ≤ (a0 : Int)) ∧ (a0 ≤ (60 : Int)))) : ((-1) ≤ (a0 : Int)) := by omega
theorem ow_79e_60 {a0 : Int} (h0 : ((0 ≤ (a0 : Int)) ∧ (a0 ≤ (60 : Int)))) : (a0 ≤ (60 : Int)) := by omega
theorem ow_79e_61 {a0 : Int} (h0 : (0 < (a0 : Int))) : ((-1) ≤ ((a0 - 1) : Int)) := by omega
theorem ow_79e_62 {a0 : Int} (h0 : ((0 ≤ (a0 : Int)) ∧ (a0 ≤ (60 : Int)))) : ((a0 - 1) ≤ (59 : Int)) := by omega
theorem ow_79e_63 {a0 : Int} (h0 : (0 < (a0 : Int))) : (0 ≤ ((a0 - 1) : Int)) := by omega
theorem ow_79e_64 {a0 : Int} (h0 : ((0 ≤ (a0 : Int)) ∧ (a0 ≤ (60 : Int)))) : ((a0 - 1) ≤ (60 : Int)) := by omega
theorem ow_79e_65 : ((-1) ≤ (59 : Int)) := by omega
theorem ow_79e_66 : ((0 = (0 : Int)) ∨ (0 = (1 : Int))) := by omega
theorem ow_79e_67 : (0 ≤ (0 : Int)) := by omega
theorem ow_79e_68 : (0 ≤ (1 : Int)) := by omega
theorem ow_79e_69 {a0 : Int} : ((0 = (1 : Int)) → ((0 ≤ (a0 : Int)) ∧ (a0 ≤ (59 : Int)))) := by omega
theorem ow_79e_70 : ((1 = (0 : Int)) ∨ (1 = (1 : Int))) := by omega
theorem ow_79e_71 : (1 ≤ (1 : Int)) := by omega
theorem ow_79e_72 {a0 a1 : Int} (h0 : (0 ≤ (a0 : Int))) (h1 : ((0 ≤ (a1 : Int)) ∧ (a1 ≤ (60 : Int)))) (h2 : (a0 < (a1 : Int))) : ((1 = (1 : Int)) → ((0 ≤ (a0 : Int)) ∧ (a0 ≤ (59 : Int)))) := by omega
theorem ow_79e_73 {a0 : Int} (h0 : ((0 ≤ (a0 : Int)) ∧ (a0 ≤ (59 : Int)))) : ((a0 : Int).toNat < (60 : Nat)) := by omega
theorem ow_79e_74 {a0 : Int} (h0 : ((0 ≤ (a0 : Int)) ∧ (a0 ≤ (59 : Int)))) : (0 ≤ (a0 : Int)) := by omega
theorem ow_79e_75 {a0 : Int} (h0 : ((0 ≤ (a0 : Int)) ∧ (a0 ≤ (59 : Int)))) : (a0 < (((60 : Nat) : Int) : Int)) := by omega
theorem ow_79e_76 {a0 : Int} (h0 : ((0 ≤ (a0 : Int)) ∧ ((a0 ≤ (999 : Int)) ∧ (((a0 % 10) ≤ (8 : Int)) ∧ (((a0 / 10) % 10) ≤ (8 : Int)))))) : (0 ≤ (a0 : Int)) := by omega
theorem ow_79e_77 {a0 : Int} (h0 : ((0 ≤ (a0 : Int)) ∧ ((a0 ≤ (999 : Int)) ∧ (((a0 % 10) ≤ (8 : Int)) ∧ (((a0 / 10) % 10) ≤ (8 : Int)))))) : ((-2147483648) ≤ (a0 : Int)) := by omega
theorem ow_79e_78 {a0 : Int} (h0 : ((0 ≤ (a0 : Int)) ∧ ((a0 ≤ (999 : Int)) ∧ (((a0 % 10) ≤ (8 : Int)) ∧ (((a0 / 10) % 10) ≤ (8 : Int)))))) : (a0 ≤ (2147483647 : Int)) := by omega
theorem ow_79e_79 {a0 : Int} (h0 : ((0 ≤ (a0 : Int)) ∧ ((a0 ≤ (999 : Int)) ∧ (((a0 % 10) ≤ (8 : Int)) ∧ (((a0 / 10) % 10) ≤ (8 : Int)))))) : (0 ≤ ((a0 / 10) : Int)) := by omega
theorem ow_79e_80 {a0 : Int} (h0 : ((0 ≤ (a0 : Int)) ∧ ((a0 ≤ (999 : Int)) ∧ (((a0 % 10) ≤ (8 : Int)) ∧ (((a0 / 10) % 10) ≤ (8 : Int)))))) : ((-2147483648) ≤ ((a0 / 10) : Int)) := by omega
theorem ow_79e_81 {a0 : Int} (h0 : ((0 ≤ (a0 : Int)) ∧ ((a0 ≤ (999 : Int)) ∧ (((a0 % 10) ≤ (8 : Int)) ∧ (((a0 / 10) % 10) ≤ (8 : Int)))))) : ((a0 / 10) ≤ (2147483647 : Int)) := by omega
theorem ow_79e_82 {a0 : Int} : ((-2147483648) ≤ (((a0 / 10) % 10) : Int)) := by omega
theorem ow_79e_83 {a0 : Int} (h0 : ((0 ≤ (a0 : Int)) ∧ ((a0 ≤ (999 : Int)) ∧ (((a0 % 10) ≤ (8 : Int)) ∧ (((a0 / 10) % 10) ≤ (8 : Int)))))) : (((a0 / 10) % 10) ≤ (2147483647 : Int)) := by omega
theorem ow_79e_84 {a0 : Int} : ((-2147483648) ≤ ((a0 % 10) : Int)) := by omega
theorem ow_79e_85 {a0 : Int} (h0 : ((0 ≤ (a0 : Int)) ∧ ((a0 ≤ (999 : Int)) ∧ (((a0 % 10) ≤ (8 : Int)) ∧ (((a0 / 10) % 10) ≤ (8 : Int)))))) : ((a0 % 10) ≤ (2147483647 : Int)) := by omega
theorem ow_79e_86 {a0 : Int} (h0 : ((0 ≤ (a0 : Int)) ∧ (a0 ≤ (8 : Int)))) : ((-2147483648) ≤ (a0 : Int)) := by omega
theorem ow_79e_87 {a0 : Int} (h0 : ((0 ≤ (a0 : Int)) ∧ (a0 ≤ (8 : Int)))) : (a0 ≤ (2147483647 : Int)) := by omega
theorem ow_79e_88 {a0 : Int} (h0 : ((0 ≤ (a0 : Int)) ∧ (a0 ≤ (3 : Int)))) : (0 ≤ (a0 : Int)) := by omega
theorem ow_79e_89 {a0 : Int} (h0 : ((0 ≤ (a0 : Int)) ∧ (a0 ≤ (3 : Int)))) : (a0 ≤ (3 : Int)) := by omega
theorem ow_79e_90 {a0 a1 : Int} (h0 : ((0 ≤ (a0 : Int)) ∧ ((a0 ≤ (1 : Int)) ∧ ((a0 = (1 : Int)) → ((0 ≤ (a1 : Int)) ∧ (a1 ≤ (59 : Int))))))) : ((-2147483648) ≤ (a0 : Int)) := by omega
theorem ow_79e_91 {a0 a1 : Int} (h0 : ((0 ≤ (a0 : Int)) ∧ ((a0 ≤ (1 : Int)) ∧ ((a0 = (1 : Int)) → ((0 ≤ (a1 : Int)) ∧ (a1 ≤ (59 : Int))))))) : (a0 ≤ (2147483647 : Int)) := by omega
theorem ow_79e_92 {a0 : Int} : (((a0 < (0 : Int)) ∨ (5 < (a0 : Int))) ∨ ((a0 = (0 : Int)) ∨ ((a0 = (1 : Int)) ∨ ((a0 = (2 : Int)) ∨ ((a0 = (3 : Int)) ∨ ((a0 = (4 : Int)) ∨ (a0 = (5 : Int)))))))) := by omega
theorem ow_79e_93 : ((-2147483648) ≤ ((-2147483648) : Int)) := by omega
theorem ow_79e_94 : ((-2147483648) ≤ (999 : Int)) := by omega
theorem ow_79e_95 {a0 : Int} (h0 : (a0 = (0 : Int))) : ((-2147483648) ≤ (a0 : Int)) := by omega
theorem ow_79e_96 {a0 : Int} (h0 : (a0 = (0 : Int))) : (a0 ≤ (2147483647 : Int)) := by omega
theorem ow_79e_97 {a0 : Int} (h0 : (a0 = (0 : Int))) : (0 ≤ (a0 : Int)) := by omega
theorem ow_79e_98 {a0 : Int} (h0 : (a0 = (0 : Int))) : (a0 ≤ (5 : Int)) := by omega
theorem ow_79e_99 {a0 : Int} (h0 : (a0 = (0 : Int))) : ¬(((a0 < (0 : Int)) ∨ (5 < (a0 : Int)))) := by omega
theorem ow_79e_100 {a0 a1 : Int} (h0 : ((0 ≤ (a0 : Int)) ∧ ((a0 ≤ (1 : Int)) ∧ ((a0 = (1 : Int)) → ((0 ≤ (a1 : Int)) ∧ (a1 ≤ (59 : Int))))))) (h1 : ¬((a0 = (0 : Int)))) : ((a1 : Int).toNat < (60 : Nat)) := by omega
theorem ow_79e_101 {a0 a1 : Int} (h0 : ((0 ≤ (a0 : Int)) ∧ ((a0 ≤ (1 : Int)) ∧ ((a0 = (1 : Int)) → ((0 ≤ (a1 : Int)) ∧ (a1 ≤ (59 : Int))))))) (h1 : ¬((a0 = (0 : Int)))) : (0 ≤ (a1 : Int)) := by omega
theorem ow_79e_102 {a0 a1 : Int} (h0 : ((0 ≤ (a0 : Int)) ∧ ((a0 ≤ (1 : Int)) ∧ ((a0 = (1 : Int)) → ((0 ≤ (a1 : Int)) ∧ (a1 ≤ (59 : Int))))))) (h1 : ¬((a0 = (0 : Int)))) : (a1 < (((60 : Nat) : Int) : Int)) := by omega
theorem ow_79e_103 {a0 : Int} (h0 : ((0 ≤ (a0 : Int)) ∧ ((a0 ≤ (999 : Int)) ∧ (((a0 % 10) ≤ (8 : Int)) ∧ (((a0 / 10) % 10) ≤ (8 : Int)))))) : (a0 ≤ (999 : Int)) := by omega
theorem ow_79e_104 {a0 : Int} (h0 : (a0 = (1 : Int))) : ((-2147483648) ≤ (a0 : Int)) := by omega
theorem ow_79e_105 {a0 : Int} (h0 : (a0 = (1 : Int))) : (a0 ≤ (2147483647 : Int)) := by omega
theorem ow_79e_106 {a0 : Int} (h0 : (a0 = (1 : Int))) : (0 ≤ (a0 : Int)) := by omega
theorem ow_79e_107 {a0 : Int} (h0 : (a0 = (1 : Int))) : (a0 ≤ (5 : Int)) := by omega
theorem ow_79e_108 {a0 : Int} (h0 : (a0 = (1 : Int))) : ¬(((a0 < (0 : Int)) ∨ (5 < (a0 : Int)))) := by omega
theorem ow_79e_109 {a0 : Int} (h0 : (a0 = (1 : Int))) : ¬((a0 = (0 : Int))) := by omega
theorem ow_79e_110 {a0 : Int} (h0 : ((0 ≤ (a0 : Int)) ∧ (a0 ≤ (99 : Int)))) : ((-2147483648) ≤ (a0 : Int)) := by omega
theorem ow_79e_111 {a0 : Int} (h0 : ((0 ≤ (a0 : Int)) ∧ (a0 ≤ (99 : Int)))) : (a0 ≤ (999 : Int)) := by omega
theorem ow_79e_112 {a0 : Int} (h0 : (a0 = (2 : Int))) : ((-2147483648) ≤ (a0 : Int)) := by omega
theorem ow_79e_113 {a0 : Int} (h0 : (a0 = (2 : Int))) : (a0 ≤ (2147483647 : Int)) := by omega
theorem ow_79e_114 {a0 : Int} (h0 : (a0 = (2 : Int))) : (0 ≤ (a0 : Int)) := by omega
theorem ow_79e_115 {a0 : Int} (h0 : (a0 = (2 : Int))) : (a0 ≤ (5 : Int)) := by omega
theorem ow_79e_116 {a0 : Int} (h0 : (a0 = (2 : Int))) : ¬(((a0 < (0 : Int)) ∨ (5 < (a0 : Int)))) := by omega
theorem ow_79e_117 {a0 : Int} (h0 : (a0 = (2 : Int))) : ¬((a0 = (0 : Int))) := by omega
theorem ow_79e_118 {a0 : Int} (h0 : (a0 = (2 : Int))) : ¬((a0 = (1 : Int))) := by omega
theorem ow_79e_119 {a0 : Int} (h0 : (((-99) ≤ (a0 : Int)) ∧ (a0 ≤ (99 : Int)))) : ((-2147483648) ≤ (a0 : Int)) := by omega
theorem ow_79e_120 {a0 : Int} (h0 : (((-99) ≤ (a0 : Int)) ∧ (a0 ≤ (99 : Int)))) : (a0 ≤ (999 : Int)) := by omega
theorem ow_79e_121 {a0 : Int} (h0 : (a0 = (3 : Int))) : ((-2147483648) ≤ (a0 : Int)) := by omega
theorem ow_79e_122 {a0 : Int} (h0 : (a0 = (3 : Int))) : (a0 ≤ (2147483647 : Int)) := by omega
theorem ow_79e_123 {a0 : Int} (h0 : (a0 = (3 : Int))) : (0 ≤ (a0 : Int)) := by omega
theorem ow_79e_124 {a0 : Int} (h0 : (a0 = (3 : Int))) : (a0 ≤ (5 : Int)) := by omega
theorem ow_79e_125 {a0 : Int} (h0 : (a0 = (3 : Int))) : ¬(((a0 < (0 : Int)) ∨ (5 < (a0 : Int)))) := by omega
theorem ow_79e_126 {a0 : Int} (h0 : (a0 = (3 : Int))) : ¬((a0 = (0 : Int))) := by omega
theorem ow_79e_127 {a0 : Int} (h0 : (a0 = (3 : Int))) : ¬((a0 = (1 : Int))) := by omega
theorem ow_79e_128 {a0 : Int} (h0 : (a0 = (3 : Int))) : ¬((a0 = (2 : Int))) := by omega
theorem ow_79e_129 {a0 : Int} (h0 : ((0 ≤ (a0 : Int)) ∧ (a0 ≤ (8 : Int)))) : (a0 ≤ (999 : Int)) := by omega
theorem ow_79e_130 {a0 : Int} (h0 : (a0 = (4 : Int))) : ((-2147483648) ≤ (a0 : Int)) := by omega
theorem ow_79e_131 {a0 : Int} (h0 : (a0 = (4 : Int))) : (a0 ≤ (2147483647 : Int)) := by omega
theorem ow_79e_132 {a0 : Int} (h0 : (a0 = (4 : Int))) : (0 ≤ (a0 : Int)) := by omega
theorem ow_79e_133 {a0 : Int} (h0 : (a0 = (4 : Int))) : (a0 ≤ (5 : Int)) := by omega
theorem ow_79e_134 {a0 : Int} (h0 : (a0 = (4 : Int))) : ¬(((a0 < (0 : Int)) ∨ (5 < (a0 : Int)))) := by omega
theorem ow_79e_135 {a0 : Int} (h0 : (a0 = (4 : Int))) : ¬((a0 = (0 : Int))) := by omega
theorem ow_79e_136 {a0 : Int} (h0 : (a0 = (4 : Int))) : ¬((a0 = (1 : Int))) := by omega
theorem ow_79e_137 {a0 : Int} (h0 : (a0 = (4 : Int))) : ¬((a0 = (2 : Int))) := by omega
theorem ow_79e_138 {a0 : Int} (h0 : (a0 = (4 : Int))) : ¬((a0 = (3 : Int))) := by omega
theorem ow_79e_139 {a0 : Int} (h0 : ((0 ≤ (a0 : Int)) ∧ (a0 ≤ (1 : Int)))) : ((-2147483648) ≤ (a0 : Int)) := by omega
theorem ow_79e_140 {a0 : Int} (h0 : ((0 ≤ (a0 : Int)) ∧ (a0 ≤ (1 : Int)))) : (a0 ≤ (2147483647 : Int)) := by omega
theorem ow_79e_141 : ((-2147483648) ≤ (0 : Int)) := by omega
theorem ow_79e_142 : (0 ≤ (999 : Int)) := by omega
theorem ow_79e_143 : ((-2147483648) ≤ (1 : Int)) := by omega
theorem ow_79e_144 : (1 ≤ (999 : Int)) := by omega
theorem ow_79e_145 {a0 : Int} (h0 : (a0 = (5 : Int))) : ((-2147483648) ≤ (a0 : Int)) := by omega
theorem ow_79e_146 {a0 : Int} (h0 : (a0 = (5 : Int))) : (a0 ≤ (2147483647 : Int)) := by omega
theorem ow_79e_147 {a0 : Int} (h0 : (a0 = (5 : Int))) : (0 ≤ (a0 : Int)) := by omega
theorem ow_79e_148 {a0 : Int} (h0 : (a0 = (5 : Int))) : (a0 ≤ (5 : Int)) := by omega
theorem ow_79e_149 {a0 : Int} (h0 : (a0 = (5 : Int))) : ¬(((a0 < (0 : Int)) ∨ (5 < (a0 : Int)))) := by omega
theorem ow_79e_150 {a0 : Int} (h0 : (a0 = (5 : Int))) : ¬((a0 = (0 : Int))) := by omega
theorem ow_79e_151 {a0 : Int} (h0 : (a0 = (5 : Int))) : ¬((a0 = (1 : Int))) := by omega
theorem ow_79e_152 {a0 : Int} (h0 : (a0 = (5 : Int))) : ¬((a0 = (2 : Int))) := by omega
theorem ow_79e_153 {a0 : Int} (h0 : (a0 = (5 : Int))) : ¬((a0 = (3 : Int))) := by omega
theorem ow_79e_154 {a0 : Int} (h0 : (a0 = (5 : Int))) : ¬((a0 = (4 : Int))) := by omega
theorem ow_79e_155 {a0 a1 : Int} (h0 : ((0 ≤ (a0 : Int)) ∧ ((a0 ≤ (1 : Int)) ∧ ((a0 = (1 : Int)) → ((0 ≤ (a1 : Int)) ∧ (a1 ≤ (59 : Int))))))) (h1 : ¬((a0 = (0 : Int)))) : (a1 ≤ (59 : Int)) := by omega
theorem ow_79e_156 {a0 : Int} (h0 : ((0 ≤ (a0 : Int)) ∧ (a0 ≤ (3 : Int)))) : ((-2147483648) ≤ (a0 : Int)) := by omega
theorem ow_79e_157 {a0 : Int} (h0 : ((0 ≤ (a0 : Int)) ∧ (a0 ≤ (3 : Int)))) : (a0 ≤ (999 : Int)) := by omega
theorem ow_79e_158 {a0 : Int} (h0 : (a0 = ((-1) : Int))) : ((1 = (1 : Int)) → (((-1) ≤ (a0 : Int)) ∧ (a0 ≤ (9 : Int)))) := by omega
theorem ow_79e_159 {a0 a1 : Int} (h0 : ((0 ≤ (a0 : Int)) ∧ ((a0 ≤ (1 : Int)) ∧ ((a0 = (1 : Int)) → ((0 ≤ (a1 : Int)) ∧ (a1 ≤ (9 : Int))))))) : ((-2147483648) ≤ (a0 : Int)) := by omega
theorem ow_79e_160 {a0 a1 : Int} (h0 : ((0 ≤ (a0 : Int)) ∧ ((a0 ≤ (1 : Int)) ∧ ((a0 = (1 : Int)) → ((0 ≤ (a1 : Int)) ∧ (a1 ≤ (9 : Int))))))) : (a0 ≤ (2147483647 : Int)) := by omega
theorem ow_79e_161 {a0 : Int} : ((0 = (1 : Int)) → (((-1) ≤ (a0 : Int)) ∧ (a0 ≤ (9 : Int)))) := by omega
theorem ow_79e_162 {a0 a1 : Int} (h0 : ((0 ≤ (a0 : Int)) ∧ ((a0 ≤ (1 : Int)) ∧ ((a0 = (1 : Int)) → ((0 ≤ (a1 : Int)) ∧ (a1 ≤ (9 : Int))))))) (h1 : ¬((a0 = (0 : Int)))) : ((1 = (1 : Int)) → (((-1) ≤ (a1 : Int)) ∧ (a1 ≤ (9 : Int)))) := by omega
theorem ow_79e_163 {a0 a1 : Int} (h0 : ((0 ≤ (a0 : Int)) ∧ (a0 ≤ (60 : Int)))) (h1 : (a1 < (a0 : Int))) : ((a1 : Int).toNat < (60 : Nat)) := by omega
theorem ow_79e_164 {a0 a1 : Int} (h0 : ((0 ≤ (a0 : Int)) ∧ (a0 ≤ (60 : Int)))) (h1 : (a1 < (a0 : Int))) : (a1 < (((60 : Nat) : Int) : Int)) := by omega
theorem ow_79e_165 {a0 : Int} (h0 : ((0 ≤ (a0 : Int)) ∧ ((a0 ≤ (999 : Int)) ∧ (((a0 % 10) ≤ (8 : Int)) ∧ (((a0 / 10) % 10) ≤ (8 : Int)))))) : (((a0 % 10) ≤ (8 : Int)) ∧ (((a0 / 10) % 10) ≤ (8 : Int))) := by omega
theorem ow_79e_166 {a0 : Int} (h0 : ((0 ≤ (a0 : Int)) ∧ (a0 ≤ (8 : Int)))) : ((a0 : Int).toNat < (9 : Nat)) := by omega
theorem ow_79e_167 {a0 : Int} (h0 : ((0 ≤ (a0 : Int)) ∧ (a0 ≤ (8 : Int)))) : (a0 < (((9 : Nat) : Int) : Int)) := by omega
theorem ow_79e_168 {a0 a2 a3 : Int} {k1 : Nat} (h0 : (((60 - a0) : Int).toNat = (k1 : Nat))) (h1 : ((0 ≤ (a2 : Int)) ∧ (a2 ≤ (60 : Int)))) (h2 : (a0 < (a2 : Int))) (h3 : ((a0 + 1) = (a3 : Int))) : (((60 - a3) : Int).toNat < (k1 : Nat)) := by omega
theorem ow_79e_169 {a0 a1 : Int} (h0 : ((0 ≤ (a0 : Int)) ∧ (a0 ≤ (60 : Int)))) (h1 : ((a0 + 1) = (a1 : Int))) : (0 ≤ (a1 : Int)) := by omega
theorem ow_79e_170 {a0 a1 a2 : Int} (h0 : ((0 ≤ (a0 : Int)) ∧ (a0 ≤ (60 : Int)))) (h1 : (a1 < (a0 : Int))) (h2 : ((a1 + 1) = (a2 : Int))) : (a2 ≤ (60 : Int)) := by omega
theorem ow_79e_171 {a0 : Int} (h0 : ((0 ≤ (a0 : Int)) ∧ ((a0 ≤ (999 : Int)) ∧ (((a0 % 10) ≤ (8 : Int)) ∧ (((a0 / 10) % 10) ≤ (8 : Int)))))) : ((-2147483648) ≤ ((a0 / 100) : Int)) := by omega
theorem ow_79e_172 {a0 : Int} (h0 : ((0 ≤ (a0 : Int)) ∧ ((a0 ≤ (999 : Int)) ∧ (((a0 % 10) ≤ (8 : Int)) ∧ (((a0 / 10) % 10) ≤ (8 : Int)))))) : ((a0 / 100) ≤ (2147483647 : Int)) := by omega
theorem ow_79e_173 {a0 : Int} (h0 : ((0 ≤ (a0 : Int)) ∧ (a0 ≤ (119 : Int)))) : (0 ≤ (a0 : Int)) := by omega
theorem ow_79e_174 {a0 : Int} (h0 : ((0 ≤ (a0 : Int)) ∧ (a0 ≤ (119 : Int)))) : ((-2147483648) ≤ (a0 : Int)) := by omega
theorem ow_79e_175 {a0 : Int} (h0 : ((0 ≤ (a0 : Int)) ∧ (a0 ≤ (119 : Int)))) : (a0 ≤ (2147483647 : Int)) := by omega
theorem ow_79e_176 {a0 : Int} : ((-2147483648) ≤ ((a0 % 2) : Int)) := by omega
theorem ow_79e_177 {a0 : Int} : ((a0 % 2) ≤ (2147483647 : Int)) := by omega
theorem ow_79e_178 {a0 : Int} (h0 : ((0 ≤ (a0 : Int)) ∧ (a0 ≤ (119 : Int)))) : (((a0 / 2) : Int).toNat < (60 : Nat)) := by omega
theorem ow_79e_179 {a0 : Int} (h0 : ((0 ≤ (a0 : Int)) ∧ (a0 ≤ (119 : Int)))) : (0 ≤ ((a0 / 2) : Int)) := by omega
theorem ow_79e_180 {a0 : Int} (h0 : ((0 ≤ (a0 : Int)) ∧ (a0 ≤ (119 : Int)))) : ((a0 / 2) < (((60 : Nat) : Int) : Int)) := by omega
theorem ow_79e_181 {a0 a1 : Int} (h0 : ((1 ≤ (a0 : Int)) ∧ ((a1 ≤ (a0 : Int)) ∧ ((a0 = (1 : Int)) ∨ (a0 = (a1 : Int)))))) : (1 ≤ (a0 : Int)) := by omega
theorem ow_79e_182 {a0 a1 : Int} (h0 : (((-9223372036854775808) ≤ (a0 : Int)) ∧ (a0 ≤ (9223372036854775807 : Int)))) (h1 : ((1 ≤ (a1 : Int)) ∧ ((a0 ≤ (a1 : Int)) ∧ ((a1 = (1 : Int)) ∨ (a1 = (a0 : Int)))))) : (a1 ≤ (9223372036854775807 : Int)) := by omega
theorem ow_79e_183 {a0 a1 : Int} (h0 : ((1 ≤ (a0 : Int)) ∧ ((a0 ≤ (9223372036854775807 : Int)) ∧ ((1 ≤ (a0 : Int)) ∧ (a1 ≤ (a0 : Int)))))) : (1 ≤ (a0 : Int)) := by omega
theorem ow_79e_184 {a0 a1 : Int} (h0 : ((1 ≤ (a0 : Int)) ∧ ((a0 ≤ (9223372036854775807 : Int)) ∧ ((1 ≤ (a0 : Int)) ∧ (a1 ≤ (a0 : Int)))))) : (a0 ≤ (9223372036854775807 : Int)) := by omega
theorem ow_79e_185 {a0 : Int} (h0 : ((0 ≤ (a0 : Int)) ∧ (a0 ≤ (119 : Int)))) (h1 : ((a0 % 2) = (0 : Int))) : (((a0 / 2) : Int).toNat < (60 : Nat)) := by omega
theorem ow_79e_186 {a0 : Int} (h0 : ((0 ≤ (a0 : Int)) ∧ (a0 ≤ (119 : Int)))) (h1 : ((a0 % 2) = (0 : Int))) : (0 ≤ ((a0 / 2) : Int)) := by omega
theorem ow_79e_187 {a0 : Int} (h0 : ((0 ≤ (a0 : Int)) ∧ (a0 ≤ (119 : Int)))) (h1 : ((a0 % 2) = (0 : Int))) : ((a0 / 2) < (((60 : Nat) : Int) : Int)) := by omega
theorem ow_79e_188 {a0 : Int} (h0 : ((0 ≤ (a0 : Int)) ∧ (a0 ≤ (240 : Int)))) : ((-2147483648) ≤ (a0 : Int)) := by omega
theorem ow_79e_189 {a0 : Int} (h0 : ((0 ≤ (a0 : Int)) ∧ (a0 ≤ (240 : Int)))) : (a0 ≤ (2147483647 : Int)) := by omega
theorem ow_79e_190 {a0 a1 : Int} (h0 : ((0 ≤ (a0 : Int)) ∧ (a0 ≤ (120 : Int)))) (h1 : (a0 ≤ ((2 * a1) : Int))) : ((-2147483648) ≤ ((4 * a1) : Int)) := by omega
theorem ow_79e_191 {a0 : Int} (h0 : ((0 ≤ (a0 : Int)) ∧ (a0 ≤ (60 : Int)))) : ((4 * a0) ≤ (2147483647 : Int)) := by omega
theorem ow_79e_192 {a0 : Int} (h0 : ((0 ≤ (a0 : Int)) ∧ (a0 ≤ (120 : Int)))) : ((-2147483648) ≤ (a0 : Int)) := by omega
theorem ow_79e_193 {a0 : Int} (h0 : ((0 ≤ (a0 : Int)) ∧ (a0 ≤ (120 : Int)))) : (a0 ≤ (2147483647 : Int)) := by omega
theorem ow_79e_194 {a0 a1 : Int} (h0 : ((0 ≤ (a0 : Int)) ∧ (a0 ≤ (240 : Int)))) (h1 : (a0 < ((4 * a1) : Int))) : ((-2147483648) ≤ ((2 * a1) : Int)) := by omega
theorem ow_79e_195 {a0 : Int} (h0 : ((0 ≤ (a0 : Int)) ∧ (a0 ≤ (60 : Int)))) : ((2 * a0) ≤ (2147483647 : Int)) := by omega
theorem ow_79e_196 {a0 : Int} (h0 : ((0 ≤ (a0 : Int)) ∧ (a0 ≤ (120 : Int)))) : (0 ≤ (a0 : Int)) := by omega
theorem ow_79e_197 {a0 a1 a2 a3 : Int} (h0 : ((0 ≤ (a0 : Int)) ∧ (a0 ≤ (120 : Int)))) (h1 : ((a1 + a0) = (a2 : Int))) (h2 : (a2 < ((4 * a3) : Int))) (h3 : ((2 * a3) ≤ (a0 : Int))) : (a1 ≤ (119 : Int)) := by omega
theorem ow_79e_198 {a0 a1 a3 a4 : Int} {k2 : Nat} (h0 : ((0 ≤ (a0 : Int)) ∧ (a0 ≤ (120 : Int)))) (h1 : (((240 - a1) : Int).toNat = (k2 : Nat))) (h2 : (a1 < ((4 * a3) : Int))) (h3 : ((2 * a3) ≤ (a0 : Int))) (h4 : ((a1 + 1) = (a4 : Int))) : (((240 - a4) : Int).toNat < (k2 : Nat)) := by omega
theorem ow_79e_199 {a0 a1 : Int} (h0 : ((0 ≤ (a0 : Int)) ∧ (a0 ≤ (120 : Int)))) (h1 : ((a0 + 1) = (a1 : Int))) : (0 ≤ (a1 : Int)) := by omega
theorem ow_79e_200 {a0 a1 a2 a3 a4 : Int} (h0 : ((0 ≤ (a0 : Int)) ∧ (a0 ≤ (60 : Int)))) (h1 : ((a1 + a2) = (a3 : Int))) (h2 : (a3 < ((4 * a0) : Int))) (h3 : ((2 * a0) ≤ (a2 : Int))) (h4 : ((a1 + 1) = (a4 : Int))) : (a4 ≤ (120 : Int)) := by omega
theorem ow_79e_201 {a0 a1 a2 : Int} (h0 : ((0 ≤ (a0 : Int)) ∧ (a0 ≤ (240 : Int)))) (h1 : (a0 < ((4 * a1) : Int))) (h2 : ((2 * a1) ≤ (a2 : Int))) : (0 ≤ (a2 : Int)) := by omega
theorem ow_79e_202 {a0 : Int} (h0 : ((0 ≤ (a0 : Int)) ∧ (a0 ≤ (120 : Int)))) : (a0 ≤ (120 : Int)) := by omega
theorem ow_79e_203 {a0 a1 : Int} (h0 : ((0 ≤ (a0 : Int)) ∧ (a0 ≤ (240 : Int)))) (h1 : ((a0 + 1) = (a1 : Int))) : (0 ≤ (a1 : Int)) := by omega
theorem ow_79e_204 {a0 a1 a2 a3 : Int} (h0 : ((0 ≤ (a0 : Int)) ∧ (a0 ≤ (120 : Int)))) (h1 : (a1 < ((4 * a2) : Int))) (h2 : ((2 * a2) ≤ (a0 : Int))) (h3 : ((a1 + 1) = (a3 : Int))) : (a3 ≤ (240 : Int)) := by omega
theorem ow_79e_205 {a0 a1 a2 a3 a4 : Int} (h0 : ((a0 + a1) = (a2 : Int))) (h1 : ((a0 + 1) = (a3 : Int))) (h2 : ((a2 + 1) = (a4 : Int))) : ((a3 + a1) = (a4 : Int)) := by omega
theorem ow_79e_206 {a0 a1 a2 a3 a4 : Int} (h0 : ((a0 + a1) = (a2 : Int))) (h1 : (a2 < ((4 * a3) : Int))) (h2 : ((2 * a3) ≤ (a1 : Int))) (h3 : ((a0 + 1) = (a4 : Int))) : (a4 ≤ ((2 * a3) : Int)) := by omega
theorem ow_79e_207 {a0 a1 : Int} (h0 : (a0 ≤ ((2 * a1) : Int))) : (a0 ≤ ((2 * a1) : Int)) := by omega
theorem ow_79e_208 {a0 a1 a2 : Int} (h0 : ((0 ≤ (a0 : Int)) ∧ (a0 ≤ (120 : Int)))) (h1 : (a1 < ((2 * a2) : Int))) (h2 : ((2 * a2) ≤ (a0 : Int))) : (a1 ≤ (119 : Int)) := by omega
theorem ow_79e_209 {a0 a1 a2 a3 : Int} (h0 : ((0 ≤ (a0 : Int)) ∧ (a0 ≤ (240 : Int)))) (h1 : ((a1 + a2) = (a0 : Int))) (h2 : (a2 < ((2 * a3) : Int))) (h3 : ((2 * a3) ≤ (a1 : Int))) : (0 ≤ (a1 : Int)) := by omega
theorem ow_79e_210 {a0 a1 a2 a3 : Int} (h0 : ((0 ≤ (a0 : Int)) ∧ (a0 ≤ (120 : Int)))) (h1 : (a1 < ((2 * a2) : Int))) (h2 : ((2 * a2) ≤ (a0 : Int))) (h3 : ((a1 + 1) = (a3 : Int))) : (a3 ≤ (120 : Int)) := by omega
theorem ow_79e_211 {a0 a1 a2 a3 a4 : Int} (h0 : ((a0 + a1) = (a2 : Int))) (h1 : ((a1 + 1) = (a3 : Int))) (h2 : ((a2 + 1) = (a4 : Int))) : ((a0 + a3) = (a4 : Int)) := by omega
theorem ow_79e_212 {a0 a1 a2 : Int} (h0 : (a0 < ((2 * a1) : Int))) (h1 : ((a0 + 1) = (a2 : Int))) : (a2 ≤ ((2 * a1) : Int)) := by omega
theorem ow_79e_213 {a0 a1 : Int} (h0 : ((0 ≤ (a0 : Int)) ∧ (a0 ≤ (60 : Int)))) (h1 : (a1 < ((2 * a0) : Int))) : (a1 ≤ (119 : Int)) := by omega
theorem ow_79e_214 {a0 a1 a2 a3 a5 : Int} {k4 : Nat} (h0 : ((0 ≤ (a0 : Int)) ∧ (a0 ≤ (60 : Int)))) (h1 : ((a1 + a2) = (a3 : Int))) (h2 : (((240 - a3) : Int).toNat = (k4 : Nat))) (h3 : (a2 < ((2 * a0) : Int))) (h4 : (a1 < ((2 * a0) : Int))) (h5 : ((a3 + 1) = (a5 : Int))) : (((240 - a5) : Int).toNat < (k4 : Nat)) := by omega
theorem ow_79e_215 {a0 a1 : Int} (h0 : ((0 ≤ (a0 : Int)) ∧ (a0 ≤ (60 : Int)))) (h1 : (a1 < ((2 * a0) : Int))) : (a1 ≤ (120 : Int)) := by omega
theorem ow_79e_216 {a0 a1 a2 : Int} (h0 : ((0 ≤ (a0 : Int)) ∧ (a0 ≤ (60 : Int)))) (h1 : (a1 < ((2 * a0) : Int))) (h2 : ((a1 + 1) = (a2 : Int))) : (a2 ≤ (120 : Int)) := by omega
theorem ow_79e_217 {a0 a1 a2 a3 a4 : Int} (h0 : ((0 ≤ (a0 : Int)) ∧ (a0 ≤ (60 : Int)))) (h1 : ((a1 + a2) = (a3 : Int))) (h2 : (a2 < ((2 * a0) : Int))) (h3 : (a1 < ((2 * a0) : Int))) (h4 : ((a3 + 1) = (a4 : Int))) : (a4 ≤ (240 : Int)) := by omega
theorem ow_79e_218 {a0 a1 : Int} (h0 : (a0 < ((2 * a1) : Int))) : (a0 ≤ ((2 * a1) : Int)) := by omega
theorem ow_79e_219 : ((0 + 0) = (0 : Int)) := by omega
theorem ow_79e_220 {a0 : Int} (h0 : ((0 ≤ (a0 : Int)) ∧ (a0 ≤ (60 : Int)))) : (0 ≤ ((2 * a0) : Int)) := by omega
theorem ow_79e_221 {a0 : Int} (h0 : ((0 ≤ (a0 : Int)) ∧ (a0 ≤ (128 : Int)))) : ((-2147483648) ≤ (a0 : Int)) := by omega
theorem ow_79e_222 {a0 : Int} (h0 : ((0 ≤ (a0 : Int)) ∧ (a0 ≤ (128 : Int)))) : (a0 ≤ (2147483647 : Int)) := by omega
theorem ow_79e_223 {a0 : Int} (h0 : (((-1) ≤ (a0 : Int)) ∧ (a0 ≤ (127 : Int)))) : ((-2147483648) ≤ (a0 : Int)) := by omega
theorem ow_79e_224 {a0 : Int} (h0 : (((-1) ≤ (a0 : Int)) ∧ (a0 ≤ (127 : Int)))) : (a0 ≤ (2147483647 : Int)) := by omega
theorem ow_79e_225 : ((-1) ≤ (0 : Int)) := by omega
theorem ow_79e_226 {a0 : Int} (h0 : (((-1) ≤ (a0 : Int)) ∧ (a0 ≤ (127 : Int)))) : ((a0 : Int).toNat < (128 : Nat)) := by omega
theorem ow_79e_227 {a0 : Int} (h0 : (((-1) ≤ (a0 : Int)) ∧ (a0 ≤ (127 : Int)))) : (a0 < (((128 : Nat) : Int) : Int)) := by omega
theorem ow_79e_228 {a0 a1 a2 : Int} (h0 : (((a0 = (1 : Int)) ∧ (a1 < (a2 : Int))) ∨ (((a0 = (0 : Int)) ∧ (a2 = (a1 : Int))) ∨ ((a0 = ((-1) : Int)) ∧ (a2 < (a1 : Int)))))) : ((-2147483648) ≤ (a0 : Int)) := by omega
theorem ow_79e_229 {a0 a1 a2 : Int} (h0 : (((a0 = (1 : Int)) ∧ (a1 < (a2 : Int))) ∨ (((a0 = (0 : Int)) ∧ (a2 = (a1 : Int))) ∨ ((a0 = ((-1) : Int)) ∧ (a2 < (a1 : Int)))))) : (a0 ≤ (2147483647 : Int)) := by omega
theorem ow_79e_230 {a0 a2 : Int} {k1 : Nat} (h0 : (((a0 - (-1)) : Int).toNat = (k1 : Nat))) (h1 : (0 ≤ (a0 : Int))) (h2 : ((a0 + (-1)) = (a2 : Int))) : (((a2 - (-1)) : Int).toNat < (k1 : Nat)) := by omega
theorem ow_79e_231 {a0 a1 : Int} (h0 : (0 ≤ (a0 : Int))) (h1 : ((a0 + (-1)) = (a1 : Int))) : ((-1) ≤ (a1 : Int)) := by omega
theorem ow_79e_232 {a0 a1 : Int} (h0 : (((-1) ≤ (a0 : Int)) ∧ (a0 ≤ (127 : Int)))) (h1 : ((a0 + (-1)) = (a1 : Int))) : (a1 ≤ (127 : Int)) := by omega
theorem ow_79e_233 : ((-1) ≤ (1 : Int)) := by omega
theorem ow_79e_234 {a0 : Int} (h0 : ((0 ≤ (a0 : Int)) ∧ (a0 ≤ (128 : Int)))) : ((-1) ≤ ((a0 - 1) : Int)) := by omega
theorem ow_79e_235 {a0 : Int} (h0 : ((0 ≤ (a0 : Int)) ∧ (a0 ≤ (128 : Int)))) : ((a0 - 1) ≤ (127 : Int)) := by omega
theorem ow_79e_236 {a0 : Int} (h0 : ((0 ≤ (a0 : Int)) ∧ (a0 ≤ (499 : Int)))) : ((-2147483648) ≤ (a0 : Int)) := by omega
theorem ow_79e_237 {a0 : Int} (h0 : ((0 ≤ (a0 : Int)) ∧ (a0 ≤ (499 : Int)))) : (a0 ≤ (2147483647 : Int)) := by omega
theorem ow_79e_238 {a0 : Int} (h0 : ((0 ≤ (a0 : Int)) ∧ (a0 ≤ (128 : Int)))) : (0 ≤ (a0 : Int)) := by omega
theorem ow_79e_239 {a0 : Int} (h0 : (a0 < (128 : Int))) : (a0 < (((128 : Nat) : Int) : Int)) := by omega
theorem ow_79e_240 {a0 : Int} (h0 : ((0 ≤ (a0 : Int)) ∧ (a0 ≤ (128 : Int)))) : (0 ≤ ((a0 + 1) : Int)) := by omega
theorem ow_79e_241 {a0 : Int} (h0 : (a0 < (128 : Int))) : ((a0 + 1) ≤ (128 : Int)) := by omega
theorem ow_79e_242 {a0 a1 : Int} (h0 : ((0 ≤ (a0 : Int)) ∧ (a0 ≤ (128 : Int)))) (h1 : (a1 < (a0 : Int))) : ((a1 : Int).toNat < (128 : Nat)) := by omega
theorem ow_79e_243 {a0 : Int} (h0 : ((0 ≤ (a0 : Int)) ∧ (a0 ≤ (499 : Int)))) : (0 ≤ (a0 : Int)) := by omega
theorem ow_79e_244 {a0 a1 : Int} (h0 : ((0 ≤ (a0 : Int)) ∧ (a0 ≤ (128 : Int)))) (h1 : (a1 < (a0 : Int))) : (a1 < (((128 : Nat) : Int) : Int)) := by omega
theorem ow_79e_245 {a0 a2 a3 : Int} {k1 : Nat} (h0 : (((499 - a0) : Int).toNat = (k1 : Nat))) (h1 : ((0 ≤ (a2 : Int)) ∧ (a2 ≤ (128 : Int)))) (h2 : (a0 < (a2 : Int))) (h3 : ((a0 + 1) = (a3 : Int))) : (((499 - a3) : Int).toNat < (k1 : Nat)) := by omega
theorem ow_79e_246 {a0 a1 : Int} (h0 : ((0 ≤ (a0 : Int)) ∧ (a0 ≤ (499 : Int)))) (h1 : ((a0 + 1) = (a1 : Int))) : (0 ≤ (a1 : Int)) := by omega
theorem ow_79e_247 {a0 a1 a2 : Int} (h0 : ((0 ≤ (a0 : Int)) ∧ (a0 ≤ (128 : Int)))) (h1 : (a1 < (a0 : Int))) (h2 : ((a1 + 1) = (a2 : Int))) : (a2 ≤ (499 : Int)) := by omega
theorem ow_79e_248 {a0 : Int} (h0 : ((0 ≤ (a0 : Int)) ∧ (a0 ≤ (1073741823 : Int)))) : ((-9223372036854775808) ≤ (a0 : Int)) := by omega
theorem ow_79e_249 {a0 : Int} (h0 : ((0 ≤ (a0 : Int)) ∧ (a0 ≤ (1073741823 : Int)))) : (a0 ≤ (9223372036854775807 : Int)) := by omega
theorem ow_79e_250 {a0 : Int} (h0 : (((-1) ≤ (a0 : Int)) ∧ (a0 ≤ (1 : Int)))) : ((-1) ≤ (a0 : Int)) := by omega
theorem ow_79e_251 {a0 : Int} (h0 : (((-1) ≤ (a0 : Int)) ∧ (a0 ≤ (1 : Int)))) : (a0 ≤ (1 : Int)) := by omega
theorem ow_79e_252 {a0 a1 a3 : Int} {k2 : Nat} (h0 : ((0 ≤ (a0 : Int)) ∧ (a0 ≤ (60 : Int)))) (h1 : (((60 - a1) : Int).toNat = (k2 : Nat))) (h2 : (a1 < (a0 : Int))) (h3 : ((a1 + 1) = (a3 : Int))) : (((60 - a3) : Int).toNat < (k2 : Nat)) := by omega
theorem ow_79e_253 {a0 : Int} (h0 : ((0 ≤ (a0 : Int)) ∧ (a0 ≤ (1 : Int)))) (h1 : ¬((a0 = (0 : Int)))) (h2 : (a0 = (0 : Int))) : False := by omega
theorem ow_79e_254 {a0 a1 : Int} (h0 : ((0 ≤ (a0 : Int)) ∧ (a0 ≤ (60 : Int)))) (h1 : ((a1 ≤ (a0 : Int)) ∧ ((a1 ≤ (a0 : Int)) ∧ ((a1 = (a0 : Int)) ∨ (a1 = (a0 : Int)))))) : (0 ≤ (a1 : Int)) := by omega
theorem ow_79e_255 {a0 a1 : Int} (h0 : ((0 ≤ (a0 : Int)) ∧ (a0 ≤ (60 : Int)))) (h1 : ((a1 ≤ (a0 : Int)) ∧ ((a1 ≤ (a0 : Int)) ∧ ((a1 = (a0 : Int)) ∨ (a1 = (a0 : Int)))))) : (a1 ≤ (60 : Int)) := by omega
theorem ow_79e_256 {a0 a1 : Int} (h0 : ((0 ≤ (a0 : Int)) ∧ ((a0 ≤ (60 : Int)) ∧ ((a0 ≤ (a1 : Int)) ∧ (a0 ≤ (a1 : Int)))))) : (0 ≤ (a0 : Int)) := by omega
theorem ow_79e_257 {a0 a1 : Int} (h0 : ((0 ≤ (a0 : Int)) ∧ ((a0 ≤ (60 : Int)) ∧ ((a0 ≤ (a1 : Int)) ∧ (a0 ≤ (a1 : Int)))))) : (a0 ≤ (60 : Int)) := by omega
theorem ow_79e_258 {a0 : Int} (h0 : ((0 ≤ (a0 : Int)) ∧ (a0 ≤ (1 : Int)))) (h1 : (a0 = (0 : Int))) (h2 : ¬((a0 = (0 : Int)))) : False := by omega
noncomputable def F_X11_kind (a1 a2 a3 a4 a5 : Int) (V0 : pm_M) : Int × pm_M := pf_call (F_X11_isKind a5 V0) fun y4 _ => (if y4 = 0 then (((-1), V0)) else (pf_call (F_X11_weighs a1 a2 a3 a4 V0) fun y11 V9 => (if ¬ (y11 = 0) then (pf_call (F_X10_chanceOfKind a5 V9) fun y22 _ => (y22, V9)) else (((-1), V9)))))
theorem F_X11_kind_eq (a1 a2 a3 a4 a5 : Int) (V0 : pm_M) : F_X11_kind a1 a2 a3 a4 a5 V0 = pf_call (F_X11_isKind a5 V0) fun y4 _ => (if y4 = 0 then (((-1), V0)) else (pf_call (F_X11_weighs a1 a2 a3 a4 V0) fun y11 V9 => (if ¬ (y11 = 0) then (pf_call (F_X10_chanceOfKind a5 V9) fun y22 _ => (y22, V9)) else (((-1), V9))))) := rfl
noncomputable def F_X11_likely (a1 a2 a3 a4 : Int) (V0 : pm_M) : Int × pm_M := pf_call (F_X11_weighs a1 a2 a3 a4 V0) fun y4 V2 => (if ¬ (y4 = 0) then (pf_call (F_X10_mostLikely  V2) fun y15 _ => (y15, V2)) else (((-1), V2)))
theorem F_X11_likely_eq (a1 a2 a3 a4 : Int) (V0 : pm_M) : F_X11_likely a1 a2 a3 a4 V0 = pf_call (F_X11_weighs a1 a2 a3 a4 V0) fun y4 V2 => (if ¬ (y4 = 0) then (pf_call (F_X10_mostLikely  V2) fun y15 _ => (y15, V2)) else (((-1), V2))) := rfl
noncomputable def F_X10_chanceNoticed (V0 : pm_M) : Int × pm_M := pf_let (V0 73 7) fun y1 => (if V0 73 0 = 45 then (pf_let (V0 45 0) fun y5 => pf_let (pm_w64 (y1 * y5)) fun y8 => pf_let (V0 73 12) fun y11 => pf_let (pm_w64 (y8 * y11)) fun y14 => pf_let (pm_w64 (16 - y1)) fun y17 => pf_let (V0 73 10) fun y20 => pf_let (pm_w64 (y17 * y20)) fun y23 => pf_let (V0 73 11) fun y26 => pf_let (pm_w64 (y23 * y26)) fun y29 => pf_let (pm_w64 (y14 + y29)) fun y32 => pf_let (pm_cmp y32 0) fun y35 => (if ¬ (y35 = 0) then (pf_let (pm_w64 (y14 + y29)) fun y38 => pf_call (F_X11_ofThousand y29 y38 V0) fun y44 _ => (y44, V0)) else ((1000, V0)))) else (pf_let (V0 51 0) fun y47 => pf_let (pm_w64 (y1 * y47)) fun y50 => pf_let (V0 73 12) fun y53 => pf_let (pm_w64 (y50 * y53)) fun y56 => pf_let (pm_w64 (16 - y1)) fun y59 => pf_let (V0 73 10) fun y62 => pf_let (pm_w64 (y59 * y62)) fun y65 => pf_let (V0 73 11) fun y68 => pf_let (pm_w64 (y65 * y68)) fun y71 => pf_let (pm_w64 (y56 + y71)) fun y74 => pf_let (pm_cmp y74 0) fun y77 => (if ¬ (y77 = 0) then (pf_let (pm_w64 (y56 + y71)) fun y80 => pf_call (F_X11_ofThousand y71 y80 V0) fun y86 _ => (y86, V0)) else ((1000, V0)))))
theorem F_X10_chanceNoticed_eq (V0 : pm_M) : F_X10_chanceNoticed V0 = pf_let (V0 73 7) fun y1 => (if V0 73 0 = 45 then (pf_let (V0 45 0) fun y5 => pf_let (pm_w64 (y1 * y5)) fun y8 => pf_let (V0 73 12) fun y11 => pf_let (pm_w64 (y8 * y11)) fun y14 => pf_let (pm_w64 (16 - y1)) fun y17 => pf_let (V0 73 10) fun y20 => pf_let (pm_w64 (y17 * y20)) fun y23 => pf_let (V0 73 11) fun y26 => pf_let (pm_w64 (y23 * y26)) fun y29 => pf_let (pm_w64 (y14 + y29)) fun y32 => pf_let (pm_cmp y32 0) fun y35 => (if ¬ (y35 = 0) then (pf_let (pm_w64 (y14 + y29)) fun y38 => pf_call (F_X11_ofThousand y29 y38 V0) fun y44 _ => (y44, V0)) else ((1000, V0)))) else (pf_let (V0 51 0) fun y47 => pf_let (pm_w64 (y1 * y47)) fun y50 => pf_let (V0 73 12) fun y53 => pf_let (pm_w64 (y50 * y53)) fun y56 => pf_let (pm_w64 (16 - y1)) fun y59 => pf_let (V0 73 10) fun y62 => pf_let (pm_w64 (y59 * y62)) fun y65 => pf_let (V0 73 11) fun y68 => pf_let (pm_w64 (y65 * y68)) fun y71 => pf_let (pm_w64 (y56 + y71)) fun y74 => pf_let (pm_cmp y74 0) fun y77 => (if ¬ (y77 = 0) then (pf_let (pm_w64 (y56 + y71)) fun y80 => pf_call (F_X11_ofThousand y71 y80 V0) fun y86 _ => (y86, V0)) else ((1000, V0))))) := rfl
noncomputable def F_X11_noticed (a1 a2 a3 : Int) (V0 : pm_M) : Int × pm_M := pf_call (F_X11_isTrial a1 a2 a3 V0) fun y4 _ => (if ¬ (y4 = 0) then (pf_call (F_X11_pose a1 a2 a3 V0) fun _ V9 => pf_call (F_X10_chanceNoticed  V9) fun y19 _ => (y19, V9)) else (((-1), V0)))
theorem F_X11_noticed_eq (a1 a2 a3 : Int) (V0 : pm_M) : F_X11_noticed a1 a2 a3 V0 = pf_call (F_X11_isTrial a1 a2 a3 V0) fun y4 _ => (if ¬ (y4 = 0) then (pf_call (F_X11_pose a1 a2 a3 V0) fun _ V9 => pf_call (F_X10_chanceNoticed  V9) fun y19 _ => (y19, V9)) else (((-1), V0))) := rfl
noncomputable def F_X7_addAnswer (a1 a2 a3 a4 a5 : Int) (V0 : pm_M) : Int × pm_M := pf_let (V0 4 6) fun y1 => (if 60 ≤ y1 then ((0, V0)) else ((0, (pm_up (pm_up (pm_up (pm_up (pm_up (pm_up V0 9 (y1 : Int).toNat a1) 10 (y1 : Int).toNat a2) 11 (y1 : Int).toNat a3) 12 (y1 : Int).toNat a4) 13 (y1 : Int).toNat a5) 4 6 (y1 + 1)))))
theorem F_X7_addAnswer_eq (a1 a2 a3 a4 a5 : Int) (V0 : pm_M) : F_X7_addAnswer a1 a2 a3 a4 a5 V0 = pf_let (V0 4 6) fun y1 => (if 60 ≤ y1 then ((0, V0)) else ((0, (pm_up (pm_up (pm_up (pm_up (pm_up (pm_up V0 9 (y1 : Int).toNat a1) 10 (y1 : Int).toNat a2) 11 (y1 : Int).toNat a3) 12 (y1 : Int).toNat a4) 13 (y1 : Int).toNat a5) 4 6 (y1 + 1))))) := rfl
noncomputable def F_X11_answer (a1 a2 a3 a4 : Int) (V0 : pm_M) : Int × pm_M := pf_call (F_X11_isTrial a1 a2 a3 V0) fun y4 _ => (if y4 = 0 then (((-1), V0)) else ((if a4 < 0 then (((-1), V0)) else ((if 1 < (a4 / 100) then (((-1), V0)) else (pf_call (F_X11_isSound (a4 % 100) V0) fun y16 _ => (if y16 = 0 then (((-1), V0)) else (pf_let (V0 4 6) fun y23 => (if y23 < 60 then ((if a4 < 100 then (pf_call (F_X7_addAnswer a1 a2 a3 (a4 % 100) 0 V0) fun _ V29 => pf_let (V29 4 6) fun y37 => (y37, V29)) else (pf_call (F_X7_addAnswer a1 a2 a3 (a4 % 100) 1 V0) fun _ V41 => pf_let (V41 4 6) fun y49 => (y49, V41)))) else (((-1), V0)))))))))))
theorem F_X11_answer_eq (a1 a2 a3 a4 : Int) (V0 : pm_M) : F_X11_answer a1 a2 a3 a4 V0 = pf_call (F_X11_isTrial a1 a2 a3 V0) fun y4 _ => (if y4 = 0 then (((-1), V0)) else ((if a4 < 0 then (((-1), V0)) else ((if 1 < (a4 / 100) then (((-1), V0)) else (pf_call (F_X11_isSound (a4 % 100) V0) fun y16 _ => (if y16 = 0 then (((-1), V0)) else (pf_let (V0 4 6) fun y23 => (if y23 < 60 then ((if a4 < 100 then (pf_call (F_X7_addAnswer a1 a2 a3 (a4 % 100) 0 V0) fun _ V29 => pf_let (V29 4 6) fun y37 => (y37, V29)) else (pf_call (F_X7_addAnswer a1 a2 a3 (a4 % 100) 1 V0) fun _ V41 => pf_let (V41 4 6) fun y49 => (y49, V41)))) else (((-1), V0))))))))))) := rfl
noncomputable def F_X11_undo (V0 : pm_M) : Int × pm_M := pf_let (V0 4 6) fun y2 => (if 0 < y2 then (((y2 - 1), (pm_up V0 4 6 (y2 - 1)))) else (((-1), V0)))
theorem F_X11_undo_eq (V0 : pm_M) : F_X11_undo V0 = pf_let (V0 4 6) fun y2 => (if 0 < y2 then (((y2 - 1), (pm_up V0 4 6 (y2 - 1)))) else (((-1), V0))) := rfl
noncomputable def F_X7_isAnswer (a1 : Int) (V0 : pm_M) : Int × pm_M := (if a1 < 0 then ((0, V0)) else (pf_let (V0 4 6) fun y2 => (if y2 ≤ a1 then ((0, V0)) else ((1, V0)))))
theorem F_X7_isAnswer_eq (a1 : Int) (V0 : pm_M) : F_X7_isAnswer a1 V0 = (if a1 < 0 then ((0, V0)) else (pf_let (V0 4 6) fun y2 => (if y2 ≤ a1 then ((0, V0)) else ((1, V0))))) := rfl
noncomputable def F_X7_kindOfAnswer (a1 : Int) (V0 : pm_M) : Int × pm_M := pf_let (V0 9 (a1 : Int).toNat) fun y2 => pf_let (V0 12 (a1 : Int).toNat) fun y6 => pf_call (F_X11_kindOfSaid ((y2 / 10) % 10) (y2 % 10) y6 V0) fun y12 _ => (y12, V0)
theorem F_X7_kindOfAnswer_eq (a1 : Int) (V0 : pm_M) : F_X7_kindOfAnswer a1 V0 = pf_let (V0 9 (a1 : Int).toNat) fun y2 => pf_let (V0 12 (a1 : Int).toNat) fun y6 => pf_call (F_X11_kindOfSaid ((y2 / 10) % 10) (y2 % 10) y6 V0) fun y12 _ => (y12, V0) := rfl
noncomputable def F_X11_of (a1 a2 : Int) (V0 : pm_M) : Int × pm_M := pf_call (F_X7_isAnswer a1 V0) fun y5 _ => (if ¬ (y5 = 0) then ((if a2 < 0 ∨ 5 < a2 then (((-2147483648), V0)) else (if a2 = 0 then (pf_let (V0 9 (a1 : Int).toNat) fun y11 => (y11, V0)) else (if a2 = 1 then (pf_let (V0 10 (a1 : Int).toNat) fun y15 => (y15, V0)) else (if a2 = 2 then (pf_let (V0 11 (a1 : Int).toNat) fun y19 => (y19, V0)) else (if a2 = 3 then (pf_let (V0 12 (a1 : Int).toNat) fun y23 => (y23, V0)) else (if a2 = 4 then (pf_let (V0 13 (a1 : Int).toNat) fun y27 => (if y27 = 0 then ((0, V0)) else ((1, V0)))) else (if a2 = 5 then (pf_call (F_X7_kindOfAnswer a1 V0) fun y34 _ => (y34, V0)) else (((0 : Int), V0)))))))))) else (((-2147483648), V0)))
theorem F_X11_of_eq (a1 a2 : Int) (V0 : pm_M) : F_X11_of a1 a2 V0 = pf_call (F_X7_isAnswer a1 V0) fun y5 _ => (if ¬ (y5 = 0) then ((if a2 < 0 ∨ 5 < a2 then (((-2147483648), V0)) else (if a2 = 0 then (pf_let (V0 9 (a1 : Int).toNat) fun y11 => (y11, V0)) else (if a2 = 1 then (pf_let (V0 10 (a1 : Int).toNat) fun y15 => (y15, V0)) else (if a2 = 2 then (pf_let (V0 11 (a1 : Int).toNat) fun y19 => (y19, V0)) else (if a2 = 3 then (pf_let (V0 12 (a1 : Int).toNat) fun y23 => (y23, V0)) else (if a2 = 4 then (pf_let (V0 13 (a1 : Int).toNat) fun y27 => (if y27 = 0 then ((0, V0)) else ((1, V0)))) else (if a2 = 5 then (pf_call (F_X7_kindOfAnswer a1 V0) fun y34 _ => (y34, V0)) else (((0 : Int), V0)))))))))) else (((-2147483648), V0))) := rfl
noncomputable def F_X11_isPersonOrAll (a1 : Int) (V0 : pm_M) : Int × pm_M := (if a1 = (-1) then ((1, V0)) else (pf_call (F_X11_isPerson a1 V0) fun y5 _ => (if y5 = 0 then ((0, V0)) else ((1, V0)))))
theorem F_X11_isPersonOrAll_eq (a1 : Int) (V0 : pm_M) : F_X11_isPersonOrAll a1 V0 = (if a1 = (-1) then ((1, V0)) else (pf_call (F_X11_isPerson a1 V0) fun y5 _ => (if y5 = 0 then ((0, V0)) else ((1, V0))))) := rfl
noncomputable def F_X0_add (ch : Nat) (a1 a2 : Int) (V0 : pm_M) : Int × pm_M := pf_let (V0 ch 0) fun y1 => (if 60 ≤ y1 then ((0, V0)) else ((0, (pm_up (pm_up (pm_up V0 (ch + 1) (y1 : Int).toNat a1) (ch + 2) (y1 : Int).toNat a2) ch 0 (y1 + 1)))))
theorem F_X0_add_eq (ch : Nat) (a1 a2 : Int) (V0 : pm_M) : F_X0_add ch a1 a2 V0 = pf_let (V0 ch 0) fun y1 => (if 60 ≤ y1 then ((0, V0)) else ((0, (pm_up (pm_up (pm_up V0 (ch + 1) (y1 : Int).toNat a1) (ch + 2) (y1 : Int).toNat a2) ch 0 (y1 + 1))))) := rfl
noncomputable def F_X11_gather (ch : Nat) (a1 a2 : Int) (V0 : pm_M) : Int × pm_M := pf_let ((pm_up V0 ch 0 0)) fun V1 => pf_val ((0 : Int), V0) (fun (q : Int × pm_M) => match q with | (x6, V8) => (pf_let (V8 4 6) fun y19 => (if y19 ≤ x6 then ((.inr (0, V8))) else ((if a2 = (-1) then (pf_let (V8 9 (x6 : Int).toNat) fun y25 => pf_let (V8 10 (x6 : Int).toNat) fun y29 => pf_let (V8 11 (x6 : Int).toNat) fun y33 => pf_call (F_X11_pose y25 y29 y33 V8) fun _ V37 => pf_call (F_X10_weigh a1 V37) fun _ V50 => (if V50 73 13 = 76 then (pf_let (V50 12 (x6 : Int).toNat) fun y64 => pf_let (V50 76 (y64 : Int).toNat) fun y67 => pf_let (V50 73 14) fun y70 => pf_call (F_X0_add ch y67 y70 V50) fun _ V74 => pf_let (x6 + 1) fun x89 => (.inl (x89, V74))) else (pf_let (V50 12 (x6 : Int).toNat) fun y92 => pf_let (V50 77 (y92 : Int).toNat) fun y95 => pf_let (V50 73 14) fun y98 => pf_call (F_X0_add ch y95 y98 V50) fun _ V102 => pf_let (x6 + 1) fun x117 => (.inl (x117, V102))))) else (pf_let (V8 9 (x6 : Int).toNat) fun y120 => (if ¬ ((y120 / 100) = a2) then (pf_let (x6 + 1) fun x124 => (.inl (x124, V8))) else (pf_let (V8 10 (x6 : Int).toNat) fun y127 => pf_let (V8 11 (x6 : Int).toNat) fun y131 => pf_call (F_X11_pose y120 y127 y131 V8) fun _ V135 => pf_call (F_X10_weigh a1 V135) fun _ V148 => (if V148 73 13 = 76 then (pf_let (V148 12 (x6 : Int).toNat) fun y162 => pf_let (V148 76 (y162 : Int).toNat) fun y165 => pf_let (V148 73 14) fun y168 => pf_call (F_X0_add ch y165 y168 V148) fun _ V172 => pf_let (x6 + 1) fun x187 => (.inl (x187, V172))) else (pf_let (V148 12 (x6 : Int).toNat) fun y190 => pf_let (V148 77 (y190 : Int).toNat) fun y193 => pf_let (V148 73 14) fun y196 => pf_call (F_X0_add ch y193 y196 V148) fun _ V200 => pf_let (x6 + 1) fun x215 => (.inl (x215, V200)))))))))))) (0, V1)
theorem F_X11_gather_eq (ch : Nat) (a1 a2 : Int) (V0 : pm_M) : F_X11_gather ch a1 a2 V0 = pf_let ((pm_up V0 ch 0 0)) fun V1 => pf_val ((0 : Int), V0) (fun (q : Int × pm_M) => match q with | (x6, V8) => (pf_let (V8 4 6) fun y19 => (if y19 ≤ x6 then ((.inr (0, V8))) else ((if a2 = (-1) then (pf_let (V8 9 (x6 : Int).toNat) fun y25 => pf_let (V8 10 (x6 : Int).toNat) fun y29 => pf_let (V8 11 (x6 : Int).toNat) fun y33 => pf_call (F_X11_pose y25 y29 y33 V8) fun _ V37 => pf_call (F_X10_weigh a1 V37) fun _ V50 => (if V50 73 13 = 76 then (pf_let (V50 12 (x6 : Int).toNat) fun y64 => pf_let (V50 76 (y64 : Int).toNat) fun y67 => pf_let (V50 73 14) fun y70 => pf_call (F_X0_add ch y67 y70 V50) fun _ V74 => pf_let (x6 + 1) fun x89 => (.inl (x89, V74))) else (pf_let (V50 12 (x6 : Int).toNat) fun y92 => pf_let (V50 77 (y92 : Int).toNat) fun y95 => pf_let (V50 73 14) fun y98 => pf_call (F_X0_add ch y95 y98 V50) fun _ V102 => pf_let (x6 + 1) fun x117 => (.inl (x117, V102))))) else (pf_let (V8 9 (x6 : Int).toNat) fun y120 => (if ¬ ((y120 / 100) = a2) then (pf_let (x6 + 1) fun x124 => (.inl (x124, V8))) else (pf_let (V8 10 (x6 : Int).toNat) fun y127 => pf_let (V8 11 (x6 : Int).toNat) fun y131 => pf_call (F_X11_pose y120 y127 y131 V8) fun _ V135 => pf_call (F_X10_weigh a1 V135) fun _ V148 => (if V148 73 13 = 76 then (pf_let (V148 12 (x6 : Int).toNat) fun y162 => pf_let (V148 76 (y162 : Int).toNat) fun y165 => pf_let (V148 73 14) fun y168 => pf_call (F_X0_add ch y165 y168 V148) fun _ V172 => pf_let (x6 + 1) fun x187 => (.inl (x187, V172))) else (pf_let (V148 12 (x6 : Int).toNat) fun y190 => pf_let (V148 77 (y190 : Int).toNat) fun y193 => pf_let (V148 73 14) fun y196 => pf_call (F_X0_add ch y193 y196 V148) fun _ V200 => pf_let (x6 + 1) fun x215 => (.inl (x215, V200)))))))))))) (0, V1) := rfl
set_option maxHeartbeats 4000000 in
set_option maxRecDepth 100000 in
theorem fD_X11_kind_0 (a1 a2 a3 a4 a5 : Int) (h0 : (-2147483648) ≤ a1 ∧ a1 ≤ 2147483647) (h1 : (-2147483648) ≤ a2 ∧ a2 ≤ 2147483647) (h2 : (-2147483648) ≤ a3 ∧ a3 ≤ 2147483647) (h3 : (-2147483648) ≤ a4 ∧ a4 ≤ 2147483647) (h4 : (-2147483648) ≤ a5 ∧ a5 ≤ 2147483647) : pm_K 6 yX11_kind cX11_kind 6 (some .int) (fun av V => av = [(3, 0), (0, a1), (0, a2), (0, a3), (0, a4), (0, a5)] ∧ pm_ok 0 90 V) (fun _ V r V' => ∃ y, r = some (0, y) ∧ ((-2147483648) ≤ y ∧ y ≤ 2147483647) ∧ pm_ok 0 90 V' ∧ pm_ff [74, 75, 76, 77] [(73, 0), (73, 1), (73, 2), (73, 3), (73, 4), (73, 5), (73, 6), (73, 7), (73, 10), (73, 11), (73, 12), (73, 14)] V V' ∧ F_X11_kind a1 a2 a3 a4 a5 V = (y, V')) := by
  refine pm_MT.of (by decide) ⟨Nat.le_refl _, by decide⟩ (fun av V h => by rw [h.1]; exact (by decide : pm_words [(3, 0), (0, 0), (0, 0), (0, 0), (0, 0), (0, 0)] ≤ 6)) ?_
  rintro X av V0 hC - hR ⟨rfl, hV0⟩
  change pm_J X 0 [(0, (3, 0)), (1, (0, a1)), (2, (0, a2)), (3, (0, a3)), (4, (0, a4)), (5, (0, a5))] [] 118 V0
  have hT := F_X11_kind_eq a1 a2 a3 a4 a5 V0
  refine pm_iload hC 5 dX11_kind_0 rfl ?_
  refine pm_callS (as := [(0, a5)]) (st := []) hC (fD_X11_isKind a5 ⟨by exact ow_79e_0 h4, by exact ow_79e_1 h4⟩) lm_X11_215 ls_X11_isKind (by decide) (by decide) rfl rfl (Nat.le_of_ble_eq_true rfl) ⟨Nat.le_refl _, Or.inl rfl⟩ dX11_kind_2 ⟨rfl, hV0⟩ (fun r1 V2 hp3 => ?_)
  obtain ⟨y4, rfl, b5, rfl, hE6⟩ := hp3
  replace hT := hT.trans (pf_call_eq hE6)
  change pm_J X 5 [(0, (3, 0)), (1, (0, a1)), (2, (0, a2)), (3, (0, a3)), (4, (0, a4)), (5, (0, a5))] [(0, y4)] 118 V0
  refine pm_if_eq (tgt := 20) hC ⟨by exact ow_79e_2 b5, by exact ow_79e_3 b5⟩ dX11_kind_5 (by decide) (fun c7 => ?_) (fun c7 => ?_)
  · skip
    replace hT := hT.trans (if_pos c7)
    refine pm_iconst (v := (-1)) hC dX11_kind_20 ?_
    exact pm_iret hC hR pm_nar0 ⟨(-1), rfl, ⟨by exact ow_79e_4, by exact ow_79e_5⟩, hV0, (pm_ff.rf (cs := [74, 75, 76, 77]) (fs := [(73, 0), (73, 1), (73, 2), (73, 3), (73, 4), (73, 5), (73, 6), (73, 7), (73, 10), (73, 11), (73, 12), (73, 14)]) (V := V0)), hT⟩ dX11_kind_21
  · skip
    replace hT := hT.trans (if_neg c7)
    refine pm_aload_n hC 0 (by decide) dX11_kind_8 rfl ?_
    refine pm_iload_n hC 1 dX11_kind_9 rfl ?_
    refine pm_iload_n hC 2 dX11_kind_10 rfl ?_
    refine pm_iload_n hC 3 dX11_kind_11 rfl ?_
    refine pm_iload hC 4 dX11_kind_12 rfl ?_
    refine pm_callV (ci := 11) (as := [(0, a1), (0, a2), (0, a3), (0, a4)]) (st := []) hC 0 (fD_X11_weighs_0 a1 a2 a3 a4 ⟨by exact ow_79e_0 h0, by exact ow_79e_1 h0⟩ ⟨by exact ow_79e_0 h1, by exact ow_79e_1 h1⟩ ⟨by exact ow_79e_0 h2, by exact ow_79e_1 h2⟩ ⟨by exact ow_79e_0 h3, by exact ow_79e_1 h3⟩) lm_X11_201 li_X11_weighs (by decide) (by decide) rfl rfl rfl (by decide) rfl rfl (Nat.le_of_ble_eq_true rfl) ⟨Nat.le_refl _, Or.inl rfl⟩ dX11_kind_14 ⟨rfl, hV0⟩ (fun r8 V9 hp10 => ?_)
    obtain ⟨y11, rfl, b12, hV13, hF14, hE15⟩ := hp10
    replace hT := hT.trans (pf_call_eq hE15)
    change pm_J X 17 [(0, (3, 0)), (1, (0, a1)), (2, (0, a2)), (3, (0, a3)), (4, (0, a4)), (5, (0, a5))] [(0, y11)] 118 V9
    have hF16 := pm_ff.tr (pm_ff.rf (cs := [74, 75, 76, 77]) (fs := [(73, 0), (73, 1), (73, 2), (73, 3), (73, 4), (73, 5), (73, 6), (73, 7), (73, 10), (73, 11), (73, 12), (73, 14)]) (V := V0)) hF14 (by decide) (by decide)
    refine pm_if_ne (tgt := 22) hC ⟨by exact ow_79e_6 b12, by exact ow_79e_7 b12⟩ dX11_kind_17 (by decide) (fun c17 => ?_) (fun c17 => ?_)
    · skip
      replace hT := hT.trans (if_pos c17)
      refine pm_aload_n hC 0 (by decide) dX11_kind_22 rfl ?_
      have e18 : V9 0 5 = 73 := hV13.one 0 5 (by decide) (by decide) rfl
      refine pm_getf (v := 73) hC 0 fl_X11_75 rfl rfl (by decide) rfl e18 dX11_kind_23 ?_
      refine pm_iload hC 5 dX11_kind_26 rfl ?_
      refine pm_callV (ci := 10) (as := [(0, a5)]) (st := []) hC 73 (fD_X10_chanceOfKind_73 a5 ⟨by exact ow_79e_0 h4, by exact ow_79e_1 h4⟩) lm_X11_218 li_X10_chanceOfKind (by decide) (by decide) rfl rfl rfl (by decide) rfl rfl (Nat.le_of_ble_eq_true rfl) ⟨Nat.le_refl _, Or.inl rfl⟩ dX11_kind_28 ⟨rfl, hV13⟩ (fun r19 V20 hp21 => ?_)
      obtain ⟨y22, rfl, b23, rfl, hE24⟩ := hp21
      replace hT := hT.trans (pf_call_eq hE24)
      change pm_J X 31 [(0, (3, 0)), (1, (0, a1)), (2, (0, a2)), (3, (0, a3)), (4, (0, a4)), (5, (0, a5))] [(0, y22)] 118 V9
      exact pm_iret hC hR pm_nar0 ⟨y22, rfl, ⟨by exact ow_79e_0 b23, by exact ow_79e_1 b23⟩, hV13, hF16, hT⟩ dX11_kind_31
    · skip
      replace hT := hT.trans (if_neg (fun q => q c17))
      refine pm_iconst (v := (-1)) hC dX11_kind_20 ?_
      exact pm_iret hC hR pm_nar0 ⟨(-1), rfl, ⟨by exact ow_79e_4, by exact ow_79e_5⟩, hV13, hF16, hT⟩ dX11_kind_21
set_option maxHeartbeats 4000000 in
set_option maxRecDepth 100000 in
theorem fD_X11_likely_0 (a1 a2 a3 a4 : Int) (h0 : (-2147483648) ≤ a1 ∧ a1 ≤ 2147483647) (h1 : (-2147483648) ≤ a2 ∧ a2 ≤ 2147483647) (h2 : (-2147483648) ≤ a3 ∧ a3 ≤ 2147483647) (h3 : (-2147483648) ≤ a4 ∧ a4 ≤ 2147483647) : pm_K 6 yX11_likely cX11_likely 5 (some .int) (fun av V => av = [(3, 0), (0, a1), (0, a2), (0, a3), (0, a4)] ∧ pm_ok 0 90 V) (fun _ V r V' => ∃ y, r = some (0, y) ∧ ((-1) ≤ y ∧ y ≤ 8) ∧ pm_ok 0 90 V' ∧ pm_ff [74, 75, 76, 77] [(73, 0), (73, 1), (73, 2), (73, 3), (73, 4), (73, 5), (73, 6), (73, 7), (73, 10), (73, 11), (73, 12), (73, 14)] V V' ∧ F_X11_likely a1 a2 a3 a4 V = (y, V')) := by
  refine pm_MT.of (by decide) ⟨Nat.le_refl _, by decide⟩ (fun av V h => by rw [h.1]; exact (by decide : pm_words [(3, 0), (0, 0), (0, 0), (0, 0), (0, 0)] ≤ 5)) ?_
  rintro X av V0 hC - hR ⟨rfl, hV0⟩
  change pm_J X 0 [(0, (3, 0)), (1, (0, a1)), (2, (0, a2)), (3, (0, a3)), (4, (0, a4))] [] 118 V0
  have hT := F_X11_likely_eq a1 a2 a3 a4 V0
  refine pm_aload_n hC 0 (by decide) dX11_likely_0 rfl ?_
  refine pm_iload_n hC 1 dX11_likely_1 rfl ?_
  refine pm_iload_n hC 2 dX11_likely_2 rfl ?_
  refine pm_iload_n hC 3 dX11_likely_3 rfl ?_
  refine pm_iload hC 4 dX11_likely_4 rfl ?_
  refine pm_callV (ci := 11) (as := [(0, a1), (0, a2), (0, a3), (0, a4)]) (st := []) hC 0 (fD_X11_weighs_0 a1 a2 a3 a4 ⟨by exact ow_79e_0 h0, by exact ow_79e_1 h0⟩ ⟨by exact ow_79e_0 h1, by exact ow_79e_1 h1⟩ ⟨by exact ow_79e_0 h2, by exact ow_79e_1 h2⟩ ⟨by exact ow_79e_0 h3, by exact ow_79e_1 h3⟩) lm_X11_201 li_X11_weighs (by decide) (by decide) rfl rfl rfl (by decide) rfl rfl (Nat.le_of_ble_eq_true rfl) ⟨Nat.le_refl _, Or.inl rfl⟩ dX11_likely_6 ⟨rfl, hV0⟩ (fun r1 V2 hp3 => ?_)
  obtain ⟨y4, rfl, b5, hV6, hF7, hE8⟩ := hp3
  replace hT := hT.trans (pf_call_eq hE8)
  change pm_J X 9 [(0, (3, 0)), (1, (0, a1)), (2, (0, a2)), (3, (0, a3)), (4, (0, a4))] [(0, y4)] 118 V2
  have hF9 := pm_ff.tr (pm_ff.rf (cs := [74, 75, 76, 77]) (fs := [(73, 0), (73, 1), (73, 2), (73, 3), (73, 4), (73, 5), (73, 6), (73, 7), (73, 10), (73, 11), (73, 12), (73, 14)]) (V := V0)) hF7 (by decide) (by decide)
  refine pm_if_ne (tgt := 14) hC ⟨by exact ow_79e_6 b5, by exact ow_79e_7 b5⟩ dX11_likely_9 (by decide) (fun c10 => ?_) (fun c10 => ?_)
  · skip
    replace hT := hT.trans (if_pos c10)
    refine pm_aload_n hC 0 (by decide) dX11_likely_14 rfl ?_
    have e11 : V2 0 5 = 73 := hV6.one 0 5 (by decide) (by decide) rfl
    refine pm_getf (v := 73) hC 0 fl_X11_75 rfl rfl (by decide) rfl e11 dX11_likely_15 ?_
    refine pm_callV (ci := 10) (as := []) (st := []) hC 73 fD_X10_mostLikely_73 lm_X11_221 li_X10_mostLikely (by decide) (by decide) rfl rfl rfl (by decide) rfl rfl (Nat.le_of_ble_eq_true rfl) ⟨Nat.le_refl _, Or.inl rfl⟩ dX11_likely_18 ⟨rfl, hV6⟩ (fun r12 V13 hp14 => ?_)
    obtain ⟨y15, rfl, b16, rfl, hE17⟩ := hp14
    replace hT := hT.trans (pf_call_eq hE17)
    change pm_J X 21 [(0, (3, 0)), (1, (0, a1)), (2, (0, a2)), (3, (0, a3)), (4, (0, a4))] [(0, y15)] 118 V2
    exact pm_iret hC hR pm_nar0 ⟨y15, rfl, ⟨by exact ow_79e_8 b16, by exact ow_79e_9 b16⟩, hV6, hF9, hT⟩ dX11_likely_21
  · skip
    replace hT := hT.trans (if_neg (fun q => q c10))
    refine pm_iconst (v := (-1)) hC dX11_likely_12 ?_
    exact pm_iret hC hR pm_nar0 ⟨(-1), rfl, ⟨by exact ow_79e_10, by exact ow_79e_11⟩, hV6, hF9, hT⟩ dX11_likely_13
set_option maxHeartbeats 4000000 in
set_option maxRecDepth 100000 in
theorem fD_X10_chanceNoticed_73  : pm_K 2 yX10_chanceNoticed cX10_chanceNoticed 5 (some .int) (fun av V => av = [(3, 73)] ∧ pm_ok 0 90 V) (fun _ V r V' => ∃ y, r = some (0, y) ∧ ((-2147483648) ≤ y ∧ y ≤ 2147483647) ∧ V = V' ∧ F_X10_chanceNoticed  V = (y, V)) := by
  refine pm_MT.of (by decide) ⟨Nat.le_refl _, by decide⟩ (fun av V h => by rw [h.1]; exact (by decide : pm_words [(3, 0)] ≤ 5)) ?_
  rintro X av V0 hC - hR ⟨rfl, hV0⟩
  change pm_J X 0 [(0, (3, 73))] [] 118 V0
  have hT := F_X10_chanceNoticed_eq  V0
  refine pm_aload_n hC 0 (by decide) dX10_chanceNoticed_0 rfl ?_
  obtain ⟨y1, e2⟩ : ∃ y, V0 73 7 = y := ⟨_, rfl⟩
  have b3 := hV0.get 73 7 (lo := (-9223372036854775808)) (hi := 9223372036854775807) (by decide) (by decide) rfl
  rw [e2] at b3
  replace hT := hT.trans (pf_let_eq e2)
  refine pm_getf (v := y1) hC 73 fl_X10_30 rfl rfl (by decide) rfl e2 dX10_chanceNoticed_1 ?_
  refine pm_aload_n hC 0 (by decide) dX10_chanceNoticed_4 rfl ?_
  rcases hV0.get2 73 0 (lo := 45) (hi := 51) (by decide) (by decide) rfl with e4 | e4
  · skip
    replace hT := hT.trans (if_pos e4)
    refine pm_getf (v := 45) hC 73 fl_X10_59 rfl rfl (by decide) rfl e4 dX10_chanceNoticed_5 ?_
    obtain ⟨y5, e6⟩ : ∃ y, V0 45 0 = y := ⟨_, rfl⟩
    have b7 := hV0.get 45 0 (lo := 0) (hi := 9) (by decide) (by decide) rfl
    rw [e6] at b7
    replace hT := hT.trans (pf_let_eq e6)
    refine pm_getf (v := y5) hC 45 fl_X10_79 rfl rfl (by decide) rfl e6 dX10_chanceNoticed_8 ?_
    refine pm_i2l hC ⟨by exact ow_79e_12 b7, by exact ow_79e_13 b7⟩ dX10_chanceNoticed_11 ?_
    refine pm_lmul hC dX10_chanceNoticed_12 ?_
    refine pm_wrL hC (fun y8 hw10 b9 => ?_)
    replace hT := hT.trans (pf_let_eq hw10)
    have b9 := And.intro b9.1 b9.2
    refine pm_aload_n hC 0 (by decide) dX10_chanceNoticed_13 rfl ?_
    obtain ⟨y11, e12⟩ : ∃ y, V0 73 12 = y := ⟨_, rfl⟩
    have b13 := hV0.get 73 12 (lo := (-9223372036854775808)) (hi := 9223372036854775807) (by decide) (by decide) rfl
    rw [e12] at b13
    replace hT := hT.trans (pf_let_eq e12)
    refine pm_getf (v := y11) hC 73 fl_X10_47 rfl rfl (by decide) rfl e12 dX10_chanceNoticed_14 ?_
    refine pm_lmul hC dX10_chanceNoticed_17 ?_
    refine pm_wrL hC (fun y14 hw16 b15 => ?_)
    replace hT := hT.trans (pf_let_eq hw16)
    have b15 := And.intro b15.1 b15.2
    refine pm_lstore_n (lv' := [(1, (1, y14)), (0, (3, 73))]) hC dX10_chanceNoticed_18 (by decide) rfl ?_
    refine pm_ldc2 (v := 16) hC 4057 dX10_chanceNoticed_19 (by decide +kernel) ?_
    refine pm_aload_n hC 1 (by decide) dX10_chanceNoticed_22 rfl ?_
    refine pm_getf (v := y1) hC 73 fl_X10_30 rfl rfl (by decide) rfl e2 dX10_chanceNoticed_23 ?_
    refine pm_lsub hC dX10_chanceNoticed_26 ?_
    refine pm_wrL hC (fun y17 hw19 b18 => ?_)
    replace hT := hT.trans (pf_let_eq hw19)
    have b18 := And.intro b18.1 b18.2
    refine pm_aload_n hC 1 (by decide) dX10_chanceNoticed_27 rfl ?_
    obtain ⟨y20, e21⟩ : ∃ y, V0 73 10 = y := ⟨_, rfl⟩
    have b22 := hV0.get 73 10 (lo := (-9223372036854775808)) (hi := 9223372036854775807) (by decide) (by decide) rfl
    rw [e21] at b22
    replace hT := hT.trans (pf_let_eq e21)
    refine pm_getf (v := y20) hC 73 fl_X10_41 rfl rfl (by decide) rfl e21 dX10_chanceNoticed_28 ?_
    refine pm_lmul hC dX10_chanceNoticed_31 ?_
    refine pm_wrL hC (fun y23 hw25 b24 => ?_)
    replace hT := hT.trans (pf_let_eq hw25)
    have b24 := And.intro b24.1 b24.2
    refine pm_aload_n hC 1 (by decide) dX10_chanceNoticed_32 rfl ?_
    obtain ⟨y26, e27⟩ : ∃ y, V0 73 11 = y := ⟨_, rfl⟩
    have b28 := hV0.get 73 11 (lo := (-9223372036854775808)) (hi := 9223372036854775807) (by decide) (by decide) rfl
    rw [e27] at b28
    replace hT := hT.trans (pf_let_eq e27)
    refine pm_getf (v := y26) hC 73 fl_X10_44 rfl rfl (by decide) rfl e27 dX10_chanceNoticed_33 ?_
    refine pm_lmul hC dX10_chanceNoticed_36 ?_
    refine pm_wrL hC (fun y29 hw31 b30 => ?_)
    replace hT := hT.trans (pf_let_eq hw31)
    have b30 := And.intro b30.1 b30.2
    refine pm_lstore_n (lv' := [(3, (1, y29)), (1, (1, y14)), (0, (3, 73))]) hC dX10_chanceNoticed_37 (by decide) rfl ?_
    refine pm_lload_n hC 1 dX10_chanceNoticed_38 rfl ?_
    refine pm_lload_n hC 0 dX10_chanceNoticed_39 rfl ?_
    refine pm_ladd hC dX10_chanceNoticed_40 ?_
    refine pm_wrL hC (fun y32 hw34 b33 => ?_)
    replace hT := hT.trans (pf_let_eq hw34)
    have b33 := And.intro b33.1 b33.2
    refine pm_lconst (x := 0) hC dX10_chanceNoticed_41 rfl ?_
    refine pm_lcmp hC ⟨by exact ow_79e_14 b33, by exact ow_79e_15 b33⟩ ⟨by decide, by decide⟩ dX10_chanceNoticed_42 (fun y35 b36 => ?_)
    replace hT := hT.trans (pf_let_eq (pm_cmp_u b36))
    refine pm_if_ne (tgt := 52) hC ⟨by exact ow_79e_16 b36, by exact ow_79e_17 b36⟩ dX10_chanceNoticed_43 (by decide) (fun c37 => ?_) (fun c37 => ?_)
    · skip
      replace hT := hT.trans (if_pos c37)
      refine pm_lload_n hC 0 dX10_chanceNoticed_52 rfl ?_
      refine pm_lload_n hC 1 dX10_chanceNoticed_53 rfl ?_
      refine pm_lload_n hC 0 dX10_chanceNoticed_54 rfl ?_
      refine pm_ladd hC dX10_chanceNoticed_55 ?_
      refine pm_wrL hC (fun y38 hw40 b39 => ?_)
      replace hT := hT.trans (pf_let_eq hw40)
      have b39 := And.intro b39.1 b39.2
      refine pm_callSN (as := [(1, y29), (1, y38)]) (st := []) hC (fD_X11_ofThousand y29 y38 ⟨by exact ow_79e_14 b30, by exact ow_79e_15 b30⟩ ⟨by exact ow_79e_14 b39, by exact ow_79e_15 b39⟩) lm_X10_141 ls_X11_ofThousand (by decide) (by decide) rfl rfl (Nat.le_of_ble_eq_true rfl) ⟨Nat.le_refl _, Or.inl rfl⟩ dX10_chanceNoticed_56 ⟨rfl, hV0⟩ (fun r41 V42 hp43 => ?_)
      obtain ⟨y44, rfl, b45, rfl, hE46⟩ := hp43
      replace hT := hT.trans (pf_call_eq hE46)
      change pm_J X 59 [(3, (1, y29)), (1, (1, y14)), (0, (3, 73))] [(0, y44)] 118 V0
      exact pm_iret hC hR pm_nar0 ⟨y44, rfl, ⟨by exact ow_79e_0 b45, by exact ow_79e_1 b45⟩, rfl, hT⟩ dX10_chanceNoticed_59
    · skip
      replace hT := hT.trans (if_neg (fun q => q c37))
      refine pm_sipush (v := 1000) hC dX10_chanceNoticed_46 (by decide) ?_
      refine pm_goto (tgt := 59) hC dX10_chanceNoticed_49 (by decide) ?_
      exact pm_iret hC hR pm_nar0 ⟨1000, rfl, ⟨by exact ow_79e_18, by exact ow_79e_19⟩, rfl, hT⟩ dX10_chanceNoticed_59
  · skip
    replace hT := hT.trans (if_neg (by rw [e4]; decide))
    refine pm_getf (v := 51) hC 73 fl_X10_59 rfl rfl (by decide) rfl e4 dX10_chanceNoticed_5 ?_
    obtain ⟨y47, e48⟩ : ∃ y, V0 51 0 = y := ⟨_, rfl⟩
    have b49 := hV0.get 51 0 (lo := 0) (hi := 9) (by decide) (by decide) rfl
    rw [e48] at b49
    replace hT := hT.trans (pf_let_eq e48)
    refine pm_getf (v := y47) hC 51 fl_X10_79 rfl rfl (by decide) rfl e48 dX10_chanceNoticed_8 ?_
    refine pm_i2l hC ⟨by exact ow_79e_12 b49, by exact ow_79e_13 b49⟩ dX10_chanceNoticed_11 ?_
    refine pm_lmul hC dX10_chanceNoticed_12 ?_
    refine pm_wrL hC (fun y50 hw52 b51 => ?_)
    replace hT := hT.trans (pf_let_eq hw52)
    have b51 := And.intro b51.1 b51.2
    refine pm_aload_n hC 0 (by decide) dX10_chanceNoticed_13 rfl ?_
    obtain ⟨y53, e54⟩ : ∃ y, V0 73 12 = y := ⟨_, rfl⟩
    have b55 := hV0.get 73 12 (lo := (-9223372036854775808)) (hi := 9223372036854775807) (by decide) (by decide) rfl
    rw [e54] at b55
    replace hT := hT.trans (pf_let_eq e54)
    refine pm_getf (v := y53) hC 73 fl_X10_47 rfl rfl (by decide) rfl e54 dX10_chanceNoticed_14 ?_
    refine pm_lmul hC dX10_chanceNoticed_17 ?_
    refine pm_wrL hC (fun y56 hw58 b57 => ?_)
    replace hT := hT.trans (pf_let_eq hw58)
    have b57 := And.intro b57.1 b57.2
    refine pm_lstore_n (lv' := [(1, (1, y56)), (0, (3, 73))]) hC dX10_chanceNoticed_18 (by decide) rfl ?_
    refine pm_ldc2 (v := 16) hC 4057 dX10_chanceNoticed_19 (by decide +kernel) ?_
    refine pm_aload_n hC 1 (by decide) dX10_chanceNoticed_22 rfl ?_
    refine pm_getf (v := y1) hC 73 fl_X10_30 rfl rfl (by decide) rfl e2 dX10_chanceNoticed_23 ?_
    refine pm_lsub hC dX10_chanceNoticed_26 ?_
    refine pm_wrL hC (fun y59 hw61 b60 => ?_)
    replace hT := hT.trans (pf_let_eq hw61)
    have b60 := And.intro b60.1 b60.2
    refine pm_aload_n hC 1 (by decide) dX10_chanceNoticed_27 rfl ?_
    obtain ⟨y62, e63⟩ : ∃ y, V0 73 10 = y := ⟨_, rfl⟩
    have b64 := hV0.get 73 10 (lo := (-9223372036854775808)) (hi := 9223372036854775807) (by decide) (by decide) rfl
    rw [e63] at b64
    replace hT := hT.trans (pf_let_eq e63)
    refine pm_getf (v := y62) hC 73 fl_X10_41 rfl rfl (by decide) rfl e63 dX10_chanceNoticed_28 ?_
    refine pm_lmul hC dX10_chanceNoticed_31 ?_
    refine pm_wrL hC (fun y65 hw67 b66 => ?_)
    replace hT := hT.trans (pf_let_eq hw67)
    have b66 := And.intro b66.1 b66.2
    refine pm_aload_n hC 1 (by decide) dX10_chanceNoticed_32 rfl ?_
    obtain ⟨y68, e69⟩ : ∃ y, V0 73 11 = y := ⟨_, rfl⟩
    have b70 := hV0.get 73 11 (lo := (-9223372036854775808)) (hi := 9223372036854775807) (by decide) (by decide) rfl
    rw [e69] at b70
    replace hT := hT.trans (pf_let_eq e69)
    refine pm_getf (v := y68) hC 73 fl_X10_44 rfl rfl (by decide) rfl e69 dX10_chanceNoticed_33 ?_
    refine pm_lmul hC dX10_chanceNoticed_36 ?_
    refine pm_wrL hC (fun y71 hw73 b72 => ?_)
    replace hT := hT.trans (pf_let_eq hw73)
    have b72 := And.intro b72.1 b72.2
    refine pm_lstore_n (lv' := [(3, (1, y71)), (1, (1, y56)), (0, (3, 73))]) hC dX10_chanceNoticed_37 (by decide) rfl ?_
    refine pm_lload_n hC 1 dX10_chanceNoticed_38 rfl ?_
    refine pm_lload_n hC 0 dX10_chanceNoticed_39 rfl ?_
    refine pm_ladd hC dX10_chanceNoticed_40 ?_
    refine pm_wrL hC (fun y74 hw76 b75 => ?_)
    replace hT := hT.trans (pf_let_eq hw76)
    have b75 := And.intro b75.1 b75.2
    refine pm_lconst (x := 0) hC dX10_chanceNoticed_41 rfl ?_
    refine pm_lcmp hC ⟨by exact ow_79e_14 b75, by exact ow_79e_15 b75⟩ ⟨by decide, by decide⟩ dX10_chanceNoticed_42 (fun y77 b78 => ?_)
    replace hT := hT.trans (pf_let_eq (pm_cmp_u b78))
    refine pm_if_ne (tgt := 52) hC ⟨by exact ow_79e_16 b78, by exact ow_79e_17 b78⟩ dX10_chanceNoticed_43 (by decide) (fun c79 => ?_) (fun c79 => ?_)
    · skip
      replace hT := hT.trans (if_pos c79)
      refine pm_lload_n hC 0 dX10_chanceNoticed_52 rfl ?_
      refine pm_lload_n hC 1 dX10_chanceNoticed_53 rfl ?_
      refine pm_lload_n hC 0 dX10_chanceNoticed_54 rfl ?_
      refine pm_ladd hC dX10_chanceNoticed_55 ?_
      refine pm_wrL hC (fun y80 hw82 b81 => ?_)
      replace hT := hT.trans (pf_let_eq hw82)
      have b81 := And.intro b81.1 b81.2
      refine pm_callSN (as := [(1, y71), (1, y80)]) (st := []) hC (fD_X11_ofThousand y71 y80 ⟨by exact ow_79e_14 b72, by exact ow_79e_15 b72⟩ ⟨by exact ow_79e_14 b81, by exact ow_79e_15 b81⟩) lm_X10_141 ls_X11_ofThousand (by decide) (by decide) rfl rfl (Nat.le_of_ble_eq_true rfl) ⟨Nat.le_refl _, Or.inl rfl⟩ dX10_chanceNoticed_56 ⟨rfl, hV0⟩ (fun r83 V84 hp85 => ?_)
      obtain ⟨y86, rfl, b87, rfl, hE88⟩ := hp85
      replace hT := hT.trans (pf_call_eq hE88)
      change pm_J X 59 [(3, (1, y71)), (1, (1, y56)), (0, (3, 73))] [(0, y86)] 118 V0
      exact pm_iret hC hR pm_nar0 ⟨y86, rfl, ⟨by exact ow_79e_0 b87, by exact ow_79e_1 b87⟩, rfl, hT⟩ dX10_chanceNoticed_59
    · skip
      replace hT := hT.trans (if_neg (fun q => q c79))
      refine pm_sipush (v := 1000) hC dX10_chanceNoticed_46 (by decide) ?_
      refine pm_goto (tgt := 59) hC dX10_chanceNoticed_49 (by decide) ?_
      exact pm_iret hC hR pm_nar0 ⟨1000, rfl, ⟨by exact ow_79e_18, by exact ow_79e_19⟩, rfl, hT⟩ dX10_chanceNoticed_59
set_option maxHeartbeats 4000000 in
set_option maxRecDepth 100000 in
theorem fD_X11_noticed_0 (a1 a2 a3 : Int) (h0 : (-2147483648) ≤ a1 ∧ a1 ≤ 2147483647) (h1 : (-2147483648) ≤ a2 ∧ a2 ≤ 2147483647) (h2 : (-2147483648) ≤ a3 ∧ a3 ≤ 2147483647) : pm_K 5 yX11_noticed cX11_noticed 4 (some .int) (fun av V => av = [(3, 0), (0, a1), (0, a2), (0, a3)] ∧ pm_ok 0 90 V) (fun _ V r V' => ∃ y, r = some (0, y) ∧ ((-2147483648) ≤ y ∧ y ≤ 2147483647) ∧ pm_ok 0 90 V' ∧ pm_ff [74, 75] [(73, 0), (73, 1), (73, 2), (73, 3), (73, 4), (73, 5), (73, 6), (73, 7), (73, 10), (73, 11), (73, 12)] V V' ∧ F_X11_noticed a1 a2 a3 V = (y, V')) := by
  refine pm_MT.of (by decide) ⟨Nat.le_refl _, by decide⟩ (fun av V h => by rw [h.1]; exact (by decide : pm_words [(3, 0), (0, 0), (0, 0), (0, 0)] ≤ 4)) ?_
  rintro X av V0 hC - hR ⟨rfl, hV0⟩
  change pm_J X 0 [(0, (3, 0)), (1, (0, a1)), (2, (0, a2)), (3, (0, a3))] [] 118 V0
  have hT := F_X11_noticed_eq a1 a2 a3 V0
  refine pm_aload_n hC 0 (by decide) dX11_noticed_0 rfl ?_
  refine pm_iload_n hC 1 dX11_noticed_1 rfl ?_
  refine pm_iload_n hC 2 dX11_noticed_2 rfl ?_
  refine pm_iload_n hC 3 dX11_noticed_3 rfl ?_
  refine pm_callV (ci := 11) (as := [(0, a1), (0, a2), (0, a3)]) (st := []) hC 0 (fD_X11_isTrial_0 a1 a2 a3 ⟨by exact ow_79e_0 h0, by exact ow_79e_1 h0⟩ ⟨by exact ow_79e_0 h1, by exact ow_79e_1 h1⟩ ⟨by exact ow_79e_0 h2, by exact ow_79e_1 h2⟩) lm_X11_225 li_X11_isTrial (by decide) (by decide) rfl rfl rfl (by decide) rfl rfl (Nat.le_of_ble_eq_true rfl) ⟨Nat.le_refl _, Or.inl rfl⟩ dX11_noticed_4 ⟨rfl, hV0⟩ (fun r1 V2 hp3 => ?_)
  obtain ⟨y4, rfl, b5, rfl, hE6⟩ := hp3
  replace hT := hT.trans (pf_call_eq hE6)
  change pm_J X 7 [(0, (3, 0)), (1, (0, a1)), (2, (0, a2)), (3, (0, a3))] [(0, y4)] 118 V0
  refine pm_if_ne (tgt := 12) hC ⟨by exact ow_79e_20 b5, by exact ow_79e_21 b5⟩ dX11_noticed_7 (by decide) (fun c7 => ?_) (fun c7 => ?_)
  · skip
    replace hT := hT.trans (if_pos c7)
    refine pm_aload_n hC 0 (by decide) dX11_noticed_12 rfl ?_
    refine pm_iload_n hC 1 dX11_noticed_13 rfl ?_
    refine pm_iload_n hC 2 dX11_noticed_14 rfl ?_
    refine pm_iload_n hC 3 dX11_noticed_15 rfl ?_
    refine pm_callV (ci := 11) (as := [(0, a1), (0, a2), (0, a3)]) (st := []) hC 0 (fD_X11_pose_0 a1 a2 a3 ⟨by exact ow_79e_22 b5 c7, by exact ow_79e_23 b5 c7⟩ ⟨by exact ow_79e_24 b5 c7, by exact ow_79e_25 b5 c7⟩ ⟨by exact ow_79e_26 b5 c7, by exact ow_79e_27 b5 c7⟩ (by exact ow_79e_28 b5 c7)) lm_X11_229 li_X11_pose (by decide) (by decide) rfl rfl rfl (by decide) rfl rfl (Nat.le_of_ble_eq_true rfl) ⟨Nat.le_refl _, Or.inl rfl⟩ dX11_noticed_16 ⟨rfl, hV0⟩ (fun r8 V9 hp10 => ?_)
    obtain ⟨rfl, hV11, hF12, hE13⟩ := hp10
    replace hT := hT.trans (pf_call_eq hE13)
    change pm_J X 19 [(0, (3, 0)), (1, (0, a1)), (2, (0, a2)), (3, (0, a3))] [] 118 V9
    have hF14 := pm_ff.tr (pm_ff.rf (cs := [74, 75]) (fs := [(73, 0), (73, 1), (73, 2), (73, 3), (73, 4), (73, 5), (73, 6), (73, 7), (73, 10), (73, 11), (73, 12)]) (V := V0)) hF12 (by decide) (by decide)
    refine pm_aload_n hC 0 (by decide) dX11_noticed_19 rfl ?_
    have e15 : V9 0 5 = 73 := hV11.one 0 5 (by decide) (by decide) rfl
    refine pm_getf (v := 73) hC 0 fl_X11_75 rfl rfl (by decide) rfl e15 dX11_noticed_20 ?_
    refine pm_callV (ci := 10) (as := []) (st := []) hC 73 fD_X10_chanceNoticed_73 lm_X11_233 li_X10_chanceNoticed (by decide) (by decide) rfl rfl rfl (by decide) rfl rfl (Nat.le_of_ble_eq_true rfl) ⟨Nat.le_refl _, Or.inl rfl⟩ dX11_noticed_23 ⟨rfl, hV11⟩ (fun r16 V17 hp18 => ?_)
    obtain ⟨y19, rfl, b20, rfl, hE21⟩ := hp18
    replace hT := hT.trans (pf_call_eq hE21)
    change pm_J X 26 [(0, (3, 0)), (1, (0, a1)), (2, (0, a2)), (3, (0, a3))] [(0, y19)] 118 V9
    exact pm_iret hC hR pm_nar0 ⟨y19, rfl, ⟨by exact ow_79e_0 b20, by exact ow_79e_1 b20⟩, hV11, hF14, hT⟩ dX11_noticed_26
  · skip
    replace hT := hT.trans (if_neg (fun q => q c7))
    refine pm_iconst (v := (-1)) hC dX11_noticed_10 ?_
    exact pm_iret hC hR pm_nar0 ⟨(-1), rfl, ⟨by exact ow_79e_4, by exact ow_79e_5⟩, hV0, (pm_ff.rf (cs := [74, 75]) (fs := [(73, 0), (73, 1), (73, 2), (73, 3), (73, 4), (73, 5), (73, 6), (73, 7), (73, 10), (73, 11), (73, 12)]) (V := V0)), hT⟩ dX11_noticed_11
set_option maxHeartbeats 4000000 in
set_option maxRecDepth 100000 in
theorem fD_X7_addAnswer_4 (a1 a2 a3 a4 a5 : Int) (h0 : 0 ≤ a1 ∧ a1 ≤ 999) (h1 : 0 ≤ a2 ∧ a2 ≤ 99) (h2 : (-99) ≤ a3 ∧ a3 ≤ 99) (h3 : 0 ≤ a4 ∧ a4 ≤ 8) (h4 : 0 ≤ a5 ∧ a5 ≤ 1) (h5 : a1 % 10 ≤ 8 ∧ a1 / 10 % 10 ≤ 8) : pm_K 1 yX7_addAnswer cX7_addAnswer 6 none (fun av V => av = [(3, 4), (0, a1), (0, a2), (0, a3), (0, a4), (0, a5)] ∧ pm_ok 0 90 V) (fun _ V r V' => r = none ∧ pm_ok 0 90 V' ∧ pm_ff [9, 10, 11, 12, 13] [(4, 6)] V V' ∧ (V 4 6 < 60 → V' 4 6 = V 4 6 + 1) ∧ F_X7_addAnswer a1 a2 a3 a4 a5 V = (0, V')) := by
  refine pm_MT.of (by decide) ⟨Nat.le_refl _, by decide⟩ (fun av V h => by rw [h.1]; exact (by decide : pm_words [(3, 0), (0, 0), (0, 0), (0, 0), (0, 0), (0, 0)] ≤ 6)) ?_
  rintro X av V0 hC - hR ⟨rfl, hV0⟩
  change pm_J X 0 [(0, (3, 4)), (1, (0, a1)), (2, (0, a2)), (3, (0, a3)), (4, (0, a4)), (5, (0, a5))] [] 118 V0
  have hT := F_X7_addAnswer_eq a1 a2 a3 a4 a5 V0
  obtain ⟨y1, e2⟩ : ∃ y, V0 4 6 = y := ⟨_, rfl⟩
  have b3 := hV0.get 4 6 (lo := 0) (hi := 60) (by decide) (by decide) rfl
  rw [e2] at b3
  replace hT := hT.trans (pf_let_eq e2)
  refine pm_aload_n hC 0 (by decide) dX7_addAnswer_0 rfl ?_
  refine pm_getf (v := y1) hC 4 fl_X7_32 rfl rfl (by decide) rfl e2 dX7_addAnswer_1 ?_
  refine pm_bipush (v := 60) hC dX7_addAnswer_4 (by decide) ?_
  refine pm_icmp_ge (tgt := 71) hC ⟨by exact ow_79e_29 b3, by exact ow_79e_30 b3⟩ ⟨by decide, by decide⟩ dX7_addAnswer_6 (by decide) (fun c4 => ?_) (fun c4 => ?_)
  · skip
    replace hT := hT.trans (if_pos c4)
    exact pm_vret hC hR ⟨rfl, hV0, (pm_ff.rf (cs := [9, 10, 11, 12, 13]) (fs := [(4, 6)]) (V := V0)), (fun q => by exfalso; rw [e2] at q; exact ow_79e_31 c4 q), hT⟩ dX7_addAnswer_71
  · skip
    replace hT := hT.trans (if_neg (Int.not_le.mpr c4))
    refine pm_aload_n hC 0 (by decide) dX7_addAnswer_9 rfl ?_
    have e5 : V0 4 7 = 9 := hV0.one 4 7 (by decide) (by decide) rfl
    refine pm_getf (v := 9) hC 4 fl_X7_35 rfl rfl (by decide) rfl e5 dX7_addAnswer_10 ?_
    refine pm_aload_n hC 0 (by decide) dX7_addAnswer_13 rfl ?_
    refine pm_getf (v := y1) hC 4 fl_X7_32 rfl rfl (by decide) rfl e2 dX7_addAnswer_14 ?_
    refine pm_iload_n hC 1 dX7_addAnswer_17 rfl ?_
    refine pm_iastore (len := 60) hC 9 rfl rfl (by decide) ⟨by exact ow_79e_32 b3, by exact ow_79e_33 c4⟩ (by decide) dX7_addAnswer_18 ?_
    refine pm_aload_n hC 0 (by decide) dX7_addAnswer_19 rfl ?_
    have e6 : V0 4 8 = 10 := hV0.one 4 8 (by decide) (by decide) rfl
    refine pm_getf (v := 10) hC 4 fl_X7_38 rfl rfl (by decide) rfl e6 dX7_addAnswer_20 ?_
    refine pm_aload_n hC 0 (by decide) dX7_addAnswer_23 rfl ?_
    refine pm_getf (v := y1) hC 4 fl_X7_32 rfl rfl (by decide) rfl e2 dX7_addAnswer_24 ?_
    refine pm_iload_n hC 2 dX7_addAnswer_27 rfl ?_
    refine pm_iastore (len := 60) hC 10 rfl rfl (by decide) ⟨by exact ow_79e_32 b3, by exact ow_79e_33 c4⟩ (by decide) dX7_addAnswer_28 ?_
    refine pm_aload_n hC 0 (by decide) dX7_addAnswer_29 rfl ?_
    have e7 : V0 4 9 = 11 := hV0.one 4 9 (by decide) (by decide) rfl
    refine pm_getf (v := 11) hC 4 fl_X7_41 rfl rfl (by decide) rfl e7 dX7_addAnswer_30 ?_
    refine pm_aload_n hC 0 (by decide) dX7_addAnswer_33 rfl ?_
    refine pm_getf (v := y1) hC 4 fl_X7_32 rfl rfl (by decide) rfl e2 dX7_addAnswer_34 ?_
    refine pm_iload_n hC 3 dX7_addAnswer_37 rfl ?_
    refine pm_iastore (len := 60) hC 11 rfl rfl (by decide) ⟨by exact ow_79e_32 b3, by exact ow_79e_33 c4⟩ (by decide) dX7_addAnswer_38 ?_
    refine pm_aload_n hC 0 (by decide) dX7_addAnswer_39 rfl ?_
    have e8 : V0 4 10 = 12 := hV0.one 4 10 (by decide) (by decide) rfl
    refine pm_getf (v := 12) hC 4 fl_X7_44 rfl rfl (by decide) rfl e8 dX7_addAnswer_40 ?_
    refine pm_aload_n hC 0 (by decide) dX7_addAnswer_43 rfl ?_
    refine pm_getf (v := y1) hC 4 fl_X7_32 rfl rfl (by decide) rfl e2 dX7_addAnswer_44 ?_
    refine pm_iload hC 4 dX7_addAnswer_47 rfl ?_
    refine pm_iastore (len := 60) hC 12 rfl rfl (by decide) ⟨by exact ow_79e_32 b3, by exact ow_79e_33 c4⟩ (by decide) dX7_addAnswer_49 ?_
    refine pm_aload_n hC 0 (by decide) dX7_addAnswer_50 rfl ?_
    have e9 : V0 4 11 = 13 := hV0.one 4 11 (by decide) (by decide) rfl
    refine pm_getf (v := 13) hC 4 fl_X7_47 rfl rfl (by decide) rfl e9 dX7_addAnswer_51 ?_
    refine pm_aload_n hC 0 (by decide) dX7_addAnswer_54 rfl ?_
    refine pm_getf (v := y1) hC 4 fl_X7_32 rfl rfl (by decide) rfl e2 dX7_addAnswer_55 ?_
    refine pm_iload hC 5 dX7_addAnswer_58 rfl ?_
    refine pm_zastore (len := 60) hC 13 rfl rfl (by decide) ⟨by exact ow_79e_32 b3, by exact ow_79e_33 c4⟩ (by decide) (by exact ow_79e_34 h4) dX7_addAnswer_60 ?_
    refine pm_aload_n hC 0 (by decide) dX7_addAnswer_61 rfl ?_
    refine pm_dup hC rfl dX7_addAnswer_62 ?_
    refine pm_getf (v := y1) hC 4 fl_X7_32 rfl rfl (by decide) rfl e2 dX7_addAnswer_63 ?_
    refine pm_iconst (v := 1) hC dX7_addAnswer_66 ?_
    refine pm_iadd hC dX7_addAnswer_67 ?_
    refine pm_putf hC 4 fl_X7_32 rfl rfl rfl (by decide) rfl trivial dX7_addAnswer_68 ?_
    exact pm_vret hC hR ⟨rfl, ((((((hV0.put1 9 (y1 : Int).toNat (x := a1) (lo := 0) (hi := 999) rfl (by exact ow_79e_35 h0 h5)).put 10 (y1 : Int).toNat (x := a2) (lo := 0) (hi := 99) rfl ⟨by exact ow_79e_36 h1, by exact ow_79e_37 h1⟩).put 11 (y1 : Int).toNat (x := a3) (lo := (-99)) (hi := 99) rfl ⟨by exact ow_79e_38 h2, by exact ow_79e_39 h2⟩).put 12 (y1 : Int).toNat (x := a4) (lo := 0) (hi := 8) rfl ⟨by exact ow_79e_40 h3, by exact ow_79e_9 h3⟩).put 13 (y1 : Int).toNat (x := a5) (lo := 0) (hi := 1) rfl ⟨by exact ow_79e_41 h4, by exact ow_79e_42 h4⟩).put 4 6 (x := (y1 + 1)) (lo := 0) (hi := 60) rfl ⟨by exact ow_79e_43 b3, by exact ow_79e_44 c4⟩), (((((((pm_ff.rf (cs := [9, 10, 11, 12, 13]) (fs := [(4, 6)]) (V := V0)).upa 9 (y1 : Int).toNat a1 rfl).upa 10 (y1 : Int).toNat a2 rfl).upa 11 (y1 : Int).toNat a3 rfl).upa 12 (y1 : Int).toNat a4 rfl).upa 13 (y1 : Int).toNat a5 rfl).upf 4 6 (y1 + 1) rfl), (fun _ => by rw [e2]; exact pm_up_s), hT⟩ dX7_addAnswer_71
set_option maxHeartbeats 4000000 in
set_option maxRecDepth 100000 in
theorem fD_X11_answer_0 (a1 a2 a3 a4 : Int) (h0 : (-2147483648) ≤ a1 ∧ a1 ≤ 2147483647) (h1 : (-2147483648) ≤ a2 ∧ a2 ≤ 2147483647) (h2 : (-2147483648) ≤ a3 ∧ a3 ≤ 2147483647) (h3 : (-2147483648) ≤ a4 ∧ a4 ≤ 2147483647) : pm_K 3 yX11_answer cX11_answer 6 (some .int) (fun av V => av = [(3, 0), (0, a1), (0, a2), (0, a3), (0, a4)] ∧ pm_ok 0 90 V) (fun _ V r V' => ∃ y, r = some (0, y) ∧ ((-1) ≤ y ∧ y ≤ 60) ∧ pm_ok 0 90 V' ∧ pm_ff [9, 10, 11, 12, 13] [(4, 6)] V V' ∧ F_X11_answer a1 a2 a3 a4 V = (y, V')) := by
  refine pm_MT.of (by decide) ⟨Nat.le_refl _, by decide⟩ (fun av V h => by rw [h.1]; exact (by decide : pm_words [(3, 0), (0, 0), (0, 0), (0, 0), (0, 0)] ≤ 6)) ?_
  rintro X av V0 hC - hR ⟨rfl, hV0⟩
  change pm_J X 0 [(0, (3, 0)), (1, (0, a1)), (2, (0, a2)), (3, (0, a3)), (4, (0, a4))] [] 118 V0
  have hT := F_X11_answer_eq a1 a2 a3 a4 V0
  refine pm_aload_n hC 0 (by decide) dX11_answer_0 rfl ?_
  refine pm_iload_n hC 1 dX11_answer_1 rfl ?_
  refine pm_iload_n hC 2 dX11_answer_2 rfl ?_
  refine pm_iload_n hC 3 dX11_answer_3 rfl ?_
  refine pm_callV (ci := 11) (as := [(0, a1), (0, a2), (0, a3)]) (st := []) hC 0 (fD_X11_isTrial_0 a1 a2 a3 ⟨by exact ow_79e_0 h0, by exact ow_79e_1 h0⟩ ⟨by exact ow_79e_0 h1, by exact ow_79e_1 h1⟩ ⟨by exact ow_79e_0 h2, by exact ow_79e_1 h2⟩) lm_X11_225 li_X11_isTrial (by decide) (by decide) rfl rfl rfl (by decide) rfl rfl (Nat.le_of_ble_eq_true rfl) ⟨Nat.le_refl _, Or.inl rfl⟩ dX11_answer_4 ⟨rfl, hV0⟩ (fun r1 V2 hp3 => ?_)
  obtain ⟨y4, rfl, b5, rfl, hE6⟩ := hp3
  replace hT := hT.trans (pf_call_eq hE6)
  change pm_J X 7 [(0, (3, 0)), (1, (0, a1)), (2, (0, a2)), (3, (0, a3)), (4, (0, a4))] [(0, y4)] 118 V0
  refine pm_if_eq (tgt := 40) hC ⟨by exact ow_79e_20 b5, by exact ow_79e_21 b5⟩ dX11_answer_7 (by decide) (fun c7 => ?_) (fun c7 => ?_)
  · skip
    replace hT := hT.trans (if_pos c7)
    refine pm_iconst (v := 0) hC dX11_answer_40 ?_
    refine pm_istore (lv' := [(5, (0, 0)), (0, (3, 0)), (1, (0, a1)), (2, (0, a2)), (3, (0, a3)), (4, (0, a4))]) hC dX11_answer_41 (by decide) rfl ?_
    refine pm_iload hC 0 dX11_answer_43 rfl ?_
    refine pm_if_eq (tgt := 60) hC ⟨by decide, by decide⟩ dX11_answer_45 (by decide) (fun c8 => ?_) (fun c8 => ?_)
    · skip
      refine pm_iconst (v := (-1)) hC dX11_answer_60 ?_
      exact pm_iret hC hR pm_nar0 ⟨(-1), rfl, ⟨by exact ow_79e_10, by exact ow_79e_45⟩, hV0, (pm_ff.rf (cs := [9, 10, 11, 12, 13]) (fs := [(4, 6)]) (V := V0)), hT⟩ dX11_answer_61
    · skip
      exfalso; exact ow_79e_46 c8
  · skip
    replace hT := hT.trans (if_neg c7)
    refine pm_iload hC 4 dX11_answer_10 rfl ?_
    refine pm_if_lt (tgt := 40) hC ⟨by exact ow_79e_0 h3, by exact ow_79e_1 h3⟩ dX11_answer_12 (by decide) (fun c9 => ?_) (fun c9 => ?_)
    · skip
      replace hT := hT.trans (if_pos c9)
      refine pm_iconst (v := 0) hC dX11_answer_40 ?_
      refine pm_istore (lv' := [(5, (0, 0)), (0, (3, 0)), (1, (0, a1)), (2, (0, a2)), (3, (0, a3)), (4, (0, a4))]) hC dX11_answer_41 (by decide) rfl ?_
      refine pm_iload hC 0 dX11_answer_43 rfl ?_
      refine pm_if_eq (tgt := 60) hC ⟨by decide, by decide⟩ dX11_answer_45 (by decide) (fun c10 => ?_) (fun c10 => ?_)
      · skip
        refine pm_iconst (v := (-1)) hC dX11_answer_60 ?_
        exact pm_iret hC hR pm_nar0 ⟨(-1), rfl, ⟨by exact ow_79e_10, by exact ow_79e_45⟩, hV0, (pm_ff.rf (cs := [9, 10, 11, 12, 13]) (fs := [(4, 6)]) (V := V0)), hT⟩ dX11_answer_61
      · skip
        exfalso; exact ow_79e_46 c10
    · skip
      replace hT := hT.trans (if_neg (Int.not_lt.mpr c9))
      refine pm_iload hC 4 dX11_answer_15 rfl ?_
      refine pm_bipush (v := 100) hC dX11_answer_17 (by decide) ?_
      refine pm_idiv hC ⟨by exact ow_79e_47 c9, by exact ow_79e_48 c9, by exact ow_79e_1 h3⟩ ⟨by decide, by decide, by decide⟩ dX11_answer_19 ?_
      refine pm_iconst (v := 1) hC dX11_answer_20 ?_
      refine pm_icmp_gt (tgt := 40) hC ⟨by exact ow_79e_49 c9, by exact ow_79e_50 h3⟩ ⟨by decide, by decide⟩ dX11_answer_21 (by decide) (fun c11 => ?_) (fun c11 => ?_)
      · skip
        replace hT := hT.trans (if_pos c11)
        refine pm_iconst (v := 0) hC dX11_answer_40 ?_
        refine pm_istore (lv' := [(5, (0, 0)), (0, (3, 0)), (1, (0, a1)), (2, (0, a2)), (3, (0, a3)), (4, (0, a4))]) hC dX11_answer_41 (by decide) rfl ?_
        refine pm_iload hC 0 dX11_answer_43 rfl ?_
        refine pm_if_eq (tgt := 60) hC ⟨by decide, by decide⟩ dX11_answer_45 (by decide) (fun c12 => ?_) (fun c12 => ?_)
        · skip
          refine pm_iconst (v := (-1)) hC dX11_answer_60 ?_
          exact pm_iret hC hR pm_nar0 ⟨(-1), rfl, ⟨by exact ow_79e_10, by exact ow_79e_45⟩, hV0, (pm_ff.rf (cs := [9, 10, 11, 12, 13]) (fs := [(4, 6)]) (V := V0)), hT⟩ dX11_answer_61
        · skip
          exfalso; exact ow_79e_46 c12
      · skip
        replace hT := hT.trans (if_neg (Int.not_lt.mpr c11))
        refine pm_aload_n hC 0 (by decide) dX11_answer_24 rfl ?_
        refine pm_iload hC 4 dX11_answer_25 rfl ?_
        refine pm_bipush (v := 100) hC dX11_answer_27 (by decide) ?_
        refine pm_irem hC ⟨by exact ow_79e_47 c9, by exact ow_79e_48 c9, by exact ow_79e_51 c11⟩ ⟨by decide, by decide, by decide⟩ dX11_answer_29 ?_
        refine pm_callV (ci := 11) (as := [(0, (a4 % 100))]) (st := []) hC 0 (fD_X11_isSound_0 (a4 % 100) ⟨by exact ow_79e_52, by exact ow_79e_53⟩) lm_X11_142 li_X11_isSound (by decide) (by decide) rfl rfl rfl (by decide) rfl rfl (Nat.le_of_ble_eq_true rfl) ⟨Nat.le_refl _, Or.inl rfl⟩ dX11_answer_30 ⟨rfl, hV0⟩ (fun r13 V14 hp15 => ?_)
        obtain ⟨y16, rfl, b17, rfl, hE18⟩ := hp15
        replace hT := hT.trans (pf_call_eq hE18)
        change pm_J X 33 [(0, (3, 0)), (1, (0, a1)), (2, (0, a2)), (3, (0, a3)), (4, (0, a4))] [(0, y16)] 118 V0
        refine pm_if_eq (tgt := 40) hC ⟨by exact ow_79e_54 b17, by exact ow_79e_55 b17⟩ dX11_answer_33 (by decide) (fun c19 => ?_) (fun c19 => ?_)
        · skip
          replace hT := hT.trans (if_pos c19)
          refine pm_iconst (v := 0) hC dX11_answer_40 ?_
          refine pm_istore (lv' := [(5, (0, 0)), (0, (3, 0)), (1, (0, a1)), (2, (0, a2)), (3, (0, a3)), (4, (0, a4))]) hC dX11_answer_41 (by decide) rfl ?_
          refine pm_iload hC 0 dX11_answer_43 rfl ?_
          refine pm_if_eq (tgt := 60) hC ⟨by decide, by decide⟩ dX11_answer_45 (by decide) (fun c20 => ?_) (fun c20 => ?_)
          · skip
            refine pm_iconst (v := (-1)) hC dX11_answer_60 ?_
            exact pm_iret hC hR pm_nar0 ⟨(-1), rfl, ⟨by exact ow_79e_10, by exact ow_79e_45⟩, hV0, (pm_ff.rf (cs := [9, 10, 11, 12, 13]) (fs := [(4, 6)]) (V := V0)), hT⟩ dX11_answer_61
          · skip
            exfalso; exact ow_79e_46 c20
        · skip
          replace hT := hT.trans (if_neg c19)
          refine pm_iconst (v := 1) hC dX11_answer_36 ?_
          refine pm_goto (tgt := 41) hC dX11_answer_37 (by decide) ?_
          refine pm_istore (lv' := [(5, (0, 1)), (0, (3, 0)), (1, (0, a1)), (2, (0, a2)), (3, (0, a3)), (4, (0, a4))]) hC dX11_answer_41 (by decide) rfl ?_
          refine pm_iload hC 0 dX11_answer_43 rfl ?_
          refine pm_if_eq (tgt := 60) hC ⟨by decide, by decide⟩ dX11_answer_45 (by decide) (fun c21 => ?_) (fun c21 => ?_)
          · skip
            exfalso; exact ow_79e_56 c21
          · skip
            refine pm_aload_n hC 1 (by decide) dX11_answer_48 rfl ?_
            have e22 : V0 0 3 = 4 := hV0.one 0 3 (by decide) (by decide) rfl
            refine pm_getf (v := 4) hC 0 fl_X11_24 rfl rfl (by decide) rfl e22 dX11_answer_49 ?_
            obtain ⟨y23, e24⟩ : ∃ y, V0 4 6 = y := ⟨_, rfl⟩
            have b25 := hV0.get 4 6 (lo := 0) (hi := 60) (by decide) (by decide) rfl
            rw [e24] at b25
            replace hT := hT.trans (pf_let_eq e24)
            refine pm_getf (v := y23) hC 4 fl_X11_162 rfl rfl (by decide) rfl e24 dX11_answer_52 ?_
            refine pm_bipush (v := 60) hC dX11_answer_55 (by decide) ?_
            refine pm_icmp_lt (tgt := 62) hC ⟨by exact ow_79e_29 b25, by exact ow_79e_30 b25⟩ ⟨by decide, by decide⟩ dX11_answer_57 (by decide) (fun c26 => ?_) (fun c26 => ?_)
            · skip
              replace hT := hT.trans (if_pos c26)
              refine pm_aload_n hC 1 (by decide) dX11_answer_62 rfl ?_
              refine pm_getf (v := 4) hC 0 fl_X11_24 rfl rfl (by decide) rfl e22 dX11_answer_63 ?_
              refine pm_iload_n hC 2 dX11_answer_66 rfl ?_
              refine pm_iload_n hC 3 dX11_answer_67 rfl ?_
              refine pm_iload_n hC 4 dX11_answer_68 rfl ?_
              refine pm_iload hC 5 dX11_answer_69 rfl ?_
              refine pm_bipush (v := 100) hC dX11_answer_71 (by decide) ?_
              refine pm_irem hC ⟨by exact ow_79e_47 c9, by exact ow_79e_48 c9, by exact ow_79e_51 c11⟩ ⟨by decide, by decide, by decide⟩ dX11_answer_73 ?_
              refine pm_iload hC 5 dX11_answer_74 rfl ?_
              refine pm_bipush (v := 100) hC dX11_answer_76 (by decide) ?_
              refine pm_icmp_lt (tgt := 85) hC ⟨by exact ow_79e_48 c9, by exact ow_79e_51 c11⟩ ⟨by decide, by decide⟩ dX11_answer_78 (by decide) (fun c27 => ?_) (fun c27 => ?_)
              · skip
                replace hT := hT.trans (if_pos c27)
                refine pm_iconst (v := 0) hC dX11_answer_85 ?_
                refine pm_callV (ci := 7) (as := [(0, a1), (0, a2), (0, a3), (0, (a4 % 100)), (0, 0)]) (st := []) hC 4 (fD_X7_addAnswer_4 a1 a2 a3 (a4 % 100) 0 ⟨by exact ow_79e_22 b5 c7, by exact ow_79e_23 b5 c7⟩ ⟨by exact ow_79e_24 b5 c7, by exact ow_79e_25 b5 c7⟩ ⟨by exact ow_79e_26 b5 c7, by exact ow_79e_27 b5 c7⟩ ⟨by exact ow_79e_57, by exact ow_79e_58 b17 c19⟩ ⟨by decide, by decide⟩ (by exact ow_79e_28 b5 c7)) lm_X11_236 li_X7_addAnswer (by decide) (by decide) rfl rfl rfl (by decide) rfl rfl (Nat.le_of_ble_eq_true rfl) ⟨Nat.le_refl _, Or.inl rfl⟩ dX11_answer_86 ⟨rfl, hV0⟩ (fun r28 V29 hp30 => ?_)
                obtain ⟨rfl, hV31, hF32, hxp33, hE34⟩ := hp30
                replace hT := hT.trans (pf_call_eq hE34)
                change pm_J X 89 [(5, (0, 1)), (0, (3, 0)), (1, (0, a1)), (2, (0, a2)), (3, (0, a3)), (4, (0, a4))] [] 118 V29
                have hF35 := pm_ff.tr (pm_ff.rf (cs := [9, 10, 11, 12, 13]) (fs := [(4, 6)]) (V := V0)) hF32 (by decide) (by decide)
                have e36 : V29 0 3 = 4 := by rw [hF32 0 3 (by decide) (by decide)]; exact e22
                refine pm_aload_n hC 1 (by decide) dX11_answer_89 rfl ?_
                refine pm_getf (v := 4) hC 0 fl_X11_24 rfl rfl (by decide) rfl e36 dX11_answer_90 ?_
                obtain ⟨y37, e38⟩ : ∃ y, V29 4 6 = y := ⟨_, rfl⟩
                have b39 := hV31.get 4 6 (lo := 0) (hi := 60) (by decide) (by decide) rfl
                rw [e38] at b39
                replace hT := hT.trans (pf_let_eq e38)
                refine pm_getf (v := y37) hC 4 fl_X11_162 rfl rfl (by decide) rfl e38 dX11_answer_93 ?_
                exact pm_iret hC hR pm_nar0 ⟨y37, rfl, ⟨by exact ow_79e_59 b39, by exact ow_79e_60 b39⟩, hV31, hF35, hT⟩ dX11_answer_96
              · skip
                replace hT := hT.trans (if_neg (Int.not_lt.mpr c27))
                refine pm_iconst (v := 1) hC dX11_answer_81 ?_
                refine pm_goto (tgt := 86) hC dX11_answer_82 (by decide) ?_
                refine pm_callV (ci := 7) (as := [(0, a1), (0, a2), (0, a3), (0, (a4 % 100)), (0, 1)]) (st := []) hC 4 (fD_X7_addAnswer_4 a1 a2 a3 (a4 % 100) 1 ⟨by exact ow_79e_22 b5 c7, by exact ow_79e_23 b5 c7⟩ ⟨by exact ow_79e_24 b5 c7, by exact ow_79e_25 b5 c7⟩ ⟨by exact ow_79e_26 b5 c7, by exact ow_79e_27 b5 c7⟩ ⟨by exact ow_79e_57, by exact ow_79e_58 b17 c19⟩ ⟨by decide, by decide⟩ (by exact ow_79e_28 b5 c7)) lm_X11_236 li_X7_addAnswer (by decide) (by decide) rfl rfl rfl (by decide) rfl rfl (Nat.le_of_ble_eq_true rfl) ⟨Nat.le_refl _, Or.inl rfl⟩ dX11_answer_86 ⟨rfl, hV0⟩ (fun r40 V41 hp42 => ?_)
                obtain ⟨rfl, hV43, hF44, hxp45, hE46⟩ := hp42
                replace hT := hT.trans (pf_call_eq hE46)
                change pm_J X 89 [(5, (0, 1)), (0, (3, 0)), (1, (0, a1)), (2, (0, a2)), (3, (0, a3)), (4, (0, a4))] [] 118 V41
                have hF47 := pm_ff.tr (pm_ff.rf (cs := [9, 10, 11, 12, 13]) (fs := [(4, 6)]) (V := V0)) hF44 (by decide) (by decide)
                have e48 : V41 0 3 = 4 := by rw [hF44 0 3 (by decide) (by decide)]; exact e22
                refine pm_aload_n hC 1 (by decide) dX11_answer_89 rfl ?_
                refine pm_getf (v := 4) hC 0 fl_X11_24 rfl rfl (by decide) rfl e48 dX11_answer_90 ?_
                obtain ⟨y49, e50⟩ : ∃ y, V41 4 6 = y := ⟨_, rfl⟩
                have b51 := hV43.get 4 6 (lo := 0) (hi := 60) (by decide) (by decide) rfl
                rw [e50] at b51
                replace hT := hT.trans (pf_let_eq e50)
                refine pm_getf (v := y49) hC 4 fl_X11_162 rfl rfl (by decide) rfl e50 dX11_answer_93 ?_
                exact pm_iret hC hR pm_nar0 ⟨y49, rfl, ⟨by exact ow_79e_59 b51, by exact ow_79e_60 b51⟩, hV43, hF47, hT⟩ dX11_answer_96
            · skip
              replace hT := hT.trans (if_neg (Int.not_lt.mpr c26))
              refine pm_iconst (v := (-1)) hC dX11_answer_60 ?_
              exact pm_iret hC hR pm_nar0 ⟨(-1), rfl, ⟨by exact ow_79e_10, by exact ow_79e_45⟩, hV0, (pm_ff.rf (cs := [9, 10, 11, 12, 13]) (fs := [(4, 6)]) (V := V0)), hT⟩ dX11_answer_61
set_option maxHeartbeats 4000000 in
set_option maxRecDepth 100000 in
theorem fD_X11_undo_0  : pm_K 1 yX11_undo cX11_undo 1 (some .int) (fun av V => av = [(3, 0)] ∧ pm_ok 0 90 V) (fun _ V r V' => ∃ y, r = some (0, y) ∧ ((-1) ≤ y ∧ y ≤ 59) ∧ pm_ok 0 90 V' ∧ pm_ff [] [(4, 6)] V V' ∧ F_X11_undo  V = (y, V')) := by
  refine pm_MT.of (by decide) ⟨Nat.le_refl _, by decide⟩ (fun av V h => by rw [h.1]; exact (by decide : pm_words [(3, 0)] ≤ 1)) ?_
  rintro X av V0 hC - hR ⟨rfl, hV0⟩
  change pm_J X 0 [(0, (3, 0))] [] 118 V0
  have hT := F_X11_undo_eq  V0
  refine pm_aload_n hC 0 (by decide) dX11_undo_0 rfl ?_
  have e1 : V0 0 3 = 4 := hV0.one 0 3 (by decide) (by decide) rfl
  refine pm_getf (v := 4) hC 0 fl_X11_24 rfl rfl (by decide) rfl e1 dX11_undo_1 ?_
  obtain ⟨y2, e3⟩ : ∃ y, V0 4 6 = y := ⟨_, rfl⟩
  have b4 := hV0.get 4 6 (lo := 0) (hi := 60) (by decide) (by decide) rfl
  rw [e3] at b4
  replace hT := hT.trans (pf_let_eq e3)
  refine pm_getf (v := y2) hC 4 fl_X11_162 rfl rfl (by decide) rfl e3 dX11_undo_4 ?_
  refine pm_if_gt (tgt := 12) hC ⟨by exact ow_79e_29 b4, by exact ow_79e_30 b4⟩ dX11_undo_7 (by decide) (fun c5 => ?_) (fun c5 => ?_)
  · skip
    replace hT := hT.trans (if_pos c5)
    refine pm_aload_n hC 0 (by decide) dX11_undo_12 rfl ?_
    refine pm_getf (v := 4) hC 0 fl_X11_24 rfl rfl (by decide) rfl e1 dX11_undo_13 ?_
    refine pm_dup hC rfl dX11_undo_16 ?_
    refine pm_getf (v := y2) hC 4 fl_X11_162 rfl rfl (by decide) rfl e3 dX11_undo_17 ?_
    refine pm_iconst (v := 1) hC dX11_undo_20 ?_
    refine pm_isub hC dX11_undo_21 ?_
    refine pm_putf hC 4 fl_X11_162 rfl rfl rfl (by decide) rfl trivial dX11_undo_22 ?_
    refine pm_aload_n hC 0 (by decide) dX11_undo_25 rfl ?_
    refine pm_getf (v := 4) hC 0 fl_X11_24 rfl rfl (by decide) rfl e1 dX11_undo_26 ?_
    refine pm_getf (v := (y2 - 1)) hC 4 fl_X11_162 rfl rfl (by decide) rfl rfl dX11_undo_29 ?_
    exact pm_iret hC hR pm_nar0 ⟨(y2 - 1), rfl, ⟨by exact ow_79e_61 c5, by exact ow_79e_62 b4⟩, (hV0.put 4 6 (x := (y2 - 1)) (lo := 0) (hi := 60) rfl ⟨by exact ow_79e_63 c5, by exact ow_79e_64 b4⟩), ((pm_ff.rf (cs := []) (fs := [(4, 6)]) (V := V0)).upf 4 6 (y2 - 1) rfl), hT⟩ dX11_undo_32
  · skip
    replace hT := hT.trans (if_neg (Int.not_lt.mpr c5))
    refine pm_iconst (v := (-1)) hC dX11_undo_10 ?_
    exact pm_iret hC hR pm_nar0 ⟨(-1), rfl, ⟨by exact ow_79e_10, by exact ow_79e_65⟩, hV0, (pm_ff.rf (cs := []) (fs := [(4, 6)]) (V := V0)), hT⟩ dX11_undo_11
set_option maxHeartbeats 4000000 in
set_option maxRecDepth 100000 in
theorem fD_X7_isAnswer_4 (a1 : Int) (h0 : (-2147483648) ≤ a1 ∧ a1 ≤ 2147483647) : pm_K 1 yX7_isAnswer cX7_isAnswer 2 (some .boolean) (fun av V => av = [(3, 4), (0, a1)] ∧ pm_ok 0 90 V) (fun _ V r V' => ∃ y, r = some (0, y) ∧ (0 ≤ y ∧ y ≤ 1 ∧ (y = 1 → (0 ≤ a1 ∧ a1 ≤ 59))) ∧ V = V' ∧ F_X7_isAnswer a1 V = (y, V)) := by
  refine pm_MT.of (by decide) ⟨Nat.le_refl _, by decide⟩ (fun av V h => by rw [h.1]; exact (by decide : pm_words [(3, 0), (0, 0)] ≤ 2)) ?_
  rintro X av V0 hC - hR ⟨rfl, hV0⟩
  change pm_J X 0 [(0, (3, 4)), (1, (0, a1))] [] 118 V0
  have hT := F_X7_isAnswer_eq a1 V0
  refine pm_iload_n hC 1 dX7_isAnswer_0 rfl ?_
  refine pm_if_lt (tgt := 16) hC ⟨by exact ow_79e_0 h0, by exact ow_79e_1 h0⟩ dX7_isAnswer_1 (by decide) (fun c1 => ?_) (fun c1 => ?_)
  · skip
    replace hT := hT.trans (if_pos c1)
    refine pm_iconst (v := 0) hC dX7_isAnswer_16 ?_
    exact pm_iret hC hR (pm_narZ (by exact ow_79e_66)) ⟨0, rfl, ⟨by exact ow_79e_67, by exact ow_79e_68, by exact ow_79e_69⟩, rfl, hT⟩ dX7_isAnswer_17
  · skip
    replace hT := hT.trans (if_neg (Int.not_lt.mpr c1))
    refine pm_iload_n hC 1 dX7_isAnswer_4 rfl ?_
    refine pm_aload_n hC 0 (by decide) dX7_isAnswer_5 rfl ?_
    obtain ⟨y2, e3⟩ : ∃ y, V0 4 6 = y := ⟨_, rfl⟩
    have b4 := hV0.get 4 6 (lo := 0) (hi := 60) (by decide) (by decide) rfl
    rw [e3] at b4
    replace hT := hT.trans (pf_let_eq e3)
    refine pm_getf (v := y2) hC 4 fl_X7_32 rfl rfl (by decide) rfl e3 dX7_isAnswer_6 ?_
    refine pm_icmp_ge (tgt := 16) hC ⟨by exact ow_79e_48 c1, by exact ow_79e_1 h0⟩ ⟨by exact ow_79e_29 b4, by exact ow_79e_30 b4⟩ dX7_isAnswer_9 (by decide) (fun c5 => ?_) (fun c5 => ?_)
    · skip
      replace hT := hT.trans (if_pos c5)
      refine pm_iconst (v := 0) hC dX7_isAnswer_16 ?_
      exact pm_iret hC hR (pm_narZ (by exact ow_79e_66)) ⟨0, rfl, ⟨by exact ow_79e_67, by exact ow_79e_68, by exact ow_79e_69⟩, rfl, hT⟩ dX7_isAnswer_17
    · skip
      replace hT := hT.trans (if_neg (Int.not_le.mpr c5))
      refine pm_iconst (v := 1) hC dX7_isAnswer_12 ?_
      refine pm_goto (tgt := 17) hC dX7_isAnswer_13 (by decide) ?_
      exact pm_iret hC hR (pm_narZ (by exact ow_79e_70)) ⟨1, rfl, ⟨by exact ow_79e_68, by exact ow_79e_71, by exact ow_79e_72 c1 b4 c5⟩, rfl, hT⟩ dX7_isAnswer_17
set_option maxHeartbeats 4000000 in
set_option maxRecDepth 100000 in
theorem fD_X7_kindOfAnswer_4 (a1 : Int) (h0 : 0 ≤ a1 ∧ a1 ≤ 59) : pm_K 2 yX7_kindOfAnswer cX7_kindOfAnswer 2 (some .int) (fun av V => av = [(3, 4), (0, a1)] ∧ pm_ok 0 90 V) (fun _ V r V' => ∃ y, r = some (0, y) ∧ (0 ≤ y ∧ y ≤ 3) ∧ V = V' ∧ F_X7_kindOfAnswer a1 V = (y, V)) := by
  refine pm_MT.of (by decide) ⟨Nat.le_refl _, by decide⟩ (fun av V h => by rw [h.1]; exact (by decide : pm_words [(3, 0), (0, 0)] ≤ 2)) ?_
  rintro X av V0 hC - hR ⟨rfl, hV0⟩
  change pm_J X 0 [(0, (3, 4)), (1, (0, a1))] [] 118 V0
  have hT := F_X7_kindOfAnswer_eq a1 V0
  refine pm_aload_n hC 0 (by decide) dX7_kindOfAnswer_0 rfl ?_
  have e1 : V0 4 7 = 9 := hV0.one 4 7 (by decide) (by decide) rfl
  refine pm_getf (v := 9) hC 4 fl_X7_35 rfl rfl (by decide) rfl e1 dX7_kindOfAnswer_1 ?_
  refine pm_iload_n hC 1 dX7_kindOfAnswer_4 rfl ?_
  obtain ⟨y2, e3⟩ : ∃ y, V0 9 (a1 : Int).toNat = y := ⟨_, rfl⟩
  replace hT := hT.trans (pf_let_eq e3)
  have b4 := hV0.get1 9 (a1 : Int).toNat (lo := 0) (hi := 999) (by decide) (show _ < 60 by exact ow_79e_73 h0) rfl
  rw [e3] at b4
  refine pm_iaload (len := 60) (v := y2) hC 9 rfl rfl (by decide) ⟨by exact ow_79e_74 h0, by exact ow_79e_75 h0⟩ (by decide) e3 dX7_kindOfAnswer_5 ?_
  refine pm_bipush (v := 10) hC dX7_kindOfAnswer_6 (by decide) ?_
  refine pm_idiv hC ⟨by exact ow_79e_76 b4, by exact ow_79e_77 b4, by exact ow_79e_78 b4⟩ ⟨by decide, by decide, by decide⟩ dX7_kindOfAnswer_8 ?_
  refine pm_bipush (v := 10) hC dX7_kindOfAnswer_9 (by decide) ?_
  refine pm_irem hC ⟨by exact ow_79e_79 b4, by exact ow_79e_80 b4, by exact ow_79e_81 b4⟩ ⟨by decide, by decide, by decide⟩ dX7_kindOfAnswer_11 ?_
  refine pm_aload_n hC 0 (by decide) dX7_kindOfAnswer_12 rfl ?_
  refine pm_getf (v := 9) hC 4 fl_X7_35 rfl rfl (by decide) rfl e1 dX7_kindOfAnswer_13 ?_
  refine pm_iload_n hC 1 dX7_kindOfAnswer_16 rfl ?_
  refine pm_iaload (len := 60) (v := y2) hC 9 rfl rfl (by decide) ⟨by exact ow_79e_74 h0, by exact ow_79e_75 h0⟩ (by decide) e3 dX7_kindOfAnswer_17 ?_
  refine pm_bipush (v := 10) hC dX7_kindOfAnswer_18 (by decide) ?_
  refine pm_irem hC ⟨by exact ow_79e_76 b4, by exact ow_79e_77 b4, by exact ow_79e_78 b4⟩ ⟨by decide, by decide, by decide⟩ dX7_kindOfAnswer_20 ?_
  refine pm_aload_n hC 0 (by decide) dX7_kindOfAnswer_21 rfl ?_
  have e5 : V0 4 10 = 12 := hV0.one 4 10 (by decide) (by decide) rfl
  refine pm_getf (v := 12) hC 4 fl_X7_44 rfl rfl (by decide) rfl e5 dX7_kindOfAnswer_22 ?_
  refine pm_iload_n hC 1 dX7_kindOfAnswer_25 rfl ?_
  obtain ⟨y6, e7⟩ : ∃ y, V0 12 (a1 : Int).toNat = y := ⟨_, rfl⟩
  replace hT := hT.trans (pf_let_eq e7)
  have b8 := hV0.get 12 (a1 : Int).toNat (lo := 0) (hi := 8) (by decide) (show _ < 60 by exact ow_79e_73 h0) rfl
  rw [e7] at b8
  refine pm_iaload (len := 60) (v := y6) hC 12 rfl rfl (by decide) ⟨by exact ow_79e_74 h0, by exact ow_79e_75 h0⟩ (by decide) e7 dX7_kindOfAnswer_26 ?_
  refine pm_callSN (as := [(0, ((y2 / 10) % 10)), (0, (y2 % 10)), (0, y6)]) (st := []) hC (fD_X11_kindOfSaid ((y2 / 10) % 10) (y2 % 10) y6 ⟨by exact ow_79e_82, by exact ow_79e_83 b4⟩ ⟨by exact ow_79e_84, by exact ow_79e_85 b4⟩ ⟨by exact ow_79e_86 b8, by exact ow_79e_87 b8⟩) lm_X7_59 ls_X11_kindOfSaid (by decide) (by decide) rfl rfl (Nat.le_of_ble_eq_true rfl) ⟨Nat.le_refl _, Or.inl rfl⟩ dX7_kindOfAnswer_27 ⟨rfl, hV0⟩ (fun r9 V10 hp11 => ?_)
  obtain ⟨y12, rfl, b13, rfl, hE14⟩ := hp11
  replace hT := hT.trans (pf_call_eq hE14)
  change pm_J X 30 [(0, (3, 4)), (1, (0, a1))] [(0, y12)] 118 V0
  exact pm_iret hC hR pm_nar0 ⟨y12, rfl, ⟨by exact ow_79e_88 b13, by exact ow_79e_89 b13⟩, rfl, hT⟩ dX7_kindOfAnswer_30
set_option maxHeartbeats 4000000 in
set_option maxRecDepth 100000 in
theorem fD_X11_of_0 (a1 a2 : Int) (h0 : (-2147483648) ≤ a1 ∧ a1 ≤ 2147483647) (h1 : (-2147483648) ≤ a2 ∧ a2 ≤ 2147483647) : pm_K 3 yX11_of cX11_of 3 (some .int) (fun av V => av = [(3, 0), (0, a1), (0, a2)] ∧ pm_ok 0 90 V) (fun _ V r V' => ∃ y, r = some (0, y) ∧ ((-2147483648) ≤ y ∧ y ≤ 999) ∧ V = V' ∧ F_X11_of a1 a2 V = (y, V)) := by
  refine pm_MT.of (by decide) ⟨Nat.le_refl _, by decide⟩ (fun av V h => by rw [h.1]; exact (by decide : pm_words [(3, 0), (0, 0), (0, 0)] ≤ 3)) ?_
  rintro X av V0 hC - hR ⟨rfl, hV0⟩
  change pm_J X 0 [(0, (3, 0)), (1, (0, a1)), (2, (0, a2))] [] 118 V0
  have hT := F_X11_of_eq a1 a2 V0
  refine pm_aload_n hC 0 (by decide) dX11_of_0 rfl ?_
  have e1 : V0 0 3 = 4 := hV0.one 0 3 (by decide) (by decide) rfl
  refine pm_getf (v := 4) hC 0 fl_X11_24 rfl rfl (by decide) rfl e1 dX11_of_1 ?_
  refine pm_iload_n hC 1 dX11_of_4 rfl ?_
  refine pm_callV (ci := 7) (as := [(0, a1)]) (st := []) hC 4 (fD_X7_isAnswer_4 a1 ⟨by exact ow_79e_0 h0, by exact ow_79e_1 h0⟩) lm_X11_240 li_X7_isAnswer (by decide) (by decide) rfl rfl rfl (by decide) rfl rfl (Nat.le_of_ble_eq_true rfl) ⟨Nat.le_refl _, Or.inl rfl⟩ dX11_of_5 ⟨rfl, hV0⟩ (fun r2 V3 hp4 => ?_)
  obtain ⟨y5, rfl, b6, rfl, hE7⟩ := hp4
  replace hT := hT.trans (pf_call_eq hE7)
  change pm_J X 8 [(0, (3, 0)), (1, (0, a1)), (2, (0, a2))] [(0, y5)] 118 V0
  refine pm_if_ne (tgt := 14) hC ⟨by exact ow_79e_90 b6, by exact ow_79e_91 b6⟩ dX11_of_8 (by decide) (fun c8 => ?_) (fun c8 => ?_)
  · skip
    replace hT := hT.trans (if_pos c8)
    refine pm_iload_n hC 2 dX11_of_14 rfl ?_
    rcases (show (a2 < 0 ∨ 5 < a2) ∨ a2 = (0 : Int) ∨ a2 = (1 : Int) ∨ a2 = (2 : Int) ∨ a2 = (3 : Int) ∨ a2 = (4 : Int) ∨ a2 = (5 : Int) by exact ow_79e_92) with c9 | c9 | c9 | c9 | c9 | c9 | c9
    · skip
      refine pm_tableOut (tgt := 119) hC ⟨by exact ow_79e_0 h1, by exact ow_79e_1 h1⟩ dX11_of_15 c9 (by decide) ?_
      replace hT := hT.trans (if_pos c9)
      refine pm_ldc (v := (-2147483648)) hC 3153 dX11_of_119 (by decide +kernel) ?_
      exact pm_iret hC hR pm_nar0 ⟨(-2147483648), rfl, ⟨by exact ow_79e_93, by exact ow_79e_94⟩, rfl, hT⟩ dX11_of_121
    · skip
      refine pm_tableIn (tgt := 52) (off := 37) hC ⟨by exact ow_79e_95 c9, by exact ow_79e_96 c9⟩ dX11_of_15 (by exact ow_79e_97 c9) (by exact ow_79e_98 c9) (by rw [c9]; rfl) (by decide) ?_
      replace hT := hT.trans (if_neg (by exact ow_79e_99 c9))
      replace hT := hT.trans (if_pos c9)
      refine pm_aload_n hC 0 (by decide) dX11_of_52 rfl ?_
      refine pm_getf (v := 4) hC 0 fl_X11_24 rfl rfl (by decide) rfl e1 dX11_of_53 ?_
      have e10 : V0 4 7 = 9 := hV0.one 4 7 (by decide) (by decide) rfl
      refine pm_getf (v := 9) hC 4 fl_X11_243 rfl rfl (by decide) rfl e10 dX11_of_56 ?_
      refine pm_iload_n hC 1 dX11_of_59 rfl ?_
      obtain ⟨y11, e12⟩ : ∃ y, V0 9 (a1 : Int).toNat = y := ⟨_, rfl⟩
      replace hT := hT.trans (pf_let_eq e12)
      have b13 := hV0.get1 9 (a1 : Int).toNat (lo := 0) (hi := 999) (by decide) (show _ < 60 by exact ow_79e_100 b6 c8) rfl
      rw [e12] at b13
      refine pm_iaload (len := 60) (v := y11) hC 9 rfl rfl (by decide) ⟨by exact ow_79e_101 b6 c8, by exact ow_79e_102 b6 c8⟩ (by decide) e12 dX11_of_60 ?_
      exact pm_iret hC hR pm_nar0 ⟨y11, rfl, ⟨by exact ow_79e_77 b13, by exact ow_79e_103 b13⟩, rfl, hT⟩ dX11_of_61
    · skip
      refine pm_tableIn (tgt := 62) (off := 47) hC ⟨by exact ow_79e_104 c9, by exact ow_79e_105 c9⟩ dX11_of_15 (by exact ow_79e_106 c9) (by exact ow_79e_107 c9) (by rw [c9]; rfl) (by decide) ?_
      replace hT := hT.trans (if_neg (by exact ow_79e_108 c9))
      replace hT := hT.trans (if_neg (by exact ow_79e_109 c9))
      replace hT := hT.trans (if_pos c9)
      refine pm_aload_n hC 0 (by decide) dX11_of_62 rfl ?_
      refine pm_getf (v := 4) hC 0 fl_X11_24 rfl rfl (by decide) rfl e1 dX11_of_63 ?_
      have e14 : V0 4 8 = 10 := hV0.one 4 8 (by decide) (by decide) rfl
      refine pm_getf (v := 10) hC 4 fl_X11_246 rfl rfl (by decide) rfl e14 dX11_of_66 ?_
      refine pm_iload_n hC 1 dX11_of_69 rfl ?_
      obtain ⟨y15, e16⟩ : ∃ y, V0 10 (a1 : Int).toNat = y := ⟨_, rfl⟩
      replace hT := hT.trans (pf_let_eq e16)
      have b17 := hV0.get 10 (a1 : Int).toNat (lo := 0) (hi := 99) (by decide) (show _ < 60 by exact ow_79e_100 b6 c8) rfl
      rw [e16] at b17
      refine pm_iaload (len := 60) (v := y15) hC 10 rfl rfl (by decide) ⟨by exact ow_79e_101 b6 c8, by exact ow_79e_102 b6 c8⟩ (by decide) e16 dX11_of_70 ?_
      exact pm_iret hC hR pm_nar0 ⟨y15, rfl, ⟨by exact ow_79e_110 b17, by exact ow_79e_111 b17⟩, rfl, hT⟩ dX11_of_71
    · skip
      refine pm_tableIn (tgt := 72) (off := 57) hC ⟨by exact ow_79e_112 c9, by exact ow_79e_113 c9⟩ dX11_of_15 (by exact ow_79e_114 c9) (by exact ow_79e_115 c9) (by rw [c9]; rfl) (by decide) ?_
      replace hT := hT.trans (if_neg (by exact ow_79e_116 c9))
      replace hT := hT.trans (if_neg (by exact ow_79e_117 c9))
      replace hT := hT.trans (if_neg (by exact ow_79e_118 c9))
      replace hT := hT.trans (if_pos c9)
      refine pm_aload_n hC 0 (by decide) dX11_of_72 rfl ?_
      refine pm_getf (v := 4) hC 0 fl_X11_24 rfl rfl (by decide) rfl e1 dX11_of_73 ?_
      have e18 : V0 4 9 = 11 := hV0.one 4 9 (by decide) (by decide) rfl
      refine pm_getf (v := 11) hC 4 fl_X11_249 rfl rfl (by decide) rfl e18 dX11_of_76 ?_
      refine pm_iload_n hC 1 dX11_of_79 rfl ?_
      obtain ⟨y19, e20⟩ : ∃ y, V0 11 (a1 : Int).toNat = y := ⟨_, rfl⟩
      replace hT := hT.trans (pf_let_eq e20)
      have b21 := hV0.get 11 (a1 : Int).toNat (lo := (-99)) (hi := 99) (by decide) (show _ < 60 by exact ow_79e_100 b6 c8) rfl
      rw [e20] at b21
      refine pm_iaload (len := 60) (v := y19) hC 11 rfl rfl (by decide) ⟨by exact ow_79e_101 b6 c8, by exact ow_79e_102 b6 c8⟩ (by decide) e20 dX11_of_80 ?_
      exact pm_iret hC hR pm_nar0 ⟨y19, rfl, ⟨by exact ow_79e_119 b21, by exact ow_79e_120 b21⟩, rfl, hT⟩ dX11_of_81
    · skip
      refine pm_tableIn (tgt := 82) (off := 67) hC ⟨by exact ow_79e_121 c9, by exact ow_79e_122 c9⟩ dX11_of_15 (by exact ow_79e_123 c9) (by exact ow_79e_124 c9) (by rw [c9]; rfl) (by decide) ?_
      replace hT := hT.trans (if_neg (by exact ow_79e_125 c9))
      replace hT := hT.trans (if_neg (by exact ow_79e_126 c9))
      replace hT := hT.trans (if_neg (by exact ow_79e_127 c9))
      replace hT := hT.trans (if_neg (by exact ow_79e_128 c9))
      replace hT := hT.trans (if_pos c9)
      refine pm_aload_n hC 0 (by decide) dX11_of_82 rfl ?_
      refine pm_getf (v := 4) hC 0 fl_X11_24 rfl rfl (by decide) rfl e1 dX11_of_83 ?_
      have e22 : V0 4 10 = 12 := hV0.one 4 10 (by decide) (by decide) rfl
      refine pm_getf (v := 12) hC 4 fl_X11_252 rfl rfl (by decide) rfl e22 dX11_of_86 ?_
      refine pm_iload_n hC 1 dX11_of_89 rfl ?_
      obtain ⟨y23, e24⟩ : ∃ y, V0 12 (a1 : Int).toNat = y := ⟨_, rfl⟩
      replace hT := hT.trans (pf_let_eq e24)
      have b25 := hV0.get 12 (a1 : Int).toNat (lo := 0) (hi := 8) (by decide) (show _ < 60 by exact ow_79e_100 b6 c8) rfl
      rw [e24] at b25
      refine pm_iaload (len := 60) (v := y23) hC 12 rfl rfl (by decide) ⟨by exact ow_79e_101 b6 c8, by exact ow_79e_102 b6 c8⟩ (by decide) e24 dX11_of_90 ?_
      exact pm_iret hC hR pm_nar0 ⟨y23, rfl, ⟨by exact ow_79e_86 b25, by exact ow_79e_129 b25⟩, rfl, hT⟩ dX11_of_91
    · skip
      refine pm_tableIn (tgt := 92) (off := 77) hC ⟨by exact ow_79e_130 c9, by exact ow_79e_131 c9⟩ dX11_of_15 (by exact ow_79e_132 c9) (by exact ow_79e_133 c9) (by rw [c9]; rfl) (by decide) ?_
      replace hT := hT.trans (if_neg (by exact ow_79e_134 c9))
      replace hT := hT.trans (if_neg (by exact ow_79e_135 c9))
      replace hT := hT.trans (if_neg (by exact ow_79e_136 c9))
      replace hT := hT.trans (if_neg (by exact ow_79e_137 c9))
      replace hT := hT.trans (if_neg (by exact ow_79e_138 c9))
      replace hT := hT.trans (if_pos c9)
      refine pm_aload_n hC 0 (by decide) dX11_of_92 rfl ?_
      refine pm_getf (v := 4) hC 0 fl_X11_24 rfl rfl (by decide) rfl e1 dX11_of_93 ?_
      have e26 : V0 4 11 = 13 := hV0.one 4 11 (by decide) (by decide) rfl
      refine pm_getf (v := 13) hC 4 fl_X11_255 rfl rfl (by decide) rfl e26 dX11_of_96 ?_
      refine pm_iload_n hC 1 dX11_of_99 rfl ?_
      obtain ⟨y27, e28⟩ : ∃ y, V0 13 (a1 : Int).toNat = y := ⟨_, rfl⟩
      replace hT := hT.trans (pf_let_eq e28)
      have b29 := hV0.get 13 (a1 : Int).toNat (lo := 0) (hi := 1) (by decide) (show _ < 60 by exact ow_79e_100 b6 c8) rfl
      rw [e28] at b29
      refine pm_zaload (len := 60) (v := y27) hC 13 rfl rfl (by decide) ⟨by exact ow_79e_101 b6 c8, by exact ow_79e_102 b6 c8⟩ (by decide) e28 dX11_of_100 ?_
      refine pm_if_eq (tgt := 108) hC ⟨by exact ow_79e_139 b29, by exact ow_79e_140 b29⟩ dX11_of_101 (by decide) (fun c30 => ?_) (fun c30 => ?_)
      · skip
        replace hT := hT.trans (if_pos c30)
        refine pm_iconst (v := 0) hC dX11_of_108 ?_
        exact pm_iret hC hR pm_nar0 ⟨0, rfl, ⟨by exact ow_79e_141, by exact ow_79e_142⟩, rfl, hT⟩ dX11_of_109
      · skip
        replace hT := hT.trans (if_neg c30)
        refine pm_iconst (v := 1) hC dX11_of_104 ?_
        refine pm_goto (tgt := 109) hC dX11_of_105 (by decide) ?_
        exact pm_iret hC hR pm_nar0 ⟨1, rfl, ⟨by exact ow_79e_143, by exact ow_79e_144⟩, rfl, hT⟩ dX11_of_109
    · skip
      refine pm_tableIn (tgt := 110) (off := 95) hC ⟨by exact ow_79e_145 c9, by exact ow_79e_146 c9⟩ dX11_of_15 (by exact ow_79e_147 c9) (by exact ow_79e_148 c9) (by rw [c9]; rfl) (by decide) ?_
      replace hT := hT.trans (if_neg (by exact ow_79e_149 c9))
      replace hT := hT.trans (if_neg (by exact ow_79e_150 c9))
      replace hT := hT.trans (if_neg (by exact ow_79e_151 c9))
      replace hT := hT.trans (if_neg (by exact ow_79e_152 c9))
      replace hT := hT.trans (if_neg (by exact ow_79e_153 c9))
      replace hT := hT.trans (if_neg (by exact ow_79e_154 c9))
      replace hT := hT.trans (if_pos c9)
      refine pm_aload_n hC 0 (by decide) dX11_of_110 rfl ?_
      refine pm_getf (v := 4) hC 0 fl_X11_24 rfl rfl (by decide) rfl e1 dX11_of_111 ?_
      refine pm_iload_n hC 1 dX11_of_114 rfl ?_
      refine pm_callV (ci := 7) (as := [(0, a1)]) (st := []) hC 4 (fD_X7_kindOfAnswer_4 a1 ⟨by exact ow_79e_101 b6 c8, by exact ow_79e_155 b6 c8⟩) lm_X11_259 li_X7_kindOfAnswer (by decide) (by decide) rfl rfl rfl (by decide) rfl rfl (Nat.le_of_ble_eq_true rfl) ⟨Nat.le_refl _, Or.inl rfl⟩ dX11_of_115 ⟨rfl, hV0⟩ (fun r31 V32 hp33 => ?_)
      obtain ⟨y34, rfl, b35, rfl, hE36⟩ := hp33
      replace hT := hT.trans (pf_call_eq hE36)
      change pm_J X 118 [(0, (3, 0)), (1, (0, a1)), (2, (0, a2))] [(0, y34)] 118 V0
      exact pm_iret hC hR pm_nar0 ⟨y34, rfl, ⟨by exact ow_79e_156 b35, by exact ow_79e_157 b35⟩, rfl, hT⟩ dX11_of_118
  · skip
    replace hT := hT.trans (if_neg (fun q => q c8))
    refine pm_ldc (v := (-2147483648)) hC 3153 dX11_of_11 (by decide +kernel) ?_
    exact pm_iret hC hR pm_nar0 ⟨(-2147483648), rfl, ⟨by exact ow_79e_93, by exact ow_79e_94⟩, rfl, hT⟩ dX11_of_13
set_option maxHeartbeats 4000000 in
set_option maxRecDepth 100000 in
theorem fD_X11_isPersonOrAll_0 (a1 : Int) (h0 : (-2147483648) ≤ a1 ∧ a1 ≤ 2147483647) : pm_K 2 yX11_isPersonOrAll cX11_isPersonOrAll 2 (some .boolean) (fun av V => av = [(3, 0), (0, a1)] ∧ pm_ok 0 90 V) (fun _ V r V' => ∃ y, r = some (0, y) ∧ (0 ≤ y ∧ y ≤ 1 ∧ (y = 1 → ((-1) ≤ a1 ∧ a1 ≤ 9))) ∧ V = V' ∧ F_X11_isPersonOrAll a1 V = (y, V)) := by
  refine pm_MT.of (by decide) ⟨Nat.le_refl _, by decide⟩ (fun av V h => by rw [h.1]; exact (by decide : pm_words [(3, 0), (0, 0)] ≤ 2)) ?_
  rintro X av V0 hC - hR ⟨rfl, hV0⟩
  change pm_J X 0 [(0, (3, 0)), (1, (0, a1))] [] 118 V0
  have hT := F_X11_isPersonOrAll_eq a1 V0
  refine pm_iload_n hC 1 dX11_isPersonOrAll_0 rfl ?_
  refine pm_iconst (v := (-1)) hC dX11_isPersonOrAll_1 ?_
  refine pm_icmp_eq (tgt := 13) hC ⟨by exact ow_79e_0 h0, by exact ow_79e_1 h0⟩ ⟨by decide, by decide⟩ dX11_isPersonOrAll_2 (by decide) (fun c1 => ?_) (fun c1 => ?_)
  · skip
    replace hT := hT.trans (if_pos c1)
    refine pm_iconst (v := 1) hC dX11_isPersonOrAll_13 ?_
    refine pm_goto (tgt := 18) hC dX11_isPersonOrAll_14 (by decide) ?_
    exact pm_iret hC hR (pm_narZ (by exact ow_79e_70)) ⟨1, rfl, ⟨by exact ow_79e_68, by exact ow_79e_71, by exact ow_79e_158 c1⟩, rfl, hT⟩ dX11_isPersonOrAll_18
  · skip
    replace hT := hT.trans (if_neg c1)
    refine pm_aload_n hC 0 (by decide) dX11_isPersonOrAll_5 rfl ?_
    refine pm_iload_n hC 1 dX11_isPersonOrAll_6 rfl ?_
    refine pm_callV (ci := 11) (as := [(0, a1)]) (st := []) hC 0 (fD_X11_isPerson_0 a1 ⟨by exact ow_79e_0 h0, by exact ow_79e_1 h0⟩) lm_X11_183 li_X11_isPerson (by decide) (by decide) rfl rfl rfl (by decide) rfl rfl (Nat.le_of_ble_eq_true rfl) ⟨Nat.le_refl _, Or.inl rfl⟩ dX11_isPersonOrAll_7 ⟨rfl, hV0⟩ (fun r2 V3 hp4 => ?_)
    obtain ⟨y5, rfl, b6, rfl, hE7⟩ := hp4
    replace hT := hT.trans (pf_call_eq hE7)
    change pm_J X 10 [(0, (3, 0)), (1, (0, a1))] [(0, y5)] 118 V0
    refine pm_if_eq (tgt := 17) hC ⟨by exact ow_79e_159 b6, by exact ow_79e_160 b6⟩ dX11_isPersonOrAll_10 (by decide) (fun c8 => ?_) (fun c8 => ?_)
    · skip
      replace hT := hT.trans (if_pos c8)
      refine pm_iconst (v := 0) hC dX11_isPersonOrAll_17 ?_
      exact pm_iret hC hR (pm_narZ (by exact ow_79e_66)) ⟨0, rfl, ⟨by exact ow_79e_67, by exact ow_79e_68, by exact ow_79e_161⟩, rfl, hT⟩ dX11_isPersonOrAll_18
    · skip
      replace hT := hT.trans (if_neg c8)
      refine pm_iconst (v := 1) hC dX11_isPersonOrAll_13 ?_
      refine pm_goto (tgt := 18) hC dX11_isPersonOrAll_14 (by decide) ?_
      exact pm_iret hC hR (pm_narZ (by exact ow_79e_70)) ⟨1, rfl, ⟨by exact ow_79e_68, by exact ow_79e_71, by exact ow_79e_162 b6 c8⟩, rfl, hT⟩ dX11_isPersonOrAll_18
set_option maxHeartbeats 4000000 in
set_option maxRecDepth 100000 in
theorem fD_X0_add_84 (a1 a2 : Int) (h0 : (-9223372036854775808) ≤ a1 ∧ a1 ≤ 9223372036854775807) (h1 : (-9223372036854775808) ≤ a2 ∧ a2 ≤ 9223372036854775807) : pm_K 1 yX0_add cX0_add 5 none (fun av V => av = [(3, 84), (1, a1), (1, a2)] ∧ pm_ok 0 90 V) (fun _ V r V' => r = none ∧ pm_ok 0 90 V' ∧ pm_ff [85, 86] [(84, 0)] V V' ∧ F_X0_add 84 a1 a2 V = (0, V')) := by
  refine pm_MT.of (by decide) ⟨Nat.le_refl _, by decide⟩ (fun av V h => by rw [h.1]; exact (by decide : pm_words [(3, 0), (1, 0), (1, 0)] ≤ 5)) ?_
  rintro X av V0 hC - hR ⟨rfl, hV0⟩
  change pm_J X 0 [(0, (3, 84)), (1, (1, a1)), (3, (1, a2))] [] 118 V0
  have hT := F_X0_add_eq 84 a1 a2 V0
  refine pm_aload_n hC 0 (by decide) dX0_add_0 rfl ?_
  obtain ⟨y1, e2⟩ : ∃ y, V0 84 0 = y := ⟨_, rfl⟩
  have b3 := hV0.get 84 0 (lo := 0) (hi := 60) (by decide) (by decide) rfl
  rw [e2] at b3
  replace hT := hT.trans (pf_let_eq e2)
  refine pm_getf (v := y1) hC 84 fl_X0_9 rfl rfl (by decide) rfl e2 dX0_add_1 ?_
  refine pm_bipush (v := 60) hC dX0_add_4 (by decide) ?_
  refine pm_icmp_ge (tgt := 39) hC ⟨by exact ow_79e_29 b3, by exact ow_79e_30 b3⟩ ⟨by decide, by decide⟩ dX0_add_6 (by decide) (fun c4 => ?_) (fun c4 => ?_)
  · skip
    replace hT := hT.trans (if_pos c4)
    exact pm_vret hC hR ⟨rfl, hV0, (pm_ff.rf (cs := [85, 86]) (fs := [(84, 0)]) (V := V0)), hT⟩ dX0_add_39
  · skip
    replace hT := hT.trans (if_neg (Int.not_le.mpr c4))
    refine pm_aload_n hC 0 (by decide) dX0_add_9 rfl ?_
    have e5 : V0 84 1 = 85 := hV0.one 84 1 (by decide) (by decide) rfl
    refine pm_getf (v := 85) hC 84 fl_X0_15 rfl rfl (by decide) rfl e5 dX0_add_10 ?_
    refine pm_aload_n hC 0 (by decide) dX0_add_13 rfl ?_
    refine pm_getf (v := y1) hC 84 fl_X0_9 rfl rfl (by decide) rfl e2 dX0_add_14 ?_
    refine pm_lload_n hC 1 dX0_add_17 rfl ?_
    refine pm_lastore (len := 60) hC 85 rfl rfl (by decide) ⟨by exact ow_79e_32 b3, by exact ow_79e_33 c4⟩ (by decide) dX0_add_18 ?_
    refine pm_aload_n hC 0 (by decide) dX0_add_19 rfl ?_
    have e6 : V0 84 2 = 86 := hV0.one 84 2 (by decide) (by decide) rfl
    refine pm_getf (v := 86) hC 84 fl_X0_19 rfl rfl (by decide) rfl e6 dX0_add_20 ?_
    refine pm_aload_n hC 0 (by decide) dX0_add_23 rfl ?_
    refine pm_getf (v := y1) hC 84 fl_X0_9 rfl rfl (by decide) rfl e2 dX0_add_24 ?_
    refine pm_lload_n hC 2 dX0_add_27 rfl ?_
    refine pm_lastore (len := 60) hC 86 rfl rfl (by decide) ⟨by exact ow_79e_32 b3, by exact ow_79e_33 c4⟩ (by decide) dX0_add_28 ?_
    refine pm_aload_n hC 0 (by decide) dX0_add_29 rfl ?_
    refine pm_dup hC rfl dX0_add_30 ?_
    refine pm_getf (v := y1) hC 84 fl_X0_9 rfl rfl (by decide) rfl e2 dX0_add_31 ?_
    refine pm_iconst (v := 1) hC dX0_add_34 ?_
    refine pm_iadd hC dX0_add_35 ?_
    refine pm_putf hC 84 fl_X0_9 rfl rfl rfl (by decide) rfl trivial dX0_add_36 ?_
    exact pm_vret hC hR ⟨rfl, (((hV0.put 85 (y1 : Int).toNat (x := a1) (lo := (-9223372036854775808)) (hi := 9223372036854775807) rfl ⟨by exact ow_79e_14 h0, by exact ow_79e_15 h0⟩).put 86 (y1 : Int).toNat (x := a2) (lo := (-9223372036854775808)) (hi := 9223372036854775807) rfl ⟨by exact ow_79e_14 h1, by exact ow_79e_15 h1⟩).put 84 0 (x := (y1 + 1)) (lo := 0) (hi := 60) rfl ⟨by exact ow_79e_43 b3, by exact ow_79e_44 c4⟩), ((((pm_ff.rf (cs := [85, 86]) (fs := [(84, 0)]) (V := V0)).upa 85 (y1 : Int).toNat a1 rfl).upa 86 (y1 : Int).toNat a2 rfl).upf 84 0 (y1 + 1) rfl), hT⟩ dX0_add_39
set_option maxHeartbeats 4000000 in
set_option maxRecDepth 100000 in
theorem fD_X11_gather_0_84 (a1 a2 : Int) (h0 : (-2147483648) ≤ a1 ∧ a1 ≤ 2147483647) (h1 : (-2147483648) ≤ a2 ∧ a2 ≤ 2147483647) : pm_K 5 yX11_gather cX11_gather 5 none (fun av V => av = [(3, 0), (3, 84), (0, a1), (0, a2)] ∧ pm_ok 0 90 V) (fun _ V r V' => r = none ∧ pm_ok 0 90 V' ∧ pm_ff [74, 75, 76, 77, 85, 86] [(73, 0), (73, 1), (73, 2), (73, 3), (73, 4), (73, 5), (73, 6), (73, 7), (73, 10), (73, 11), (73, 12), (73, 14), (84, 0)] V V' ∧ F_X11_gather 84 a1 a2 V = (0, V')) := by
  refine pm_MT.of (by decide) ⟨Nat.le_refl _, by decide⟩ (fun av V h => by rw [h.1]; exact (by decide : pm_words [(3, 0), (3, 0), (0, 0), (0, 0)] ≤ 5)) ?_
  rintro X av V0 hC - hR ⟨rfl, hV0⟩
  change pm_J X 0 [(0, (3, 0)), (1, (3, 84)), (2, (0, a1)), (3, (0, a2))] [] 118 V0
  have hT := F_X11_gather_eq 84 a1 a2 V0
  refine pm_aload_n hC 1 (by decide) dX11_gather_0 rfl ?_
  refine pm_iconst (v := 0) hC dX11_gather_1 ?_
  refine pm_putf hC 84 fl_X11_371 rfl rfl rfl (by decide) rfl trivial dX11_gather_2 ?_
  refine pm_iconst (v := 0) hC dX11_gather_5 ?_
  refine pm_istore (lv' := [(4, (0, 0)), (0, (3, 0)), (1, (3, 84)), (2, (0, a1)), (3, (0, a2))]) hC dX11_gather_6 (by decide) rfl ?_
  have hV3 := (hV0.put 84 0 (x := 0) (lo := 0) (hi := 60) rfl ⟨by decide, by decide⟩)
  have hF4 := ((pm_ff.rf (cs := [74, 75, 76, 77, 85, 86]) (fs := [(73, 0), (73, 1), (73, 2), (73, 3), (73, 4), (73, 5), (73, 6), (73, 7), (73, 10), (73, 11), (73, 12), (73, 14), (84, 0)]) (V := V0)).upf 84 0 0 rfl)
  obtain ⟨V1, hv2⟩ : ∃ V, V = (pm_up V0 84 0 0) := ⟨_, rfl⟩
  rw [← hv2] at hV3 hF4
  rw [← hv2]
  replace hT := hT.trans (pf_let_eq hv2.symm)
  have e5 : V1 84 0 = 0 := by rw [hv2]; rfl
  obtain ⟨B11, hB12, hT⟩ := pf_loop hT
  have L14 : ∀ (N16 : Nat) (x6 : Int) (V8 : pm_M), (0 ≤ x6 ∧ x6 ≤ 60) → pm_ok 0 90 V8 → pm_ff [74, 75, 76, 77, 85, 86] [(73, 0), (73, 1), (73, 2), (73, 3), (73, 4), (73, 5), (73, 6), (73, 7), (73, 10), (73, 11), (73, 12), (73, 14), (84, 0)] V0 V8 → F_X11_gather 84 a1 a2 V0 = pf_val ((0 : Int), V0) B11 (x6, V8) → (Int.toNat (60 - x6)) = N16 → pm_J X 8 [(0, (3, 0)), (1, (3, 84)), (2, (0, a1)), (3, (0, a2)), (4, (0, x6))] [] 118 V8 := by
    intro N16
    induction N16 using Nat.strongRecOn with
    | _ N16 ih17 =>
    intro x6 V8 b7 hV9 hF10 hT hm15
    have hb13 := congrFun hB12 (x6, V8)
    refine pm_iload hC 4 dX11_gather_8 rfl ?_
    refine pm_aload_n hC 0 (by decide) dX11_gather_10 rfl ?_
    have e18 : V8 0 3 = 4 := hV9.one 0 3 (by decide) (by decide) rfl
    refine pm_getf (v := 4) hC 0 fl_X11_24 rfl rfl (by decide) rfl e18 dX11_gather_11 ?_
    obtain ⟨y19, e20⟩ : ∃ y, V8 4 6 = y := ⟨_, rfl⟩
    have b21 := hV9.get 4 6 (lo := 0) (hi := 60) (by decide) (by decide) rfl
    rw [e20] at b21
    replace hb13 := hb13.trans (pf_let_eq e20)
    refine pm_getf (v := y19) hC 4 fl_X11_162 rfl rfl (by decide) rfl e20 dX11_gather_14 ?_
    refine pm_icmp_ge (tgt := 119) hC ⟨by exact ow_79e_29 b7, by exact ow_79e_30 b7⟩ ⟨by exact ow_79e_29 b21, by exact ow_79e_30 b21⟩ dX11_gather_17 (by decide) (fun c22 => ?_) (fun c22 => ?_)
    · skip
      replace hb13 := hb13.trans (if_pos c22)
      replace hT := hT.trans (pf_val_inr hb13)
      exact pm_vret hC hR ⟨rfl, hV9, hF10, hT⟩ dX11_gather_119
    · skip
      replace hb13 := hb13.trans (if_neg (Int.not_le.mpr c22))
      refine pm_iload_n hC 3 dX11_gather_20 rfl ?_
      refine pm_iconst (v := (-1)) hC dX11_gather_21 ?_
      refine pm_icmp_eq (tgt := 42) hC ⟨by exact ow_79e_0 h1, by exact ow_79e_1 h1⟩ ⟨by decide, by decide⟩ dX11_gather_22 (by decide) (fun c23 => ?_) (fun c23 => ?_)
      · skip
        replace hb13 := hb13.trans (if_pos c23)
        refine pm_aload_n hC 0 (by decide) dX11_gather_42 rfl ?_
        refine pm_aload_n hC 0 (by decide) dX11_gather_43 rfl ?_
        refine pm_getf (v := 4) hC 0 fl_X11_24 rfl rfl (by decide) rfl e18 dX11_gather_44 ?_
        have e24 : V8 4 7 = 9 := hV9.one 4 7 (by decide) (by decide) rfl
        refine pm_getf (v := 9) hC 4 fl_X11_243 rfl rfl (by decide) rfl e24 dX11_gather_47 ?_
        refine pm_iload hC 4 dX11_gather_50 rfl ?_
        obtain ⟨y25, e26⟩ : ∃ y, V8 9 (x6 : Int).toNat = y := ⟨_, rfl⟩
        replace hb13 := hb13.trans (pf_let_eq e26)
        have b27 := hV9.get1 9 (x6 : Int).toNat (lo := 0) (hi := 999) (by decide) (show _ < 60 by exact ow_79e_163 b21 c22) rfl
        rw [e26] at b27
        refine pm_iaload (len := 60) (v := y25) hC 9 rfl rfl (by decide) ⟨by exact ow_79e_32 b7, by exact ow_79e_164 b21 c22⟩ (by decide) e26 dX11_gather_52 ?_
        refine pm_aload_n hC 0 (by decide) dX11_gather_53 rfl ?_
        refine pm_getf (v := 4) hC 0 fl_X11_24 rfl rfl (by decide) rfl e18 dX11_gather_54 ?_
        have e28 : V8 4 8 = 10 := hV9.one 4 8 (by decide) (by decide) rfl
        refine pm_getf (v := 10) hC 4 fl_X11_246 rfl rfl (by decide) rfl e28 dX11_gather_57 ?_
        refine pm_iload hC 4 dX11_gather_60 rfl ?_
        obtain ⟨y29, e30⟩ : ∃ y, V8 10 (x6 : Int).toNat = y := ⟨_, rfl⟩
        replace hb13 := hb13.trans (pf_let_eq e30)
        have b31 := hV9.get 10 (x6 : Int).toNat (lo := 0) (hi := 99) (by decide) (show _ < 60 by exact ow_79e_163 b21 c22) rfl
        rw [e30] at b31
        refine pm_iaload (len := 60) (v := y29) hC 10 rfl rfl (by decide) ⟨by exact ow_79e_32 b7, by exact ow_79e_164 b21 c22⟩ (by decide) e30 dX11_gather_62 ?_
        refine pm_aload_n hC 0 (by decide) dX11_gather_63 rfl ?_
        refine pm_getf (v := 4) hC 0 fl_X11_24 rfl rfl (by decide) rfl e18 dX11_gather_64 ?_
        have e32 : V8 4 9 = 11 := hV9.one 4 9 (by decide) (by decide) rfl
        refine pm_getf (v := 11) hC 4 fl_X11_249 rfl rfl (by decide) rfl e32 dX11_gather_67 ?_
        refine pm_iload hC 4 dX11_gather_70 rfl ?_
        obtain ⟨y33, e34⟩ : ∃ y, V8 11 (x6 : Int).toNat = y := ⟨_, rfl⟩
        replace hb13 := hb13.trans (pf_let_eq e34)
        have b35 := hV9.get 11 (x6 : Int).toNat (lo := (-99)) (hi := 99) (by decide) (show _ < 60 by exact ow_79e_163 b21 c22) rfl
        rw [e34] at b35
        refine pm_iaload (len := 60) (v := y33) hC 11 rfl rfl (by decide) ⟨by exact ow_79e_32 b7, by exact ow_79e_164 b21 c22⟩ (by decide) e34 dX11_gather_72 ?_
        refine pm_callV (ci := 11) (as := [(0, y25), (0, y29), (0, y33)]) (st := []) hC 0 (fD_X11_pose_0 y25 y29 y33 ⟨by exact ow_79e_76 b27, by exact ow_79e_103 b27⟩ ⟨by exact ow_79e_36 b31, by exact ow_79e_37 b31⟩ ⟨by exact ow_79e_38 b35, by exact ow_79e_39 b35⟩ (by exact ow_79e_165 b27)) lm_X11_229 li_X11_pose (by decide) (by decide) rfl rfl rfl (by decide) rfl rfl (Nat.le_of_ble_eq_true rfl) ⟨Nat.le_refl _, Or.inl rfl⟩ dX11_gather_73 ⟨rfl, hV9⟩ (fun r36 V37 hp38 => ?_)
        obtain ⟨rfl, hV39, hF40, hE41⟩ := hp38
        replace hb13 := hb13.trans (pf_call_eq hE41)
        change pm_J X 76 [(0, (3, 0)), (1, (3, 84)), (2, (0, a1)), (3, (0, a2)), (4, (0, x6))] [] 118 V37
        have hF42 := pm_ff.tr hF10 hF40 (by decide) (by decide)
        have e43 : V37 0 3 = 4 := by rw [hF40 0 3 (by decide) (by decide)]; exact e18
        have e44 : V37 4 6 = y19 := by rw [hF40 4 6 (by decide) (by decide)]; exact e20
        have e45 : V37 4 7 = 9 := by rw [hF40 4 7 (by decide) (by decide)]; exact e24
        have e46 : V37 4 8 = 10 := by rw [hF40 4 8 (by decide) (by decide)]; exact e28
        have e47 : V37 4 9 = 11 := by rw [hF40 4 9 (by decide) (by decide)]; exact e32
        refine pm_aload_n hC 0 (by decide) dX11_gather_76 rfl ?_
        have e48 : V37 0 5 = 73 := hV39.one 0 5 (by decide) (by decide) rfl
        refine pm_getf (v := 73) hC 0 fl_X11_75 rfl rfl (by decide) rfl e48 dX11_gather_77 ?_
        refine pm_iload_n hC 2 dX11_gather_80 rfl ?_
        refine pm_callV (ci := 10) (as := [(0, a1)]) (st := []) hC 73 (fD_X10_weigh_73 a1 ⟨by exact ow_79e_0 h0, by exact ow_79e_1 h0⟩) lm_X11_294 li_X10_weigh (by decide) (by decide) rfl rfl rfl (by decide) rfl rfl (Nat.le_of_ble_eq_true rfl) ⟨Nat.le_refl _, Or.inl rfl⟩ dX11_gather_81 ⟨rfl, hV39⟩ (fun r49 V50 hp51 => ?_)
        obtain ⟨rfl, hV52, hF53, hE54⟩ := hp51
        replace hb13 := hb13.trans (pf_call_eq hE54)
        change pm_J X 84 [(0, (3, 0)), (1, (3, 84)), (2, (0, a1)), (3, (0, a2)), (4, (0, x6))] [] 118 V50
        have hF55 := pm_ff.tr hF42 hF53 (by decide) (by decide)
        have e56 : V50 0 3 = 4 := by rw [hF53 0 3 (by decide) (by decide)]; exact e43
        have e57 : V50 4 6 = y19 := by rw [hF53 4 6 (by decide) (by decide)]; exact e44
        have e58 : V50 4 7 = 9 := by rw [hF53 4 7 (by decide) (by decide)]; exact e45
        have e59 : V50 4 8 = 10 := by rw [hF53 4 8 (by decide) (by decide)]; exact e46
        have e60 : V50 4 9 = 11 := by rw [hF53 4 9 (by decide) (by decide)]; exact e47
        have e61 : V50 0 5 = 73 := by rw [hF53 0 5 (by decide) (by decide)]; exact e48
        refine pm_aload_n hC 1 (by decide) dX11_gather_84 rfl ?_
        refine pm_aload_n hC 0 (by decide) dX11_gather_85 rfl ?_
        refine pm_getf (v := 73) hC 0 fl_X11_75 rfl rfl (by decide) rfl e61 dX11_gather_86 ?_
        rcases hV52.get2 73 13 (lo := 76) (hi := 77) (by decide) (by decide) rfl with e62 | e62
        · skip
          replace hb13 := hb13.trans (if_pos e62)
          refine pm_getf (v := 76) hC 73 fl_X11_208 rfl rfl (by decide) rfl e62 dX11_gather_89 ?_
          refine pm_aload_n hC 0 (by decide) dX11_gather_92 rfl ?_
          refine pm_getf (v := 4) hC 0 fl_X11_24 rfl rfl (by decide) rfl e56 dX11_gather_93 ?_
          have e63 : V50 4 10 = 12 := hV52.one 4 10 (by decide) (by decide) rfl
          refine pm_getf (v := 12) hC 4 fl_X11_252 rfl rfl (by decide) rfl e63 dX11_gather_96 ?_
          refine pm_iload hC 4 dX11_gather_99 rfl ?_
          obtain ⟨y64, e65⟩ : ∃ y, V50 12 (x6 : Int).toNat = y := ⟨_, rfl⟩
          replace hb13 := hb13.trans (pf_let_eq e65)
          have b66 := hV52.get 12 (x6 : Int).toNat (lo := 0) (hi := 8) (by decide) (show _ < 60 by exact ow_79e_163 b21 c22) rfl
          rw [e65] at b66
          refine pm_iaload (len := 60) (v := y64) hC 12 rfl rfl (by decide) ⟨by exact ow_79e_32 b7, by exact ow_79e_164 b21 c22⟩ (by decide) e65 dX11_gather_101 ?_
          obtain ⟨y67, e68⟩ : ∃ y, V50 76 (y64 : Int).toNat = y := ⟨_, rfl⟩
          replace hb13 := hb13.trans (pf_let_eq e68)
          have b69 := hV52.get 76 (y64 : Int).toNat (lo := (-9223372036854775808)) (hi := 9223372036854775807) (by decide) (show _ < 9 by exact ow_79e_166 b66) rfl
          rw [e68] at b69
          refine pm_laload (len := 9) (v := y67) hC 76 rfl rfl (by decide) ⟨by exact ow_79e_40 b66, by exact ow_79e_167 b66⟩ (by decide) e68 dX11_gather_102 ?_
          refine pm_aload_n hC 0 (by decide) dX11_gather_103 rfl ?_
          refine pm_getf (v := 73) hC 0 fl_X11_75 rfl rfl (by decide) rfl e61 dX11_gather_104 ?_
          obtain ⟨y70, e71⟩ : ∃ y, V50 73 14 = y := ⟨_, rfl⟩
          have b72 := hV52.get 73 14 (lo := (-9223372036854775808)) (hi := 9223372036854775807) (by decide) (by decide) rfl
          rw [e71] at b72
          replace hb13 := hb13.trans (pf_let_eq e71)
          refine pm_getf (v := y70) hC 73 fl_X11_205 rfl rfl (by decide) rfl e71 dX11_gather_107 ?_
          refine pm_callV (ci := 0) (as := [(1, y67), (1, y70)]) (st := []) hC 84 (fD_X0_add_84 y67 y70 ⟨by exact ow_79e_14 b69, by exact ow_79e_15 b69⟩ ⟨by exact ow_79e_14 b72, by exact ow_79e_15 b72⟩) lm_X11_374 li_X0_add (by decide) (by decide) rfl rfl rfl (by decide) rfl rfl (Nat.le_of_ble_eq_true rfl) ⟨Nat.le_refl _, Or.inl rfl⟩ dX11_gather_110 ⟨rfl, hV52⟩ (fun r73 V74 hp75 => ?_)
          obtain ⟨rfl, hV76, hF77, hE78⟩ := hp75
          replace hb13 := hb13.trans (pf_call_eq hE78)
          change pm_J X 113 [(0, (3, 0)), (1, (3, 84)), (2, (0, a1)), (3, (0, a2)), (4, (0, x6))] [] 118 V74
          have hF79 := pm_ff.tr hF55 hF77 (by decide) (by decide)
          have e80 : V74 0 3 = 4 := by rw [hF77 0 3 (by decide) (by decide)]; exact e56
          have e81 : V74 4 6 = y19 := by rw [hF77 4 6 (by decide) (by decide)]; exact e57
          have e82 : V74 4 7 = 9 := by rw [hF77 4 7 (by decide) (by decide)]; exact e58
          have e83 : V74 4 8 = 10 := by rw [hF77 4 8 (by decide) (by decide)]; exact e59
          have e84 : V74 4 9 = 11 := by rw [hF77 4 9 (by decide) (by decide)]; exact e60
          have e85 : V74 0 5 = 73 := by rw [hF77 0 5 (by decide) (by decide)]; exact e61
          have e86 : V74 73 13 = 76 := by rw [hF77 73 13 (by decide) (by decide)]; exact e62
          have e87 : V74 4 10 = 12 := by rw [hF77 4 10 (by decide) (by decide)]; exact e63
          have e88 : V74 73 14 = y70 := by rw [hF77 73 14 (by decide) (by decide)]; exact e71
          obtain ⟨x89, ei90⟩ : ∃ y : Int, x6 + 1 = y := ⟨_, rfl⟩
          replace hb13 := hb13.trans (pf_let_eq ei90)
          refine pm_iinc (y := x89) (lv' := [(4, (0, x89)), (0, (3, 0)), (1, (3, 84)), (2, (0, a1)), (3, (0, a2))]) hC 4 dX11_gather_113 (by decide) rfl ei90 rfl ?_
          refine pm_goto (tgt := 8) hC dX11_gather_116 (by decide) ?_
          refine pm_lvsub [1, 2, 3, 4, 0] (lv' := [(0, (3, 0)), (1, (3, 84)), (2, (0, a1)), (3, (0, a2)), (4, (0, x89))]) rfl ?_
          exact ih17 _ (by exact ow_79e_168 hm15 b21 c22 ei90) x89 V74 ⟨by exact ow_79e_169 b7 ei90, by exact ow_79e_170 b21 c22 ei90⟩ hV76 hF79 (hT.trans (pf_val_inl hb13)) rfl
        · skip
          replace hb13 := hb13.trans (if_neg (by rw [e62]; decide))
          refine pm_getf (v := 77) hC 73 fl_X11_208 rfl rfl (by decide) rfl e62 dX11_gather_89 ?_
          refine pm_aload_n hC 0 (by decide) dX11_gather_92 rfl ?_
          refine pm_getf (v := 4) hC 0 fl_X11_24 rfl rfl (by decide) rfl e56 dX11_gather_93 ?_
          have e91 : V50 4 10 = 12 := hV52.one 4 10 (by decide) (by decide) rfl
          refine pm_getf (v := 12) hC 4 fl_X11_252 rfl rfl (by decide) rfl e91 dX11_gather_96 ?_
          refine pm_iload hC 4 dX11_gather_99 rfl ?_
          obtain ⟨y92, e93⟩ : ∃ y, V50 12 (x6 : Int).toNat = y := ⟨_, rfl⟩
          replace hb13 := hb13.trans (pf_let_eq e93)
          have b94 := hV52.get 12 (x6 : Int).toNat (lo := 0) (hi := 8) (by decide) (show _ < 60 by exact ow_79e_163 b21 c22) rfl
          rw [e93] at b94
          refine pm_iaload (len := 60) (v := y92) hC 12 rfl rfl (by decide) ⟨by exact ow_79e_32 b7, by exact ow_79e_164 b21 c22⟩ (by decide) e93 dX11_gather_101 ?_
          obtain ⟨y95, e96⟩ : ∃ y, V50 77 (y92 : Int).toNat = y := ⟨_, rfl⟩
          replace hb13 := hb13.trans (pf_let_eq e96)
          have b97 := hV52.get 77 (y92 : Int).toNat (lo := (-9223372036854775808)) (hi := 9223372036854775807) (by decide) (show _ < 9 by exact ow_79e_166 b94) rfl
          rw [e96] at b97
          refine pm_laload (len := 9) (v := y95) hC 77 rfl rfl (by decide) ⟨by exact ow_79e_40 b94, by exact ow_79e_167 b94⟩ (by decide) e96 dX11_gather_102 ?_
          refine pm_aload_n hC 0 (by decide) dX11_gather_103 rfl ?_
          refine pm_getf (v := 73) hC 0 fl_X11_75 rfl rfl (by decide) rfl e61 dX11_gather_104 ?_
          obtain ⟨y98, e99⟩ : ∃ y, V50 73 14 = y := ⟨_, rfl⟩
          have b100 := hV52.get 73 14 (lo := (-9223372036854775808)) (hi := 9223372036854775807) (by decide) (by decide) rfl
          rw [e99] at b100
          replace hb13 := hb13.trans (pf_let_eq e99)
          refine pm_getf (v := y98) hC 73 fl_X11_205 rfl rfl (by decide) rfl e99 dX11_gather_107 ?_
          refine pm_callV (ci := 0) (as := [(1, y95), (1, y98)]) (st := []) hC 84 (fD_X0_add_84 y95 y98 ⟨by exact ow_79e_14 b97, by exact ow_79e_15 b97⟩ ⟨by exact ow_79e_14 b100, by exact ow_79e_15 b100⟩) lm_X11_374 li_X0_add (by decide) (by decide) rfl rfl rfl (by decide) rfl rfl (Nat.le_of_ble_eq_true rfl) ⟨Nat.le_refl _, Or.inl rfl⟩ dX11_gather_110 ⟨rfl, hV52⟩ (fun r101 V102 hp103 => ?_)
          obtain ⟨rfl, hV104, hF105, hE106⟩ := hp103
          replace hb13 := hb13.trans (pf_call_eq hE106)
          change pm_J X 113 [(0, (3, 0)), (1, (3, 84)), (2, (0, a1)), (3, (0, a2)), (4, (0, x6))] [] 118 V102
          have hF107 := pm_ff.tr hF55 hF105 (by decide) (by decide)
          have e108 : V102 0 3 = 4 := by rw [hF105 0 3 (by decide) (by decide)]; exact e56
          have e109 : V102 4 6 = y19 := by rw [hF105 4 6 (by decide) (by decide)]; exact e57
          have e110 : V102 4 7 = 9 := by rw [hF105 4 7 (by decide) (by decide)]; exact e58
          have e111 : V102 4 8 = 10 := by rw [hF105 4 8 (by decide) (by decide)]; exact e59
          have e112 : V102 4 9 = 11 := by rw [hF105 4 9 (by decide) (by decide)]; exact e60
          have e113 : V102 0 5 = 73 := by rw [hF105 0 5 (by decide) (by decide)]; exact e61
          have e114 : V102 73 13 = 77 := by rw [hF105 73 13 (by decide) (by decide)]; exact e62
          have e115 : V102 4 10 = 12 := by rw [hF105 4 10 (by decide) (by decide)]; exact e91
          have e116 : V102 73 14 = y98 := by rw [hF105 73 14 (by decide) (by decide)]; exact e99
          obtain ⟨x117, ei118⟩ : ∃ y : Int, x6 + 1 = y := ⟨_, rfl⟩
          replace hb13 := hb13.trans (pf_let_eq ei118)
          refine pm_iinc (y := x117) (lv' := [(4, (0, x117)), (0, (3, 0)), (1, (3, 84)), (2, (0, a1)), (3, (0, a2))]) hC 4 dX11_gather_113 (by decide) rfl ei118 rfl ?_
          refine pm_goto (tgt := 8) hC dX11_gather_116 (by decide) ?_
          refine pm_lvsub [1, 2, 3, 4, 0] (lv' := [(0, (3, 0)), (1, (3, 84)), (2, (0, a1)), (3, (0, a2)), (4, (0, x117))]) rfl ?_
          exact ih17 _ (by exact ow_79e_168 hm15 b21 c22 ei118) x117 V102 ⟨by exact ow_79e_169 b7 ei118, by exact ow_79e_170 b21 c22 ei118⟩ hV104 hF107 (hT.trans (pf_val_inl hb13)) rfl
      · skip
        replace hb13 := hb13.trans (if_neg c23)
        refine pm_aload_n hC 0 (by decide) dX11_gather_25 rfl ?_
        refine pm_getf (v := 4) hC 0 fl_X11_24 rfl rfl (by decide) rfl e18 dX11_gather_26 ?_
        have e119 : V8 4 7 = 9 := hV9.one 4 7 (by decide) (by decide) rfl
        refine pm_getf (v := 9) hC 4 fl_X11_243 rfl rfl (by decide) rfl e119 dX11_gather_29 ?_
        refine pm_iload hC 4 dX11_gather_32 rfl ?_
        obtain ⟨y120, e121⟩ : ∃ y, V8 9 (x6 : Int).toNat = y := ⟨_, rfl⟩
        replace hb13 := hb13.trans (pf_let_eq e121)
        have b122 := hV9.get1 9 (x6 : Int).toNat (lo := 0) (hi := 999) (by decide) (show _ < 60 by exact ow_79e_163 b21 c22) rfl
        rw [e121] at b122
        refine pm_iaload (len := 60) (v := y120) hC 9 rfl rfl (by decide) ⟨by exact ow_79e_32 b7, by exact ow_79e_164 b21 c22⟩ (by decide) e121 dX11_gather_34 ?_
        refine pm_bipush (v := 100) hC dX11_gather_35 (by decide) ?_
        refine pm_idiv hC ⟨by exact ow_79e_76 b122, by exact ow_79e_77 b122, by exact ow_79e_78 b122⟩ ⟨by decide, by decide, by decide⟩ dX11_gather_37 ?_
        refine pm_iload_n hC 3 dX11_gather_38 rfl ?_
        refine pm_icmp_ne (tgt := 113) hC ⟨by exact ow_79e_171 b122, by exact ow_79e_172 b122⟩ ⟨by exact ow_79e_0 h1, by exact ow_79e_1 h1⟩ dX11_gather_39 (by decide) (fun c123 => ?_) (fun c123 => ?_)
        · skip
          replace hb13 := hb13.trans (if_pos c123)
          obtain ⟨x124, ei125⟩ : ∃ y : Int, x6 + 1 = y := ⟨_, rfl⟩
          replace hb13 := hb13.trans (pf_let_eq ei125)
          refine pm_iinc (y := x124) (lv' := [(4, (0, x124)), (0, (3, 0)), (1, (3, 84)), (2, (0, a1)), (3, (0, a2))]) hC 4 dX11_gather_113 (by decide) rfl ei125 rfl ?_
          refine pm_goto (tgt := 8) hC dX11_gather_116 (by decide) ?_
          refine pm_lvsub [1, 2, 3, 4, 0] (lv' := [(0, (3, 0)), (1, (3, 84)), (2, (0, a1)), (3, (0, a2)), (4, (0, x124))]) rfl ?_
          exact ih17 _ (by exact ow_79e_168 hm15 b21 c22 ei125) x124 V8 ⟨by exact ow_79e_169 b7 ei125, by exact ow_79e_170 b21 c22 ei125⟩ hV9 hF10 (hT.trans (pf_val_inl hb13)) rfl
        · skip
          replace hb13 := hb13.trans (if_neg (fun q => q c123))
          refine pm_aload_n hC 0 (by decide) dX11_gather_42 rfl ?_
          refine pm_aload_n hC 0 (by decide) dX11_gather_43 rfl ?_
          refine pm_getf (v := 4) hC 0 fl_X11_24 rfl rfl (by decide) rfl e18 dX11_gather_44 ?_
          refine pm_getf (v := 9) hC 4 fl_X11_243 rfl rfl (by decide) rfl e119 dX11_gather_47 ?_
          refine pm_iload hC 4 dX11_gather_50 rfl ?_
          refine pm_iaload (len := 60) (v := y120) hC 9 rfl rfl (by decide) ⟨by exact ow_79e_32 b7, by exact ow_79e_164 b21 c22⟩ (by decide) e121 dX11_gather_52 ?_
          refine pm_aload_n hC 0 (by decide) dX11_gather_53 rfl ?_
          refine pm_getf (v := 4) hC 0 fl_X11_24 rfl rfl (by decide) rfl e18 dX11_gather_54 ?_
          have e126 : V8 4 8 = 10 := hV9.one 4 8 (by decide) (by decide) rfl
          refine pm_getf (v := 10) hC 4 fl_X11_246 rfl rfl (by decide) rfl e126 dX11_gather_57 ?_
          refine pm_iload hC 4 dX11_gather_60 rfl ?_
          obtain ⟨y127, e128⟩ : ∃ y, V8 10 (x6 : Int).toNat = y := ⟨_, rfl⟩
          replace hb13 := hb13.trans (pf_let_eq e128)
          have b129 := hV9.get 10 (x6 : Int).toNat (lo := 0) (hi := 99) (by decide) (show _ < 60 by exact ow_79e_163 b21 c22) rfl
          rw [e128] at b129
          refine pm_iaload (len := 60) (v := y127) hC 10 rfl rfl (by decide) ⟨by exact ow_79e_32 b7, by exact ow_79e_164 b21 c22⟩ (by decide) e128 dX11_gather_62 ?_
          refine pm_aload_n hC 0 (by decide) dX11_gather_63 rfl ?_
          refine pm_getf (v := 4) hC 0 fl_X11_24 rfl rfl (by decide) rfl e18 dX11_gather_64 ?_
          have e130 : V8 4 9 = 11 := hV9.one 4 9 (by decide) (by decide) rfl
          refine pm_getf (v := 11) hC 4 fl_X11_249 rfl rfl (by decide) rfl e130 dX11_gather_67 ?_
          refine pm_iload hC 4 dX11_gather_70 rfl ?_
          obtain ⟨y131, e132⟩ : ∃ y, V8 11 (x6 : Int).toNat = y := ⟨_, rfl⟩
          replace hb13 := hb13.trans (pf_let_eq e132)
          have b133 := hV9.get 11 (x6 : Int).toNat (lo := (-99)) (hi := 99) (by decide) (show _ < 60 by exact ow_79e_163 b21 c22) rfl
          rw [e132] at b133
          refine pm_iaload (len := 60) (v := y131) hC 11 rfl rfl (by decide) ⟨by exact ow_79e_32 b7, by exact ow_79e_164 b21 c22⟩ (by decide) e132 dX11_gather_72 ?_
          refine pm_callV (ci := 11) (as := [(0, y120), (0, y127), (0, y131)]) (st := []) hC 0 (fD_X11_pose_0 y120 y127 y131 ⟨by exact ow_79e_76 b122, by exact ow_79e_103 b122⟩ ⟨by exact ow_79e_36 b129, by exact ow_79e_37 b129⟩ ⟨by exact ow_79e_38 b133, by exact ow_79e_39 b133⟩ (by exact ow_79e_165 b122)) lm_X11_229 li_X11_pose (by decide) (by decide) rfl rfl rfl (by decide) rfl rfl (Nat.le_of_ble_eq_true rfl) ⟨Nat.le_refl _, Or.inl rfl⟩ dX11_gather_73 ⟨rfl, hV9⟩ (fun r134 V135 hp136 => ?_)
          obtain ⟨rfl, hV137, hF138, hE139⟩ := hp136
          replace hb13 := hb13.trans (pf_call_eq hE139)
          change pm_J X 76 [(0, (3, 0)), (1, (3, 84)), (2, (0, a1)), (3, (0, a2)), (4, (0, x6))] [] 118 V135
          have hF140 := pm_ff.tr hF10 hF138 (by decide) (by decide)
          have e141 : V135 0 3 = 4 := by rw [hF138 0 3 (by decide) (by decide)]; exact e18
          have e142 : V135 4 6 = y19 := by rw [hF138 4 6 (by decide) (by decide)]; exact e20
          have e143 : V135 4 7 = 9 := by rw [hF138 4 7 (by decide) (by decide)]; exact e119
          have e144 : V135 4 8 = 10 := by rw [hF138 4 8 (by decide) (by decide)]; exact e126
          have e145 : V135 4 9 = 11 := by rw [hF138 4 9 (by decide) (by decide)]; exact e130
          refine pm_aload_n hC 0 (by decide) dX11_gather_76 rfl ?_
          have e146 : V135 0 5 = 73 := hV137.one 0 5 (by decide) (by decide) rfl
          refine pm_getf (v := 73) hC 0 fl_X11_75 rfl rfl (by decide) rfl e146 dX11_gather_77 ?_
          refine pm_iload_n hC 2 dX11_gather_80 rfl ?_
          refine pm_callV (ci := 10) (as := [(0, a1)]) (st := []) hC 73 (fD_X10_weigh_73 a1 ⟨by exact ow_79e_0 h0, by exact ow_79e_1 h0⟩) lm_X11_294 li_X10_weigh (by decide) (by decide) rfl rfl rfl (by decide) rfl rfl (Nat.le_of_ble_eq_true rfl) ⟨Nat.le_refl _, Or.inl rfl⟩ dX11_gather_81 ⟨rfl, hV137⟩ (fun r147 V148 hp149 => ?_)
          obtain ⟨rfl, hV150, hF151, hE152⟩ := hp149
          replace hb13 := hb13.trans (pf_call_eq hE152)
          change pm_J X 84 [(0, (3, 0)), (1, (3, 84)), (2, (0, a1)), (3, (0, a2)), (4, (0, x6))] [] 118 V148
          have hF153 := pm_ff.tr hF140 hF151 (by decide) (by decide)
          have e154 : V148 0 3 = 4 := by rw [hF151 0 3 (by decide) (by decide)]; exact e141
          have e155 : V148 4 6 = y19 := by rw [hF151 4 6 (by decide) (by decide)]; exact e142
          have e156 : V148 4 7 = 9 := by rw [hF151 4 7 (by decide) (by decide)]; exact e143
          have e157 : V148 4 8 = 10 := by rw [hF151 4 8 (by decide) (by decide)]; exact e144
          have e158 : V148 4 9 = 11 := by rw [hF151 4 9 (by decide) (by decide)]; exact e145
          have e159 : V148 0 5 = 73 := by rw [hF151 0 5 (by decide) (by decide)]; exact e146
          refine pm_aload_n hC 1 (by decide) dX11_gather_84 rfl ?_
          refine pm_aload_n hC 0 (by decide) dX11_gather_85 rfl ?_
          refine pm_getf (v := 73) hC 0 fl_X11_75 rfl rfl (by decide) rfl e159 dX11_gather_86 ?_
          rcases hV150.get2 73 13 (lo := 76) (hi := 77) (by decide) (by decide) rfl with e160 | e160
          · skip
            replace hb13 := hb13.trans (if_pos e160)
            refine pm_getf (v := 76) hC 73 fl_X11_208 rfl rfl (by decide) rfl e160 dX11_gather_89 ?_
            refine pm_aload_n hC 0 (by decide) dX11_gather_92 rfl ?_
            refine pm_getf (v := 4) hC 0 fl_X11_24 rfl rfl (by decide) rfl e154 dX11_gather_93 ?_
            have e161 : V148 4 10 = 12 := hV150.one 4 10 (by decide) (by decide) rfl
            refine pm_getf (v := 12) hC 4 fl_X11_252 rfl rfl (by decide) rfl e161 dX11_gather_96 ?_
            refine pm_iload hC 4 dX11_gather_99 rfl ?_
            obtain ⟨y162, e163⟩ : ∃ y, V148 12 (x6 : Int).toNat = y := ⟨_, rfl⟩
            replace hb13 := hb13.trans (pf_let_eq e163)
            have b164 := hV150.get 12 (x6 : Int).toNat (lo := 0) (hi := 8) (by decide) (show _ < 60 by exact ow_79e_163 b21 c22) rfl
            rw [e163] at b164
            refine pm_iaload (len := 60) (v := y162) hC 12 rfl rfl (by decide) ⟨by exact ow_79e_32 b7, by exact ow_79e_164 b21 c22⟩ (by decide) e163 dX11_gather_101 ?_
            obtain ⟨y165, e166⟩ : ∃ y, V148 76 (y162 : Int).toNat = y := ⟨_, rfl⟩
            replace hb13 := hb13.trans (pf_let_eq e166)
            have b167 := hV150.get 76 (y162 : Int).toNat (lo := (-9223372036854775808)) (hi := 9223372036854775807) (by decide) (show _ < 9 by exact ow_79e_166 b164) rfl
            rw [e166] at b167
            refine pm_laload (len := 9) (v := y165) hC 76 rfl rfl (by decide) ⟨by exact ow_79e_40 b164, by exact ow_79e_167 b164⟩ (by decide) e166 dX11_gather_102 ?_
            refine pm_aload_n hC 0 (by decide) dX11_gather_103 rfl ?_
            refine pm_getf (v := 73) hC 0 fl_X11_75 rfl rfl (by decide) rfl e159 dX11_gather_104 ?_
            obtain ⟨y168, e169⟩ : ∃ y, V148 73 14 = y := ⟨_, rfl⟩
            have b170 := hV150.get 73 14 (lo := (-9223372036854775808)) (hi := 9223372036854775807) (by decide) (by decide) rfl
            rw [e169] at b170
            replace hb13 := hb13.trans (pf_let_eq e169)
            refine pm_getf (v := y168) hC 73 fl_X11_205 rfl rfl (by decide) rfl e169 dX11_gather_107 ?_
            refine pm_callV (ci := 0) (as := [(1, y165), (1, y168)]) (st := []) hC 84 (fD_X0_add_84 y165 y168 ⟨by exact ow_79e_14 b167, by exact ow_79e_15 b167⟩ ⟨by exact ow_79e_14 b170, by exact ow_79e_15 b170⟩) lm_X11_374 li_X0_add (by decide) (by decide) rfl rfl rfl (by decide) rfl rfl (Nat.le_of_ble_eq_true rfl) ⟨Nat.le_refl _, Or.inl rfl⟩ dX11_gather_110 ⟨rfl, hV150⟩ (fun r171 V172 hp173 => ?_)
            obtain ⟨rfl, hV174, hF175, hE176⟩ := hp173
            replace hb13 := hb13.trans (pf_call_eq hE176)
            change pm_J X 113 [(0, (3, 0)), (1, (3, 84)), (2, (0, a1)), (3, (0, a2)), (4, (0, x6))] [] 118 V172
            have hF177 := pm_ff.tr hF153 hF175 (by decide) (by decide)
            have e178 : V172 0 3 = 4 := by rw [hF175 0 3 (by decide) (by decide)]; exact e154
            have e179 : V172 4 6 = y19 := by rw [hF175 4 6 (by decide) (by decide)]; exact e155
            have e180 : V172 4 7 = 9 := by rw [hF175 4 7 (by decide) (by decide)]; exact e156
            have e181 : V172 4 8 = 10 := by rw [hF175 4 8 (by decide) (by decide)]; exact e157
            have e182 : V172 4 9 = 11 := by rw [hF175 4 9 (by decide) (by decide)]; exact e158
            have e183 : V172 0 5 = 73 := by rw [hF175 0 5 (by decide) (by decide)]; exact e159
            have e184 : V172 73 13 = 76 := by rw [hF175 73 13 (by decide) (by decide)]; exact e160
            have e185 : V172 4 10 = 12 := by rw [hF175 4 10 (by decide) (by decide)]; exact e161
            have e186 : V172 73 14 = y168 := by rw [hF175 73 14 (by decide) (by decide)]; exact e169
            obtain ⟨x187, ei188⟩ : ∃ y : Int, x6 + 1 = y := ⟨_, rfl⟩
            replace hb13 := hb13.trans (pf_let_eq ei188)
            refine pm_iinc (y := x187) (lv' := [(4, (0, x187)), (0, (3, 0)), (1, (3, 84)), (2, (0, a1)), (3, (0, a2))]) hC 4 dX11_gather_113 (by decide) rfl ei188 rfl ?_
            refine pm_goto (tgt := 8) hC dX11_gather_116 (by decide) ?_
            refine pm_lvsub [1, 2, 3, 4, 0] (lv' := [(0, (3, 0)), (1, (3, 84)), (2, (0, a1)), (3, (0, a2)), (4, (0, x187))]) rfl ?_
            exact ih17 _ (by exact ow_79e_168 hm15 b21 c22 ei188) x187 V172 ⟨by exact ow_79e_169 b7 ei188, by exact ow_79e_170 b21 c22 ei188⟩ hV174 hF177 (hT.trans (pf_val_inl hb13)) rfl
          · skip
            replace hb13 := hb13.trans (if_neg (by rw [e160]; decide))
            refine pm_getf (v := 77) hC 73 fl_X11_208 rfl rfl (by decide) rfl e160 dX11_gather_89 ?_
            refine pm_aload_n hC 0 (by decide) dX11_gather_92 rfl ?_
            refine pm_getf (v := 4) hC 0 fl_X11_24 rfl rfl (by decide) rfl e154 dX11_gather_93 ?_
            have e189 : V148 4 10 = 12 := hV150.one 4 10 (by decide) (by decide) rfl
            refine pm_getf (v := 12) hC 4 fl_X11_252 rfl rfl (by decide) rfl e189 dX11_gather_96 ?_
            refine pm_iload hC 4 dX11_gather_99 rfl ?_
            obtain ⟨y190, e191⟩ : ∃ y, V148 12 (x6 : Int).toNat = y := ⟨_, rfl⟩
            replace hb13 := hb13.trans (pf_let_eq e191)
            have b192 := hV150.get 12 (x6 : Int).toNat (lo := 0) (hi := 8) (by decide) (show _ < 60 by exact ow_79e_163 b21 c22) rfl
            rw [e191] at b192
            refine pm_iaload (len := 60) (v := y190) hC 12 rfl rfl (by decide) ⟨by exact ow_79e_32 b7, by exact ow_79e_164 b21 c22⟩ (by decide) e191 dX11_gather_101 ?_
            obtain ⟨y193, e194⟩ : ∃ y, V148 77 (y190 : Int).toNat = y := ⟨_, rfl⟩
            replace hb13 := hb13.trans (pf_let_eq e194)
            have b195 := hV150.get 77 (y190 : Int).toNat (lo := (-9223372036854775808)) (hi := 9223372036854775807) (by decide) (show _ < 9 by exact ow_79e_166 b192) rfl
            rw [e194] at b195
            refine pm_laload (len := 9) (v := y193) hC 77 rfl rfl (by decide) ⟨by exact ow_79e_40 b192, by exact ow_79e_167 b192⟩ (by decide) e194 dX11_gather_102 ?_
            refine pm_aload_n hC 0 (by decide) dX11_gather_103 rfl ?_
            refine pm_getf (v := 73) hC 0 fl_X11_75 rfl rfl (by decide) rfl e159 dX11_gather_104 ?_
            obtain ⟨y196, e197⟩ : ∃ y, V148 73 14 = y := ⟨_, rfl⟩
            have b198 := hV150.get 73 14 (lo := (-9223372036854775808)) (hi := 9223372036854775807) (by decide) (by decide) rfl
            rw [e197] at b198
            replace hb13 := hb13.trans (pf_let_eq e197)
            refine pm_getf (v := y196) hC 73 fl_X11_205 rfl rfl (by decide) rfl e197 dX11_gather_107 ?_
            refine pm_callV (ci := 0) (as := [(1, y193), (1, y196)]) (st := []) hC 84 (fD_X0_add_84 y193 y196 ⟨by exact ow_79e_14 b195, by exact ow_79e_15 b195⟩ ⟨by exact ow_79e_14 b198, by exact ow_79e_15 b198⟩) lm_X11_374 li_X0_add (by decide) (by decide) rfl rfl rfl (by decide) rfl rfl (Nat.le_of_ble_eq_true rfl) ⟨Nat.le_refl _, Or.inl rfl⟩ dX11_gather_110 ⟨rfl, hV150⟩ (fun r199 V200 hp201 => ?_)
            obtain ⟨rfl, hV202, hF203, hE204⟩ := hp201
            replace hb13 := hb13.trans (pf_call_eq hE204)
            change pm_J X 113 [(0, (3, 0)), (1, (3, 84)), (2, (0, a1)), (3, (0, a2)), (4, (0, x6))] [] 118 V200
            have hF205 := pm_ff.tr hF153 hF203 (by decide) (by decide)
            have e206 : V200 0 3 = 4 := by rw [hF203 0 3 (by decide) (by decide)]; exact e154
            have e207 : V200 4 6 = y19 := by rw [hF203 4 6 (by decide) (by decide)]; exact e155
            have e208 : V200 4 7 = 9 := by rw [hF203 4 7 (by decide) (by decide)]; exact e156
            have e209 : V200 4 8 = 10 := by rw [hF203 4 8 (by decide) (by decide)]; exact e157
            have e210 : V200 4 9 = 11 := by rw [hF203 4 9 (by decide) (by decide)]; exact e158
            have e211 : V200 0 5 = 73 := by rw [hF203 0 5 (by decide) (by decide)]; exact e159
            have e212 : V200 73 13 = 77 := by rw [hF203 73 13 (by decide) (by decide)]; exact e160
            have e213 : V200 4 10 = 12 := by rw [hF203 4 10 (by decide) (by decide)]; exact e189
            have e214 : V200 73 14 = y196 := by rw [hF203 73 14 (by decide) (by decide)]; exact e197
            obtain ⟨x215, ei216⟩ : ∃ y : Int, x6 + 1 = y := ⟨_, rfl⟩
            replace hb13 := hb13.trans (pf_let_eq ei216)
            refine pm_iinc (y := x215) (lv' := [(4, (0, x215)), (0, (3, 0)), (1, (3, 84)), (2, (0, a1)), (3, (0, a2))]) hC 4 dX11_gather_113 (by decide) rfl ei216 rfl ?_
            refine pm_goto (tgt := 8) hC dX11_gather_116 (by decide) ?_
            refine pm_lvsub [1, 2, 3, 4, 0] (lv' := [(0, (3, 0)), (1, (3, 84)), (2, (0, a1)), (3, (0, a2)), (4, (0, x215))]) rfl ?_
            exact ih17 _ (by exact ow_79e_168 hm15 b21 c22 ei216) x215 V200 ⟨by exact ow_79e_169 b7 ei216, by exact ow_79e_170 b21 c22 ei216⟩ hV202 hF205 (hT.trans (pf_val_inl hb13)) rfl
  refine pm_lvsub [1, 2, 3, 4, 0] (lv' := [(0, (3, 0)), (1, (3, 84)), (2, (0, a1)), (3, (0, a2)), (4, (0, 0))]) rfl ?_
  exact L14 _ 0 V1 ⟨by decide, by decide⟩ hV3 hF4 hT rfl
set_option maxHeartbeats 4000000 in
set_option maxRecDepth 100000 in
theorem uD_X0_isNever_84  : pm_K 1 yX0_isNever cX0_isNever 2 (some .boolean) (fun av V => av = [(3, 84)] ∧ pm_ok 0 90 V) (fun _ V r V' => ∃ y, r = some (0, y) ∧ (0 ≤ y ∧ y ≤ 1) ∧ V = V') := by
  refine pm_MT.of (by decide) ⟨Nat.le_refl _, by decide⟩ (fun av V h => by rw [h.1]; exact (by decide : pm_words [(3, 0)] ≤ 2)) ?_
  rintro X av V0 hC - hR ⟨rfl, hV0⟩
  change pm_J X 0 [(0, (3, 84))] [] 118 V0
  refine pm_iconst (v := 0) hC dX0_isNever_0 ?_
  refine pm_istore_n (lv' := [(1, (0, 0)), (0, (3, 84))]) hC dX0_isNever_1 (by decide) rfl ?_
  have L6 : ∀ (N8 : Nat) (x1 : Int), (0 ≤ x1 ∧ x1 ≤ 60) → (Int.toNat (60 - x1)) = N8 → pm_J X 2 [(0, (3, 84)), (1, (0, x1))] [] 118 V0 := by
    intro N8
    induction N8 using Nat.strongRecOn with
    | _ N8 ih9 =>
    intro x1 b2 hm7
    refine pm_iload_n hC 1 dX0_isNever_2 rfl ?_
    refine pm_aload_n hC 0 (by decide) dX0_isNever_3 rfl ?_
    obtain ⟨y10, e11⟩ : ∃ y, V0 84 0 = y := ⟨_, rfl⟩
    have b12 := hV0.get 84 0 (lo := 0) (hi := 60) (by decide) (by decide) rfl
    rw [e11] at b12
    refine pm_getf (v := y10) hC 84 fl_X0_9 rfl rfl (by decide) rfl e11 dX0_isNever_4 ?_
    refine pm_icmp_ge (tgt := 29) hC ⟨by exact ow_79e_29 b2, by exact ow_79e_30 b2⟩ ⟨by exact ow_79e_29 b12, by exact ow_79e_30 b12⟩ dX0_isNever_7 (by decide) (fun c13 => ?_) (fun c13 => ?_)
    · skip
      refine pm_iconst (v := 0) hC dX0_isNever_29 ?_
      exact pm_iret hC hR (pm_narZ (by exact ow_79e_66)) ⟨0, rfl, ⟨by exact ow_79e_67, by exact ow_79e_68⟩, rfl⟩ dX0_isNever_30
    · skip
      refine pm_aload_n hC 0 (by decide) dX0_isNever_10 rfl ?_
      have e14 : V0 84 1 = 85 := hV0.one 84 1 (by decide) (by decide) rfl
      refine pm_getf (v := 85) hC 84 fl_X0_15 rfl rfl (by decide) rfl e14 dX0_isNever_11 ?_
      refine pm_iload_n hC 1 dX0_isNever_14 rfl ?_
      obtain ⟨y15, e16⟩ : ∃ y, V0 85 (x1 : Int).toNat = y := ⟨_, rfl⟩
      have b17 := hV0.get 85 (x1 : Int).toNat (lo := (-9223372036854775808)) (hi := 9223372036854775807) (by decide) (show _ < 60 by exact ow_79e_163 b12 c13) rfl
      rw [e16] at b17
      refine pm_laload (len := 60) (v := y15) hC 85 rfl rfl (by decide) ⟨by exact ow_79e_32 b2, by exact ow_79e_164 b12 c13⟩ (by decide) e16 dX0_isNever_15 ?_
      refine pm_lconst (x := 0) hC dX0_isNever_16 rfl ?_
      refine pm_lcmp hC ⟨by exact ow_79e_14 b17, by exact ow_79e_15 b17⟩ ⟨by decide, by decide⟩ dX0_isNever_17 (fun y18 b19 => ?_)
      refine pm_if_gt (tgt := 23) hC ⟨by exact ow_79e_16 b19, by exact ow_79e_17 b19⟩ dX0_isNever_18 (by decide) (fun c20 => ?_) (fun c20 => ?_)
      · skip
        obtain ⟨x21, ei22⟩ : ∃ y : Int, x1 + 1 = y := ⟨_, rfl⟩
        refine pm_iinc (y := x21) (lv' := [(1, (0, x21)), (0, (3, 84))]) hC 1 dX0_isNever_23 (by decide) rfl ei22 rfl ?_
        refine pm_goto (tgt := 2) hC dX0_isNever_26 (by decide) ?_
        refine pm_lvsub [1, 0] (lv' := [(0, (3, 84)), (1, (0, x21))]) rfl ?_
        exact ih9 _ (by exact ow_79e_168 hm7 b12 c13 ei22) x21 ⟨by exact ow_79e_169 b2 ei22, by exact ow_79e_170 b12 c13 ei22⟩ rfl
      · skip
        refine pm_iconst (v := 1) hC dX0_isNever_21 ?_
        exact pm_iret hC hR (pm_narZ (by exact ow_79e_70)) ⟨1, rfl, ⟨by exact ow_79e_68, by exact ow_79e_71⟩, rfl⟩ dX0_isNever_22
  refine pm_lvsub [1, 0] (lv' := [(0, (3, 84)), (1, (0, 0))]) rfl ?_
  exact L6 _ 0 ⟨by decide, by decide⟩ rfl
set_option maxHeartbeats 4000000 in
set_option maxRecDepth 100000 in
theorem uD_X4_factorOf_84_84 (a1 : Int) (h0 : 0 ≤ a1 ∧ a1 ≤ 119) : pm_K 1 yX4_factorOf cX4_factorOf 6 (some .long) (fun av V => av = [(3, 84), (3, 84), (0, a1)] ∧ pm_ok 0 90 V) (fun _ V r V' => ∃ y, r = some (1, y) ∧ (1 ≤ y ∧ y ≤ 9223372036854775807) ∧ V = V') := by
  refine pm_MT.of (by decide) ⟨Nat.le_refl _, by decide⟩ (fun av V h => by rw [h.1]; exact (by decide : pm_words [(3, 0), (3, 0), (0, 0)] ≤ 6)) ?_
  rintro X av V0 hC - hR ⟨rfl, hV0⟩
  change pm_J X 0 [(0, (3, 84)), (1, (3, 84)), (2, (0, a1))] [] 118 V0
  refine pm_iload_n hC 2 dX4_factorOf_0 rfl ?_
  refine pm_iconst (v := 2) hC dX4_factorOf_1 ?_
  refine pm_idiv hC ⟨by exact ow_79e_173 h0, by exact ow_79e_174 h0, by exact ow_79e_175 h0⟩ ⟨by decide, by decide, by decide⟩ dX4_factorOf_2 ?_
  refine pm_istore_n (lv' := [(3, (0, (a1 / 2))), (0, (3, 84)), (1, (3, 84)), (2, (0, a1))]) hC dX4_factorOf_3 (by decide) rfl ?_
  refine pm_iload_n hC 3 dX4_factorOf_4 rfl ?_
  refine pm_iconst (v := 2) hC dX4_factorOf_5 ?_
  refine pm_irem hC ⟨by exact ow_79e_173 h0, by exact ow_79e_174 h0, by exact ow_79e_175 h0⟩ ⟨by decide, by decide, by decide⟩ dX4_factorOf_6 ?_
  refine pm_if_ne (tgt := 19) hC ⟨by exact ow_79e_176, by exact ow_79e_177⟩ dX4_factorOf_7 (by decide) (fun c1 => ?_) (fun c1 => ?_)
  · skip
    refine pm_aload_n hC 2 (by decide) dX4_factorOf_19 rfl ?_
    have e2 : V0 84 2 = 86 := hV0.one 84 2 (by decide) (by decide) rfl
    refine pm_getf (v := 86) hC 84 fl_X4_55 rfl rfl (by decide) rfl e2 dX4_factorOf_20 ?_
    refine pm_iload_n hC 0 dX4_factorOf_23 rfl ?_
    obtain ⟨y3, e4⟩ : ∃ y, V0 86 ((a1 / 2) : Int).toNat = y := ⟨_, rfl⟩
    have b5 := hV0.get 86 ((a1 / 2) : Int).toNat (lo := (-9223372036854775808)) (hi := 9223372036854775807) (by decide) (show _ < 60 by exact ow_79e_178 h0) rfl
    rw [e4] at b5
    refine pm_laload (len := 60) (v := y3) hC 86 rfl rfl (by decide) ⟨by exact ow_79e_179 h0, by exact ow_79e_180 h0⟩ (by decide) e4 dX4_factorOf_24 ?_
    refine pm_lstore (lv' := [(4, (1, y3)), (3, (0, (a1 / 2))), (0, (3, 84)), (1, (3, 84)), (2, (0, a1))]) hC dX4_factorOf_25 (by decide) rfl ?_
    refine pm_lconst (x := 1) hC dX4_factorOf_27 rfl ?_
    refine pm_lload hC 0 dX4_factorOf_28 rfl ?_
    refine pm_mmaxL hC 4168 4169 1018 4170 ⟨by decide, by decide⟩ ⟨by exact ow_79e_14 b5, by exact ow_79e_15 b5⟩ (by decide) wL_X4_58 wS_mmaxL wI_math wC_mmaxL (Nat.le_of_ble_eq_true rfl) dX4_factorOf_30 (fun y6 b7 => ?_)
    have he8 : pm_mx 1 y3 = y6 := pm_mx_of b7
    replace b7 : 1 ≤ y6 ∧ y6 ≤ 9223372036854775807 ∧ 1 ≤ y6 ∧ y3 ≤ y6 := ⟨by exact ow_79e_181 b7, by exact ow_79e_182 b5 b7, b7.1, b7.2.1⟩
    exact pm_lret hC hR ⟨y6, rfl, ⟨by exact ow_79e_183 b7, by exact ow_79e_184 b7⟩, rfl⟩ dX4_factorOf_33
  · skip
    refine pm_aload_n hC 1 (by decide) dX4_factorOf_10 rfl ?_
    have e9 : V0 84 1 = 85 := hV0.one 84 1 (by decide) (by decide) rfl
    refine pm_getf (v := 85) hC 84 fl_X4_51 rfl rfl (by decide) rfl e9 dX4_factorOf_11 ?_
    refine pm_iload_n hC 0 dX4_factorOf_14 rfl ?_
    obtain ⟨y10, e11⟩ : ∃ y, V0 85 ((a1 / 2) : Int).toNat = y := ⟨_, rfl⟩
    have b12 := hV0.get 85 ((a1 / 2) : Int).toNat (lo := (-9223372036854775808)) (hi := 9223372036854775807) (by decide) (show _ < 60 by exact ow_79e_185 h0 c1) rfl
    rw [e11] at b12
    refine pm_laload (len := 60) (v := y10) hC 85 rfl rfl (by decide) ⟨by exact ow_79e_186 h0 c1, by exact ow_79e_187 h0 c1⟩ (by decide) e11 dX4_factorOf_15 ?_
    refine pm_goto (tgt := 25) hC dX4_factorOf_16 (by decide) ?_
    refine pm_lstore (lv' := [(4, (1, y10)), (3, (0, (a1 / 2))), (0, (3, 84)), (1, (3, 84)), (2, (0, a1))]) hC dX4_factorOf_25 (by decide) rfl ?_
    refine pm_lconst (x := 1) hC dX4_factorOf_27 rfl ?_
    refine pm_lload hC 0 dX4_factorOf_28 rfl ?_
    refine pm_mmaxL hC 4168 4169 1018 4170 ⟨by decide, by decide⟩ ⟨by exact ow_79e_14 b12, by exact ow_79e_15 b12⟩ (by decide) wL_X4_58 wS_mmaxL wI_math wC_mmaxL (Nat.le_of_ble_eq_true rfl) dX4_factorOf_30 (fun y13 b14 => ?_)
    have he15 : pm_mx 1 y10 = y13 := pm_mx_of b14
    replace b14 : 1 ≤ y13 ∧ y13 ≤ 9223372036854775807 ∧ 1 ≤ y13 ∧ y10 ≤ y13 := ⟨by exact ow_79e_181 b14, by exact ow_79e_182 b12 b14, b14.1, b14.2.1⟩
    exact pm_lret hC hR ⟨y13, rfl, ⟨by exact ow_79e_183 b14, by exact ow_79e_184 b14⟩, rfl⟩ dX4_factorOf_33
set_option maxHeartbeats 4000000 in
set_option maxRecDepth 100000 in
theorem uD_X4_roughQuotient_84_84 (a1 : Int) (h0 : 0 ≤ a1 ∧ a1 ≤ 60) : pm_K 2 yX4_roughQuotient cX4_roughQuotient 9 (some .double) (fun av V => av = [(3, 84), (3, 84), (0, a1)] ∧ pm_ok 0 90 V) (fun _ V r V' => ∃ y, r = some (2, y) ∧ True ∧ V = V') := by
  refine pm_MT.of (by decide) ⟨Nat.le_refl _, by decide⟩ (fun av V h => by rw [h.1]; exact (by decide : pm_words [(3, 0), (3, 0), (0, 0)] ≤ 9)) ?_
  rintro X av V0 hC - hR ⟨rfl, hV0⟩
  change pm_J X 0 [(0, (3, 84)), (1, (3, 84)), (2, (0, a1))] [] 118 V0
  refine pm_dconst1 hC dX4_roughQuotient_0 (fun r1 => ?_)
  refine pm_dstore_n (lv' := [(3, (2, r1)), (0, (3, 84)), (1, (3, 84)), (2, (0, a1))]) hC dX4_roughQuotient_1 (by decide) rfl ?_
  refine pm_iconst (v := 0) hC dX4_roughQuotient_2 ?_
  refine pm_istore (lv' := [(5, (0, 0)), (3, (2, r1)), (0, (3, 84)), (1, (3, 84)), (2, (0, a1))]) hC dX4_roughQuotient_3 (by decide) rfl ?_
  refine pm_iconst (v := 0) hC dX4_roughQuotient_5 ?_
  refine pm_istore (lv' := [(6, (0, 0)), (5, (0, 0)), (3, (2, r1)), (0, (3, 84)), (1, (3, 84)), (2, (0, a1))]) hC dX4_roughQuotient_6 (by decide) rfl ?_
  refine pm_iconst (v := 0) hC dX4_roughQuotient_8 ?_
  refine pm_istore (lv' := [(7, (0, 0)), (6, (0, 0)), (5, (0, 0)), (3, (2, r1)), (0, (3, 84)), (1, (3, 84)), (2, (0, a1))]) hC dX4_roughQuotient_9 (by decide) rfl ?_
  have L15 : ∀ (N17 : Nat) (x2 : Int) (x3 : Int) (x5 : Int) (x7 : Int), (0 ≤ x3 ∧ x3 ≤ 120) → (0 ≤ x5 ∧ x5 ≤ 120) → (0 ≤ x7 ∧ x7 ≤ 240) → (x3 + x5 = x7) → (x3 ≤ 2 * a1) → (x5 ≤ 2 * a1) → (Int.toNat (240 - x7)) = N17 → pm_J X 11 [(0, (3, 84)), (1, (3, 84)), (2, (0, a1)), (3, (2, x2)), (5, (0, x3)), (6, (0, x5)), (7, (0, x7))] [] 118 V0 := by
    intro N17
    induction N17 using Nat.strongRecOn with
    | _ N17 ih18 =>
    intro x2 x3 x5 x7 b4 b6 b8 b9 b10 b11 hm16
    refine pm_iload hC 6 dX4_roughQuotient_11 rfl ?_
    refine pm_iconst (v := 4) hC dX4_roughQuotient_13 ?_
    refine pm_iload_n hC 2 dX4_roughQuotient_14 rfl ?_
    refine pm_imul hC dX4_roughQuotient_15 ?_
    refine pm_icmp_ge (tgt := 90) hC ⟨by exact ow_79e_188 b8, by exact ow_79e_189 b8⟩ ⟨by exact ow_79e_190 b4 b10, by exact ow_79e_191 h0⟩ dX4_roughQuotient_16 (by decide) (fun c19 => ?_) (fun c19 => ?_)
    · skip
      refine pm_dload_n hC 3 dX4_roughQuotient_90 rfl ?_
      exact pm_dret hC hR ⟨x2, rfl, trivial, rfl⟩ dX4_roughQuotient_91
    · skip
      refine pm_iload hC 5 dX4_roughQuotient_19 rfl ?_
      refine pm_iconst (v := 2) hC dX4_roughQuotient_21 ?_
      refine pm_iload_n hC 2 dX4_roughQuotient_22 rfl ?_
      refine pm_imul hC dX4_roughQuotient_23 ?_
      refine pm_icmp_ge (tgt := 41) hC ⟨by exact ow_79e_192 b6, by exact ow_79e_193 b6⟩ ⟨by exact ow_79e_194 b8 c19, by exact ow_79e_195 h0⟩ dX4_roughQuotient_24 (by decide) (fun c20 => ?_) (fun c20 => ?_)
      · skip
        refine pm_iconst (v := 1) hC dX4_roughQuotient_41 ?_
        refine pm_goto (tgt := 46) hC dX4_roughQuotient_42 (by decide) ?_
        refine pm_istore (lv' := [(8, (0, 1)), (0, (3, 84)), (1, (3, 84)), (2, (0, a1)), (3, (2, x2)), (5, (0, x3)), (6, (0, x5)), (7, (0, x7))]) hC dX4_roughQuotient_46 (by decide) rfl ?_
        refine pm_iload hC 0 dX4_roughQuotient_48 rfl ?_
        refine pm_if_eq (tgt := 70) hC ⟨by decide, by decide⟩ dX4_roughQuotient_50 (by decide) (fun c21 => ?_) (fun c21 => ?_)
        · skip
          exfalso; exact ow_79e_56 c21
        · skip
          refine pm_dload_n hC 4 dX4_roughQuotient_53 rfl ?_
          refine pm_aload_n hC 1 (by decide) dX4_roughQuotient_54 rfl ?_
          refine pm_aload_n hC 2 (by decide) dX4_roughQuotient_55 rfl ?_
          refine pm_iload hC 5 dX4_roughQuotient_56 rfl ?_
          refine pm_callS (as := [(3, 84), (3, 84), (0, x3)]) (st := [(2, x2)]) hC (uD_X4_factorOf_84_84 x3 ⟨by exact ow_79e_196 b4, by exact ow_79e_197 b6 b9 c19 c20⟩) lm_X4_47 ls_X4_factorOf (by decide) (by decide) rfl rfl (Nat.le_of_ble_eq_true rfl) ⟨Nat.le_refl _, Or.inl rfl⟩ dX4_roughQuotient_58 ⟨rfl, hV0⟩ (fun r22 V23 hp24 => ?_)
          obtain ⟨y25, rfl, b26, rfl⟩ := hp24
          change pm_J X 61 [(8, (0, 1)), (0, (3, 84)), (1, (3, 84)), (2, (0, a1)), (3, (2, x2)), (5, (0, x3)), (6, (0, x5)), (7, (0, x7))] [(1, y25), (2, x2)] 118 V0
          refine pm_l2d hC dX4_roughQuotient_61 (fun r28 => ?_)
          refine pm_dmul hC dX4_roughQuotient_62 (fun r29 => ?_)
          refine pm_dstore_n (lv' := [(3, (2, r29)), (8, (0, 1)), (0, (3, 84)), (1, (3, 84)), (2, (0, a1)), (5, (0, x3)), (6, (0, x5)), (7, (0, x7))]) hC dX4_roughQuotient_63 (by decide) rfl ?_
          obtain ⟨x30, ei31⟩ : ∃ y : Int, x3 + 1 = y := ⟨_, rfl⟩
          refine pm_iinc (y := x30) (lv' := [(5, (0, x30)), (3, (2, r29)), (8, (0, 1)), (0, (3, 84)), (1, (3, 84)), (2, (0, a1)), (6, (0, x5)), (7, (0, x7))]) hC 5 dX4_roughQuotient_64 (by decide) rfl ei31 rfl ?_
          refine pm_goto (tgt := 84) hC dX4_roughQuotient_67 (by decide) ?_
          obtain ⟨x32, ei33⟩ : ∃ y : Int, x7 + 1 = y := ⟨_, rfl⟩
          refine pm_iinc (y := x32) (lv' := [(7, (0, x32)), (5, (0, x30)), (3, (2, r29)), (8, (0, 1)), (0, (3, 84)), (1, (3, 84)), (2, (0, a1)), (6, (0, x5))]) hC 7 dX4_roughQuotient_84 (by decide) rfl ei33 rfl ?_
          refine pm_goto (tgt := 11) hC dX4_roughQuotient_87 (by decide) ?_
          refine pm_lvsub [4, 5, 6, 2, 1, 7, 0] (lv' := [(0, (3, 84)), (1, (3, 84)), (2, (0, a1)), (3, (2, r29)), (5, (0, x30)), (6, (0, x5)), (7, (0, x32))]) rfl ?_
          exact ih18 _ (by exact ow_79e_198 b6 hm16 c19 c20 ei33) r29 x30 x5 x32 ⟨by exact ow_79e_199 b4 ei31, by exact ow_79e_200 h0 b9 c19 c20 ei31⟩ ⟨by exact ow_79e_201 b8 c19 c20, by exact ow_79e_202 b6⟩ ⟨by exact ow_79e_203 b8 ei33, by exact ow_79e_204 b6 c19 c20 ei33⟩ (by exact ow_79e_205 b9 ei31 ei33) (by exact ow_79e_206 b9 c19 c20 ei31) (by exact ow_79e_207 b11) rfl
      · skip
        refine pm_iload hC 4 dX4_roughQuotient_27 rfl ?_
        refine pm_iconst (v := 2) hC dX4_roughQuotient_29 ?_
        refine pm_iload_n hC 2 dX4_roughQuotient_30 rfl ?_
        refine pm_imul hC dX4_roughQuotient_31 ?_
        refine pm_icmp_ge (tgt := 45) hC ⟨by exact ow_79e_192 b4, by exact ow_79e_193 b4⟩ ⟨by exact ow_79e_194 b8 c19, by exact ow_79e_195 h0⟩ dX4_roughQuotient_32 (by decide) (fun c34 => ?_) (fun c34 => ?_)
        · skip
          refine pm_iconst (v := 0) hC dX4_roughQuotient_45 ?_
          refine pm_istore (lv' := [(8, (0, 0)), (0, (3, 84)), (1, (3, 84)), (2, (0, a1)), (3, (2, x2)), (5, (0, x3)), (6, (0, x5)), (7, (0, x7))]) hC dX4_roughQuotient_46 (by decide) rfl ?_
          refine pm_iload hC 0 dX4_roughQuotient_48 rfl ?_
          refine pm_if_eq (tgt := 70) hC ⟨by decide, by decide⟩ dX4_roughQuotient_50 (by decide) (fun c35 => ?_) (fun c35 => ?_)
          · skip
            refine pm_dload_n hC 4 dX4_roughQuotient_70 rfl ?_
            refine pm_aload_n hC 2 (by decide) dX4_roughQuotient_71 rfl ?_
            refine pm_aload_n hC 1 (by decide) dX4_roughQuotient_72 rfl ?_
            refine pm_iload hC 6 dX4_roughQuotient_73 rfl ?_
            refine pm_callS (as := [(3, 84), (3, 84), (0, x5)]) (st := [(2, x2)]) hC (uD_X4_factorOf_84_84 x5 ⟨by exact ow_79e_196 b6, by exact ow_79e_208 b4 c20 c34⟩) lm_X4_47 ls_X4_factorOf (by decide) (by decide) rfl rfl (Nat.le_of_ble_eq_true rfl) ⟨Nat.le_refl _, Or.inl rfl⟩ dX4_roughQuotient_75 ⟨rfl, hV0⟩ (fun r36 V37 hp38 => ?_)
            obtain ⟨y39, rfl, b40, rfl⟩ := hp38
            change pm_J X 78 [(8, (0, 0)), (0, (3, 84)), (1, (3, 84)), (2, (0, a1)), (3, (2, x2)), (5, (0, x3)), (6, (0, x5)), (7, (0, x7))] [(1, y39), (2, x2)] 118 V0
            refine pm_l2d hC dX4_roughQuotient_78 (fun r42 => ?_)
            refine pm_ddiv hC dX4_roughQuotient_79 (fun r43 => ?_)
            refine pm_dstore_n (lv' := [(3, (2, r43)), (8, (0, 0)), (0, (3, 84)), (1, (3, 84)), (2, (0, a1)), (5, (0, x3)), (6, (0, x5)), (7, (0, x7))]) hC dX4_roughQuotient_80 (by decide) rfl ?_
            obtain ⟨x44, ei45⟩ : ∃ y : Int, x5 + 1 = y := ⟨_, rfl⟩
            refine pm_iinc (y := x44) (lv' := [(6, (0, x44)), (3, (2, r43)), (8, (0, 0)), (0, (3, 84)), (1, (3, 84)), (2, (0, a1)), (5, (0, x3)), (7, (0, x7))]) hC 6 dX4_roughQuotient_81 (by decide) rfl ei45 rfl ?_
            obtain ⟨x46, ei47⟩ : ∃ y : Int, x7 + 1 = y := ⟨_, rfl⟩
            refine pm_iinc (y := x46) (lv' := [(7, (0, x46)), (6, (0, x44)), (3, (2, r43)), (8, (0, 0)), (0, (3, 84)), (1, (3, 84)), (2, (0, a1)), (5, (0, x3))]) hC 7 dX4_roughQuotient_84 (by decide) rfl ei47 rfl ?_
            refine pm_goto (tgt := 11) hC dX4_roughQuotient_87 (by decide) ?_
            refine pm_lvsub [4, 5, 6, 2, 7, 1, 0] (lv' := [(0, (3, 84)), (1, (3, 84)), (2, (0, a1)), (3, (2, r43)), (5, (0, x3)), (6, (0, x44)), (7, (0, x46))]) rfl ?_
            exact ih18 _ (by exact ow_79e_198 b4 hm16 c19 c34 ei47) r43 x3 x44 x46 ⟨by exact ow_79e_209 b8 b9 c20 c34, by exact ow_79e_202 b4⟩ ⟨by exact ow_79e_199 b6 ei45, by exact ow_79e_210 b4 c20 c34 ei45⟩ ⟨by exact ow_79e_203 b8 ei47, by exact ow_79e_204 b4 c19 c34 ei47⟩ (by exact ow_79e_211 b9 ei45 ei47) (by exact ow_79e_207 b10) (by exact ow_79e_212 c20 ei45) rfl
          · skip
            exfalso; exact ow_79e_46 c35
        · skip
          refine pm_dload_n hC 3 dX4_roughQuotient_35 rfl ?_
          refine pm_dconst1 hC dX4_roughQuotient_36 (fun r48 => ?_)
          refine pm_dcmp hC dX4_roughQuotient_37 (fun y49 b50 => ?_)
          have b50 := And.intro b50.1 b50.2
          refine pm_if_gt (tgt := 45) hC ⟨by exact ow_79e_0 b50, by exact ow_79e_1 b50⟩ dX4_roughQuotient_38 (by decide) (fun c51 => ?_) (fun c51 => ?_)
          · skip
            refine pm_iconst (v := 0) hC dX4_roughQuotient_45 ?_
            refine pm_istore (lv' := [(8, (0, 0)), (0, (3, 84)), (1, (3, 84)), (2, (0, a1)), (3, (2, x2)), (5, (0, x3)), (6, (0, x5)), (7, (0, x7))]) hC dX4_roughQuotient_46 (by decide) rfl ?_
            refine pm_iload hC 0 dX4_roughQuotient_48 rfl ?_
            refine pm_if_eq (tgt := 70) hC ⟨by decide, by decide⟩ dX4_roughQuotient_50 (by decide) (fun c52 => ?_) (fun c52 => ?_)
            · skip
              refine pm_dload_n hC 4 dX4_roughQuotient_70 rfl ?_
              refine pm_aload_n hC 2 (by decide) dX4_roughQuotient_71 rfl ?_
              refine pm_aload_n hC 1 (by decide) dX4_roughQuotient_72 rfl ?_
              refine pm_iload hC 6 dX4_roughQuotient_73 rfl ?_
              refine pm_callS (as := [(3, 84), (3, 84), (0, x5)]) (st := [(2, x2)]) hC (uD_X4_factorOf_84_84 x5 ⟨by exact ow_79e_196 b6, by exact ow_79e_213 h0 c20⟩) lm_X4_47 ls_X4_factorOf (by decide) (by decide) rfl rfl (Nat.le_of_ble_eq_true rfl) ⟨Nat.le_refl _, Or.inl rfl⟩ dX4_roughQuotient_75 ⟨rfl, hV0⟩ (fun r53 V54 hp55 => ?_)
              obtain ⟨y56, rfl, b57, rfl⟩ := hp55
              change pm_J X 78 [(8, (0, 0)), (0, (3, 84)), (1, (3, 84)), (2, (0, a1)), (3, (2, x2)), (5, (0, x3)), (6, (0, x5)), (7, (0, x7))] [(1, y56), (2, x2)] 118 V0
              refine pm_l2d hC dX4_roughQuotient_78 (fun r59 => ?_)
              refine pm_ddiv hC dX4_roughQuotient_79 (fun r60 => ?_)
              refine pm_dstore_n (lv' := [(3, (2, r60)), (8, (0, 0)), (0, (3, 84)), (1, (3, 84)), (2, (0, a1)), (5, (0, x3)), (6, (0, x5)), (7, (0, x7))]) hC dX4_roughQuotient_80 (by decide) rfl ?_
              obtain ⟨x61, ei62⟩ : ∃ y : Int, x5 + 1 = y := ⟨_, rfl⟩
              refine pm_iinc (y := x61) (lv' := [(6, (0, x61)), (3, (2, r60)), (8, (0, 0)), (0, (3, 84)), (1, (3, 84)), (2, (0, a1)), (5, (0, x3)), (7, (0, x7))]) hC 6 dX4_roughQuotient_81 (by decide) rfl ei62 rfl ?_
              obtain ⟨x63, ei64⟩ : ∃ y : Int, x7 + 1 = y := ⟨_, rfl⟩
              refine pm_iinc (y := x63) (lv' := [(7, (0, x63)), (6, (0, x61)), (3, (2, r60)), (8, (0, 0)), (0, (3, 84)), (1, (3, 84)), (2, (0, a1)), (5, (0, x3))]) hC 7 dX4_roughQuotient_84 (by decide) rfl ei64 rfl ?_
              refine pm_goto (tgt := 11) hC dX4_roughQuotient_87 (by decide) ?_
              refine pm_lvsub [4, 5, 6, 2, 7, 1, 0] (lv' := [(0, (3, 84)), (1, (3, 84)), (2, (0, a1)), (3, (2, r60)), (5, (0, x3)), (6, (0, x61)), (7, (0, x63))]) rfl ?_
              exact ih18 _ (by exact ow_79e_214 h0 b9 hm16 c20 c34 ei64) r60 x3 x61 x63 ⟨by exact ow_79e_196 b4, by exact ow_79e_215 h0 c34⟩ ⟨by exact ow_79e_199 b6 ei62, by exact ow_79e_216 h0 c20 ei62⟩ ⟨by exact ow_79e_203 b8 ei64, by exact ow_79e_217 h0 b9 c20 c34 ei64⟩ (by exact ow_79e_211 b9 ei62 ei64) (by exact ow_79e_218 c34) (by exact ow_79e_212 c20 ei62) rfl
            · skip
              exfalso; exact ow_79e_46 c52
          · skip
            refine pm_iconst (v := 1) hC dX4_roughQuotient_41 ?_
            refine pm_goto (tgt := 46) hC dX4_roughQuotient_42 (by decide) ?_
            refine pm_istore (lv' := [(8, (0, 1)), (0, (3, 84)), (1, (3, 84)), (2, (0, a1)), (3, (2, x2)), (5, (0, x3)), (6, (0, x5)), (7, (0, x7))]) hC dX4_roughQuotient_46 (by decide) rfl ?_
            refine pm_iload hC 0 dX4_roughQuotient_48 rfl ?_
            refine pm_if_eq (tgt := 70) hC ⟨by decide, by decide⟩ dX4_roughQuotient_50 (by decide) (fun c65 => ?_) (fun c65 => ?_)
            · skip
              exfalso; exact ow_79e_56 c65
            · skip
              refine pm_dload_n hC 4 dX4_roughQuotient_53 rfl ?_
              refine pm_aload_n hC 1 (by decide) dX4_roughQuotient_54 rfl ?_
              refine pm_aload_n hC 2 (by decide) dX4_roughQuotient_55 rfl ?_
              refine pm_iload hC 5 dX4_roughQuotient_56 rfl ?_
              refine pm_callS (as := [(3, 84), (3, 84), (0, x3)]) (st := [(2, x2)]) hC (uD_X4_factorOf_84_84 x3 ⟨by exact ow_79e_196 b4, by exact ow_79e_213 h0 c34⟩) lm_X4_47 ls_X4_factorOf (by decide) (by decide) rfl rfl (Nat.le_of_ble_eq_true rfl) ⟨Nat.le_refl _, Or.inl rfl⟩ dX4_roughQuotient_58 ⟨rfl, hV0⟩ (fun r66 V67 hp68 => ?_)
              obtain ⟨y69, rfl, b70, rfl⟩ := hp68
              change pm_J X 61 [(8, (0, 1)), (0, (3, 84)), (1, (3, 84)), (2, (0, a1)), (3, (2, x2)), (5, (0, x3)), (6, (0, x5)), (7, (0, x7))] [(1, y69), (2, x2)] 118 V0
              refine pm_l2d hC dX4_roughQuotient_61 (fun r72 => ?_)
              refine pm_dmul hC dX4_roughQuotient_62 (fun r73 => ?_)
              refine pm_dstore_n (lv' := [(3, (2, r73)), (8, (0, 1)), (0, (3, 84)), (1, (3, 84)), (2, (0, a1)), (5, (0, x3)), (6, (0, x5)), (7, (0, x7))]) hC dX4_roughQuotient_63 (by decide) rfl ?_
              obtain ⟨x74, ei75⟩ : ∃ y : Int, x3 + 1 = y := ⟨_, rfl⟩
              refine pm_iinc (y := x74) (lv' := [(5, (0, x74)), (3, (2, r73)), (8, (0, 1)), (0, (3, 84)), (1, (3, 84)), (2, (0, a1)), (6, (0, x5)), (7, (0, x7))]) hC 5 dX4_roughQuotient_64 (by decide) rfl ei75 rfl ?_
              refine pm_goto (tgt := 84) hC dX4_roughQuotient_67 (by decide) ?_
              obtain ⟨x76, ei77⟩ : ∃ y : Int, x7 + 1 = y := ⟨_, rfl⟩
              refine pm_iinc (y := x76) (lv' := [(7, (0, x76)), (5, (0, x74)), (3, (2, r73)), (8, (0, 1)), (0, (3, 84)), (1, (3, 84)), (2, (0, a1)), (6, (0, x5))]) hC 7 dX4_roughQuotient_84 (by decide) rfl ei77 rfl ?_
              refine pm_goto (tgt := 11) hC dX4_roughQuotient_87 (by decide) ?_
              refine pm_lvsub [4, 5, 6, 2, 1, 7, 0] (lv' := [(0, (3, 84)), (1, (3, 84)), (2, (0, a1)), (3, (2, r73)), (5, (0, x74)), (6, (0, x5)), (7, (0, x76))]) rfl ?_
              exact ih18 _ (by exact ow_79e_214 h0 b9 hm16 c20 c34 ei77) r73 x74 x5 x76 ⟨by exact ow_79e_199 b4 ei75, by exact ow_79e_216 h0 c34 ei75⟩ ⟨by exact ow_79e_196 b6, by exact ow_79e_215 h0 c20⟩ ⟨by exact ow_79e_203 b8 ei77, by exact ow_79e_217 h0 b9 c20 c34 ei77⟩ (by exact ow_79e_205 b9 ei75 ei77) (by exact ow_79e_212 c34 ei75) (by exact ow_79e_218 c20) rfl
  refine pm_lvsub [4, 5, 6, 3, 2, 1, 0] (lv' := [(0, (3, 84)), (1, (3, 84)), (2, (0, a1)), (3, (2, r1)), (5, (0, 0)), (6, (0, 0)), (7, (0, 0))]) rfl ?_
  exact L15 _ r1 0 0 0 ⟨by decide, by decide⟩ ⟨by decide, by decide⟩ ⟨by decide, by decide⟩ (by exact ow_79e_219) (by exact ow_79e_220 h0) (by exact ow_79e_220 h0) rfl
set_option maxHeartbeats 4000000 in
set_option maxRecDepth 100000 in
theorem uD_X1_begin_79  : pm_K 1 yX1_begin cX1_begin 1 none (fun av V => av = [(3, 79)] ∧ pm_ok 0 90 V) (fun _ V r V' => r = none ∧ pm_ok 0 90 V' ∧ pm_ff [80] [(79, 1)] V V') := by
  refine pm_MT.of (by decide) ⟨Nat.le_refl _, by decide⟩ (fun av V h => by rw [h.1]; exact (by decide : pm_words [(3, 0)] ≤ 1)) ?_
  rintro X av V0 hC - hR ⟨rfl, hV0⟩
  change pm_J X 0 [(0, (3, 79))] [] 118 V0
  refine pm_aload_n hC 0 (by decide) dX1_begin_0 rfl ?_
  have e1 : V0 79 0 = 80 := hV0.one 79 0 (by decide) (by decide) rfl
  refine pm_getf (v := 80) hC 79 fl_X1_9 rfl rfl (by decide) rfl e1 dX1_begin_1 ?_
  refine pm_iconst (v := 0) hC dX1_begin_4 ?_
  refine pm_lconst (x := 1) hC dX1_begin_5 rfl ?_
  refine pm_lastore (len := 128) hC 80 rfl rfl (by decide) ⟨by decide, by decide⟩ (by decide) dX1_begin_6 ?_
  refine pm_aload_n hC 0 (by decide) dX1_begin_7 rfl ?_
  refine pm_iconst (v := 1) hC dX1_begin_8 ?_
  refine pm_putf hC 79 fl_X1_13 rfl rfl rfl (by decide) rfl trivial dX1_begin_9 ?_
  exact pm_vret hC hR ⟨rfl, ((hV0.put 80 (0 : Int).toNat (x := 1) (lo := (-9223372036854775808)) (hi := 9223372036854775807) rfl ⟨by decide, by decide⟩).put 79 1 (x := 1) (lo := 0) (hi := 128) rfl ⟨by decide, by decide⟩), (((pm_ff.rf (cs := [80]) (fs := [(79, 1)]) (V := V0)).upa 80 (0 : Int).toNat 1 rfl).upf 79 1 1 rfl)⟩ dX1_begin_12
set_option maxHeartbeats 4000000 in
set_option maxRecDepth 100000 in
theorem uD_X1_begin_81  : pm_K 1 yX1_begin cX1_begin 1 none (fun av V => av = [(3, 81)] ∧ pm_ok 0 90 V) (fun _ V r V' => r = none ∧ pm_ok 0 90 V' ∧ pm_ff [82] [(81, 1)] V V') := by
  refine pm_MT.of (by decide) ⟨Nat.le_refl _, by decide⟩ (fun av V h => by rw [h.1]; exact (by decide : pm_words [(3, 0)] ≤ 1)) ?_
  rintro X av V0 hC - hR ⟨rfl, hV0⟩
  change pm_J X 0 [(0, (3, 81))] [] 118 V0
  refine pm_aload_n hC 0 (by decide) dX1_begin_0 rfl ?_
  have e1 : V0 81 0 = 82 := hV0.one 81 0 (by decide) (by decide) rfl
  refine pm_getf (v := 82) hC 81 fl_X1_9 rfl rfl (by decide) rfl e1 dX1_begin_1 ?_
  refine pm_iconst (v := 0) hC dX1_begin_4 ?_
  refine pm_lconst (x := 1) hC dX1_begin_5 rfl ?_
  refine pm_lastore (len := 128) hC 82 rfl rfl (by decide) ⟨by decide, by decide⟩ (by decide) dX1_begin_6 ?_
  refine pm_aload_n hC 0 (by decide) dX1_begin_7 rfl ?_
  refine pm_iconst (v := 1) hC dX1_begin_8 ?_
  refine pm_putf hC 81 fl_X1_13 rfl rfl rfl (by decide) rfl trivial dX1_begin_9 ?_
  exact pm_vret hC hR ⟨rfl, ((hV0.put 82 (0 : Int).toNat (x := 1) (lo := (-9223372036854775808)) (hi := 9223372036854775807) rfl ⟨by decide, by decide⟩).put 81 1 (x := 1) (lo := 0) (hi := 128) rfl ⟨by decide, by decide⟩), (((pm_ff.rf (cs := [82]) (fs := [(81, 1)]) (V := V0)).upa 82 (0 : Int).toNat 1 rfl).upf 81 1 1 rfl)⟩ dX1_begin_12
set_option maxHeartbeats 4000000 in
set_option maxRecDepth 100000 in
theorem uD_X1_compareWith_79_81  : pm_K 1 yX1_compareWith cX1_compareWith 3 (some .int) (fun av V => av = [(3, 79), (3, 81)] ∧ pm_ok 0 90 V) (fun _ V r V' => ∃ y, r = some (0, y) ∧ ((-1) ≤ y ∧ y ≤ 1) ∧ V = V') := by
  refine pm_MT.of (by decide) ⟨Nat.le_refl _, by decide⟩ (fun av V h => by rw [h.1]; exact (by decide : pm_words [(3, 0), (3, 0)] ≤ 3)) ?_
  rintro X av V0 hC - hR ⟨rfl, hV0⟩
  change pm_J X 0 [(0, (3, 79)), (1, (3, 81))] [] 118 V0
  refine pm_aload_n hC 0 (by decide) dX1_compareWith_0 rfl ?_
  obtain ⟨y1, e2⟩ : ∃ y, V0 79 1 = y := ⟨_, rfl⟩
  have b3 := hV0.get 79 1 (lo := 0) (hi := 128) (by decide) (by decide) rfl
  rw [e2] at b3
  refine pm_getf (v := y1) hC 79 fl_X1_13 rfl rfl (by decide) rfl e2 dX1_compareWith_1 ?_
  refine pm_aload_n hC 1 (by decide) dX1_compareWith_4 rfl ?_
  obtain ⟨y4, e5⟩ : ∃ y, V0 81 1 = y := ⟨_, rfl⟩
  have b6 := hV0.get 81 1 (lo := 0) (hi := 128) (by decide) (by decide) rfl
  rw [e5] at b6
  refine pm_getf (v := y4) hC 81 fl_X1_13 rfl rfl (by decide) rfl e5 dX1_compareWith_5 ?_
  refine pm_icmp_eq (tgt := 28) hC ⟨by exact ow_79e_221 b3, by exact ow_79e_222 b3⟩ ⟨by exact ow_79e_221 b6, by exact ow_79e_222 b6⟩ dX1_compareWith_8 (by decide) (fun c7 => ?_) (fun c7 => ?_)
  · skip
    refine pm_aload_n hC 0 (by decide) dX1_compareWith_28 rfl ?_
    refine pm_getf (v := y1) hC 79 fl_X1_13 rfl rfl (by decide) rfl e2 dX1_compareWith_29 ?_
    refine pm_iconst (v := 1) hC dX1_compareWith_32 ?_
    refine pm_isub hC dX1_compareWith_33 ?_
    refine pm_istore_n (lv' := [(2, (0, (y1 - 1))), (0, (3, 79)), (1, (3, 81))]) hC dX1_compareWith_34 (by decide) rfl ?_
    have L13 : ∀ (N15 : Nat) (x8 : Int), ((-1) ≤ x8 ∧ x8 ≤ 127) → (Int.toNat (x8 - (-1))) = N15 → pm_J X 35 [(0, (3, 79)), (1, (3, 81)), (2, (0, x8))] [] 118 V0 := by
      intro N15
      induction N15 using Nat.strongRecOn with
      | _ N15 ih16 =>
      intro x8 b9 hm14
      refine pm_iload_n hC 2 dX1_compareWith_35 rfl ?_
      refine pm_if_lt (tgt := 83) hC ⟨by exact ow_79e_223 b9, by exact ow_79e_224 b9⟩ dX1_compareWith_36 (by decide) (fun c17 => ?_) (fun c17 => ?_)
      · skip
        refine pm_iconst (v := 0) hC dX1_compareWith_83 ?_
        exact pm_iret hC hR pm_nar0 ⟨0, rfl, ⟨by exact ow_79e_225, by exact ow_79e_68⟩, rfl⟩ dX1_compareWith_84
      · skip
        refine pm_aload_n hC 0 (by decide) dX1_compareWith_39 rfl ?_
        have e18 : V0 79 0 = 80 := hV0.one 79 0 (by decide) (by decide) rfl
        refine pm_getf (v := 80) hC 79 fl_X1_9 rfl rfl (by decide) rfl e18 dX1_compareWith_40 ?_
        refine pm_iload_n hC 2 dX1_compareWith_43 rfl ?_
        obtain ⟨y19, e20⟩ : ∃ y, V0 80 (x8 : Int).toNat = y := ⟨_, rfl⟩
        have b21 := hV0.get 80 (x8 : Int).toNat (lo := (-9223372036854775808)) (hi := 9223372036854775807) (by decide) (show _ < 128 by exact ow_79e_226 b9) rfl
        rw [e20] at b21
        refine pm_laload (len := 128) (v := y19) hC 80 rfl rfl (by decide) ⟨by exact ow_79e_47 c17, by exact ow_79e_227 b9⟩ (by decide) e20 dX1_compareWith_44 ?_
        refine pm_aload_n hC 1 (by decide) dX1_compareWith_45 rfl ?_
        have e22 : V0 81 0 = 82 := hV0.one 81 0 (by decide) (by decide) rfl
        refine pm_getf (v := 82) hC 81 fl_X1_9 rfl rfl (by decide) rfl e22 dX1_compareWith_46 ?_
        refine pm_iload_n hC 2 dX1_compareWith_49 rfl ?_
        obtain ⟨y23, e24⟩ : ∃ y, V0 82 (x8 : Int).toNat = y := ⟨_, rfl⟩
        have b25 := hV0.get 82 (x8 : Int).toNat (lo := (-9223372036854775808)) (hi := 9223372036854775807) (by decide) (show _ < 128 by exact ow_79e_226 b9) rfl
        rw [e24] at b25
        refine pm_laload (len := 128) (v := y23) hC 82 rfl rfl (by decide) ⟨by exact ow_79e_47 c17, by exact ow_79e_227 b9⟩ (by decide) e24 dX1_compareWith_50 ?_
        refine pm_lcmp hC ⟨by exact ow_79e_14 b21, by exact ow_79e_15 b21⟩ ⟨by exact ow_79e_14 b25, by exact ow_79e_15 b25⟩ dX1_compareWith_51 (fun y26 b27 => ?_)
        refine pm_if_eq (tgt := 77) hC ⟨by exact ow_79e_228 b27, by exact ow_79e_229 b27⟩ dX1_compareWith_52 (by decide) (fun c28 => ?_) (fun c28 => ?_)
        · skip
          obtain ⟨x29, ei30⟩ : ∃ y : Int, x8 + (-1) = y := ⟨_, rfl⟩
          refine pm_iinc (y := x29) (lv' := [(2, (0, x29)), (0, (3, 79)), (1, (3, 81))]) hC 2 dX1_compareWith_77 (by decide) rfl ei30 rfl ?_
          refine pm_goto (tgt := 35) hC dX1_compareWith_80 (by decide) ?_
          refine pm_lvsub [1, 2, 0] (lv' := [(0, (3, 79)), (1, (3, 81)), (2, (0, x29))]) rfl ?_
          exact ih16 _ (by exact ow_79e_230 hm14 c17 ei30) x29 ⟨by exact ow_79e_231 c17 ei30, by exact ow_79e_232 b9 ei30⟩ rfl
        · skip
          refine pm_aload_n hC 0 (by decide) dX1_compareWith_55 rfl ?_
          refine pm_getf (v := 80) hC 79 fl_X1_9 rfl rfl (by decide) rfl e18 dX1_compareWith_56 ?_
          refine pm_iload_n hC 2 dX1_compareWith_59 rfl ?_
          refine pm_laload (len := 128) (v := y19) hC 80 rfl rfl (by decide) ⟨by exact ow_79e_47 c17, by exact ow_79e_227 b9⟩ (by decide) e20 dX1_compareWith_60 ?_
          refine pm_aload_n hC 1 (by decide) dX1_compareWith_61 rfl ?_
          refine pm_getf (v := 82) hC 81 fl_X1_9 rfl rfl (by decide) rfl e22 dX1_compareWith_62 ?_
          refine pm_iload_n hC 2 dX1_compareWith_65 rfl ?_
          refine pm_laload (len := 128) (v := y23) hC 82 rfl rfl (by decide) ⟨by exact ow_79e_47 c17, by exact ow_79e_227 b9⟩ (by decide) e24 dX1_compareWith_66 ?_
          refine pm_lcmp hC ⟨by exact ow_79e_14 b21, by exact ow_79e_15 b21⟩ ⟨by exact ow_79e_14 b25, by exact ow_79e_15 b25⟩ dX1_compareWith_67 (fun y31 b32 => ?_)
          refine pm_if_le (tgt := 75) hC ⟨by exact ow_79e_228 b32, by exact ow_79e_229 b32⟩ dX1_compareWith_68 (by decide) (fun c33 => ?_) (fun c33 => ?_)
          · skip
            refine pm_iconst (v := (-1)) hC dX1_compareWith_75 ?_
            exact pm_iret hC hR pm_nar0 ⟨(-1), rfl, ⟨by exact ow_79e_10, by exact ow_79e_233⟩, rfl⟩ dX1_compareWith_76
          · skip
            refine pm_iconst (v := 1) hC dX1_compareWith_71 ?_
            refine pm_goto (tgt := 76) hC dX1_compareWith_72 (by decide) ?_
            exact pm_iret hC hR pm_nar0 ⟨1, rfl, ⟨by exact ow_79e_233, by exact ow_79e_71⟩, rfl⟩ dX1_compareWith_76
    refine pm_lvsub [1, 2, 0] (lv' := [(0, (3, 79)), (1, (3, 81)), (2, (0, (y1 - 1)))]) rfl ?_
    exact L13 _ (y1 - 1) ⟨by exact ow_79e_234 b3, by exact ow_79e_235 b3⟩ rfl
  · skip
    refine pm_aload_n hC 0 (by decide) dX1_compareWith_11 rfl ?_
    refine pm_getf (v := y1) hC 79 fl_X1_13 rfl rfl (by decide) rfl e2 dX1_compareWith_12 ?_
    refine pm_aload_n hC 1 (by decide) dX1_compareWith_15 rfl ?_
    refine pm_getf (v := y4) hC 81 fl_X1_13 rfl rfl (by decide) rfl e5 dX1_compareWith_16 ?_
    refine pm_icmp_le (tgt := 26) hC ⟨by exact ow_79e_221 b3, by exact ow_79e_222 b3⟩ ⟨by exact ow_79e_221 b6, by exact ow_79e_222 b6⟩ dX1_compareWith_19 (by decide) (fun c34 => ?_) (fun c34 => ?_)
    · skip
      refine pm_iconst (v := (-1)) hC dX1_compareWith_26 ?_
      exact pm_iret hC hR pm_nar0 ⟨(-1), rfl, ⟨by exact ow_79e_10, by exact ow_79e_233⟩, rfl⟩ dX1_compareWith_27
    · skip
      refine pm_iconst (v := 1) hC dX1_compareWith_22 ?_
      refine pm_goto (tgt := 27) hC dX1_compareWith_23 (by decide) ?_
      exact pm_iret hC hR pm_nar0 ⟨1, rfl, ⟨by exact ow_79e_233, by exact ow_79e_71⟩, rfl⟩ dX1_compareWith_27
set_option maxHeartbeats 4000000 in
set_option maxRecDepth 100000 in
theorem uD_X1_times_79 (a1 : Int) (h0 : (-9223372036854775808) ≤ a1 ∧ a1 ≤ 9223372036854775807) : pm_K 1 yX1_times cX1_times 8 none (fun av V => av = [(3, 79), (1, a1)] ∧ pm_ok 0 90 V) (fun _ V r V' => r = none ∧ pm_ok 0 90 V' ∧ pm_ff [80] [(79, 1)] V V') := by
  refine pm_MT.of (by decide) ⟨Nat.le_refl _, by decide⟩ (fun av V h => by rw [h.1]; exact (by decide : pm_words [(3, 0), (1, 0)] ≤ 8)) ?_
  rintro X av V0 hC - hR ⟨rfl, hV0⟩
  change pm_J X 0 [(0, (3, 79)), (1, (1, a1))] [] 118 V0
  refine pm_lconst (x := 0) hC dX1_times_0 rfl ?_
  refine pm_lstore_n (lv' := [(3, (1, 0)), (0, (3, 79)), (1, (1, a1))]) hC dX1_times_1 (by decide) rfl ?_
  refine pm_iconst (v := 0) hC dX1_times_2 ?_
  refine pm_istore (lv' := [(5, (0, 0)), (3, (1, 0)), (0, (3, 79)), (1, (1, a1))]) hC dX1_times_3 (by decide) rfl ?_
  have L11 : ∀ (N13 : Nat) (x1 : Int) (x3 : Int) (V5 : pm_M), ((-9223372036854775808) ≤ x1 ∧ x1 ≤ 9223372036854775807) → (0 ≤ x3 ∧ x3 ≤ 499) → pm_ok 0 90 V5 → pm_ff [80] [(79, 1)] V0 V5 → (Int.toNat (499 - x3)) = N13 → pm_J X 5 [(0, (3, 79)), (1, (1, a1)), (3, (1, x1)), (5, (0, x3))] [] 118 V5 := by
    intro N13
    induction N13 using Nat.strongRecOn with
    | _ N13 ih14 =>
    intro x1 x3 V5 b2 b4 hV6 hF7 hm12
    refine pm_iload hC 3 dX1_times_5 rfl ?_
    refine pm_aload_n hC 0 (by decide) dX1_times_7 rfl ?_
    obtain ⟨y15, e16⟩ : ∃ y, V5 79 1 = y := ⟨_, rfl⟩
    have b17 := hV6.get 79 1 (lo := 0) (hi := 128) (by decide) (by decide) rfl
    rw [e16] at b17
    refine pm_getf (v := y15) hC 79 fl_X1_13 rfl rfl (by decide) rfl e16 dX1_times_8 ?_
    refine pm_icmp_ge (tgt := 52) hC ⟨by exact ow_79e_236 b4, by exact ow_79e_237 b4⟩ ⟨by exact ow_79e_221 b17, by exact ow_79e_222 b17⟩ dX1_times_11 (by decide) (fun c18 => ?_) (fun c18 => ?_)
    · skip
      refine pm_lload_n hC 2 dX1_times_52 rfl ?_
      refine pm_lconst (x := 0) hC dX1_times_53 rfl ?_
      refine pm_lcmp hC ⟨by exact ow_79e_14 b2, by exact ow_79e_15 b2⟩ ⟨by decide, by decide⟩ dX1_times_54 (fun y19 b20 => ?_)
      refine pm_if_le (tgt := 88) hC ⟨by exact ow_79e_16 b20, by exact ow_79e_17 b20⟩ dX1_times_55 (by decide) (fun c21 => ?_) (fun c21 => ?_)
      · skip
        exact pm_vret hC hR ⟨rfl, hV6, hF7⟩ dX1_times_88
      · skip
        refine pm_aload_n hC 0 (by decide) dX1_times_58 rfl ?_
        refine pm_getf (v := y15) hC 79 fl_X1_13 rfl rfl (by decide) rfl e16 dX1_times_59 ?_
        refine pm_sipush (v := 128) hC dX1_times_62 (by decide) ?_
        refine pm_icmp_ge (tgt := 88) hC ⟨by exact ow_79e_221 b17, by exact ow_79e_222 b17⟩ ⟨by decide, by decide⟩ dX1_times_65 (by decide) (fun c22 => ?_) (fun c22 => ?_)
        · skip
          exact pm_vret hC hR ⟨rfl, hV6, hF7⟩ dX1_times_88
        · skip
          refine pm_aload_n hC 0 (by decide) dX1_times_68 rfl ?_
          have e23 : V5 79 0 = 80 := hV6.one 79 0 (by decide) (by decide) rfl
          refine pm_getf (v := 80) hC 79 fl_X1_9 rfl rfl (by decide) rfl e23 dX1_times_69 ?_
          refine pm_aload_n hC 0 (by decide) dX1_times_72 rfl ?_
          refine pm_getf (v := y15) hC 79 fl_X1_13 rfl rfl (by decide) rfl e16 dX1_times_73 ?_
          refine pm_lload_n hC 2 dX1_times_76 rfl ?_
          refine pm_lastore (len := 128) hC 80 rfl rfl (by decide) ⟨by exact ow_79e_238 b17, by exact ow_79e_239 c22⟩ (by decide) dX1_times_77 ?_
          refine pm_aload_n hC 0 (by decide) dX1_times_78 rfl ?_
          refine pm_dup hC rfl dX1_times_79 ?_
          refine pm_getf (v := y15) hC 79 fl_X1_13 rfl rfl (by decide) rfl e16 dX1_times_80 ?_
          refine pm_iconst (v := 1) hC dX1_times_83 ?_
          refine pm_iadd hC dX1_times_84 ?_
          refine pm_putf hC 79 fl_X1_13 rfl rfl rfl (by decide) rfl trivial dX1_times_85 ?_
          exact pm_vret hC hR ⟨rfl, ((hV6.put 80 (y15 : Int).toNat (x := x1) (lo := (-9223372036854775808)) (hi := 9223372036854775807) rfl ⟨by exact ow_79e_14 b2, by exact ow_79e_15 b2⟩).put 79 1 (x := (y15 + 1)) (lo := 0) (hi := 128) rfl ⟨by exact ow_79e_240 b17, by exact ow_79e_241 c22⟩), ((hF7.upa 80 (y15 : Int).toNat x1 rfl).upf 79 1 (y15 + 1) rfl)⟩ dX1_times_88
    · skip
      refine pm_aload_n hC 0 (by decide) dX1_times_14 rfl ?_
      have e24 : V5 79 0 = 80 := hV6.one 79 0 (by decide) (by decide) rfl
      refine pm_getf (v := 80) hC 79 fl_X1_9 rfl rfl (by decide) rfl e24 dX1_times_15 ?_
      refine pm_iload hC 3 dX1_times_18 rfl ?_
      obtain ⟨y25, e26⟩ : ∃ y, V5 80 (x3 : Int).toNat = y := ⟨_, rfl⟩
      have b27 := hV6.get 80 (x3 : Int).toNat (lo := (-9223372036854775808)) (hi := 9223372036854775807) (by decide) (show _ < 128 by exact ow_79e_242 b17 c18) rfl
      rw [e26] at b27
      refine pm_laload (len := 128) (v := y25) hC 80 rfl rfl (by decide) ⟨by exact ow_79e_243 b4, by exact ow_79e_244 b17 c18⟩ (by decide) e26 dX1_times_20 ?_
      refine pm_lload_n hC 1 dX1_times_21 rfl ?_
      refine pm_lmul hC dX1_times_22 ?_
      refine pm_wrL hC (fun y28 hw30 b29 => ?_)
      have b29 := And.intro b29.1 b29.2
      refine pm_lload_n hC 2 dX1_times_23 rfl ?_
      refine pm_ladd hC dX1_times_24 ?_
      refine pm_wrL hC (fun y31 hw33 b32 => ?_)
      have b32 := And.intro b32.1 b32.2
      refine pm_lstore (lv' := [(6, (1, y31)), (0, (3, 79)), (1, (1, a1)), (3, (1, x1)), (5, (0, x3))]) hC dX1_times_25 (by decide) rfl ?_
      refine pm_aload_n hC 1 (by decide) dX1_times_27 rfl ?_
      refine pm_getf (v := 80) hC 79 fl_X1_9 rfl rfl (by decide) rfl e24 dX1_times_28 ?_
      refine pm_iload hC 4 dX1_times_31 rfl ?_
      refine pm_lload hC 0 dX1_times_33 rfl ?_
      refine pm_ldc2 (v := 1073741823) hC 4185 dX1_times_35 (by decide +kernel) ?_
      refine pm_land hC dX1_times_38 ?_
      have b35 := pm_landb (x := y31) (y := 1073741823) (by decide)
      obtain ⟨y34, hey34⟩ : ∃ z, (pm_landV y31 1073741823) = z := ⟨_, rfl⟩
      rw [hey34] at b35 ⊢
      refine pm_lastore (len := 128) hC 80 rfl rfl (by decide) ⟨by exact ow_79e_243 b4, by exact ow_79e_244 b17 c18⟩ (by decide) dX1_times_39 ?_
      refine pm_lload hC 0 dX1_times_40 rfl ?_
      refine pm_bipush (v := 30) hC dX1_times_42 (by decide) ?_
      refine pm_lushr hC dX1_times_44 ?_
      have b37 := pm_lushrr y31 30
      obtain ⟨y36, hey36⟩ : ∃ z, (pm_lushrV y31 30) = z := ⟨_, rfl⟩
      rw [hey36] at b37 ⊢
      refine pm_lstore_n (lv' := [(3, (1, y36)), (6, (1, y31)), (0, (3, 79)), (1, (1, a1)), (5, (0, x3))]) hC dX1_times_45 (by decide) rfl ?_
      obtain ⟨x38, ei39⟩ : ∃ y : Int, x3 + 1 = y := ⟨_, rfl⟩
      refine pm_iinc (y := x38) (lv' := [(5, (0, x38)), (3, (1, y36)), (6, (1, y31)), (0, (3, 79)), (1, (1, a1))]) hC 4 dX1_times_46 (by decide) rfl ei39 rfl ?_
      refine pm_goto (tgt := 5) hC dX1_times_49 (by decide) ?_
      refine pm_lvsub [3, 4, 1, 0] (lv' := [(0, (3, 79)), (1, (1, a1)), (3, (1, y36)), (5, (0, x38))]) rfl ?_
      exact ih14 _ (by exact ow_79e_245 hm12 b17 c18 ei39) y36 x38 (pm_up V5 80 (x3 : Int).toNat y34) ⟨by exact ow_79e_14 b37, by exact ow_79e_15 b37⟩ ⟨by exact ow_79e_246 b4 ei39, by exact ow_79e_247 b17 c18 ei39⟩ (hV6.put 80 (x3 : Int).toNat (x := y34) (lo := (-9223372036854775808)) (hi := 9223372036854775807) rfl ⟨by exact ow_79e_248 b35, by exact ow_79e_249 b35⟩) (hF7.upa 80 (x3 : Int).toNat y34 rfl) rfl
  refine pm_lvsub [2, 3, 1, 0] (lv' := [(0, (3, 79)), (1, (1, a1)), (3, (1, 0)), (5, (0, 0))]) rfl ?_
  exact L11 _ 0 0 V0 ⟨by decide, by decide⟩ ⟨by decide, by decide⟩ hV0 (pm_ff.rf (cs := [80]) (fs := [(79, 1)]) (V := V0)) rfl
set_option maxHeartbeats 4000000 in
set_option maxRecDepth 100000 in
theorem uD_X1_times_81 (a1 : Int) (h0 : (-9223372036854775808) ≤ a1 ∧ a1 ≤ 9223372036854775807) : pm_K 1 yX1_times cX1_times 8 none (fun av V => av = [(3, 81), (1, a1)] ∧ pm_ok 0 90 V) (fun _ V r V' => r = none ∧ pm_ok 0 90 V' ∧ pm_ff [82] [(81, 1)] V V') := by
  refine pm_MT.of (by decide) ⟨Nat.le_refl _, by decide⟩ (fun av V h => by rw [h.1]; exact (by decide : pm_words [(3, 0), (1, 0)] ≤ 8)) ?_
  rintro X av V0 hC - hR ⟨rfl, hV0⟩
  change pm_J X 0 [(0, (3, 81)), (1, (1, a1))] [] 118 V0
  refine pm_lconst (x := 0) hC dX1_times_0 rfl ?_
  refine pm_lstore_n (lv' := [(3, (1, 0)), (0, (3, 81)), (1, (1, a1))]) hC dX1_times_1 (by decide) rfl ?_
  refine pm_iconst (v := 0) hC dX1_times_2 ?_
  refine pm_istore (lv' := [(5, (0, 0)), (3, (1, 0)), (0, (3, 81)), (1, (1, a1))]) hC dX1_times_3 (by decide) rfl ?_
  have L11 : ∀ (N13 : Nat) (x1 : Int) (x3 : Int) (V5 : pm_M), ((-9223372036854775808) ≤ x1 ∧ x1 ≤ 9223372036854775807) → (0 ≤ x3 ∧ x3 ≤ 499) → pm_ok 0 90 V5 → pm_ff [82] [(81, 1)] V0 V5 → (Int.toNat (499 - x3)) = N13 → pm_J X 5 [(0, (3, 81)), (1, (1, a1)), (3, (1, x1)), (5, (0, x3))] [] 118 V5 := by
    intro N13
    induction N13 using Nat.strongRecOn with
    | _ N13 ih14 =>
    intro x1 x3 V5 b2 b4 hV6 hF7 hm12
    refine pm_iload hC 3 dX1_times_5 rfl ?_
    refine pm_aload_n hC 0 (by decide) dX1_times_7 rfl ?_
    obtain ⟨y15, e16⟩ : ∃ y, V5 81 1 = y := ⟨_, rfl⟩
    have b17 := hV6.get 81 1 (lo := 0) (hi := 128) (by decide) (by decide) rfl
    rw [e16] at b17
    refine pm_getf (v := y15) hC 81 fl_X1_13 rfl rfl (by decide) rfl e16 dX1_times_8 ?_
    refine pm_icmp_ge (tgt := 52) hC ⟨by exact ow_79e_236 b4, by exact ow_79e_237 b4⟩ ⟨by exact ow_79e_221 b17, by exact ow_79e_222 b17⟩ dX1_times_11 (by decide) (fun c18 => ?_) (fun c18 => ?_)
    · skip
      refine pm_lload_n hC 2 dX1_times_52 rfl ?_
      refine pm_lconst (x := 0) hC dX1_times_53 rfl ?_
      refine pm_lcmp hC ⟨by exact ow_79e_14 b2, by exact ow_79e_15 b2⟩ ⟨by decide, by decide⟩ dX1_times_54 (fun y19 b20 => ?_)
      refine pm_if_le (tgt := 88) hC ⟨by exact ow_79e_16 b20, by exact ow_79e_17 b20⟩ dX1_times_55 (by decide) (fun c21 => ?_) (fun c21 => ?_)
      · skip
        exact pm_vret hC hR ⟨rfl, hV6, hF7⟩ dX1_times_88
      · skip
        refine pm_aload_n hC 0 (by decide) dX1_times_58 rfl ?_
        refine pm_getf (v := y15) hC 81 fl_X1_13 rfl rfl (by decide) rfl e16 dX1_times_59 ?_
        refine pm_sipush (v := 128) hC dX1_times_62 (by decide) ?_
        refine pm_icmp_ge (tgt := 88) hC ⟨by exact ow_79e_221 b17, by exact ow_79e_222 b17⟩ ⟨by decide, by decide⟩ dX1_times_65 (by decide) (fun c22 => ?_) (fun c22 => ?_)
        · skip
          exact pm_vret hC hR ⟨rfl, hV6, hF7⟩ dX1_times_88
        · skip
          refine pm_aload_n hC 0 (by decide) dX1_times_68 rfl ?_
          have e23 : V5 81 0 = 82 := hV6.one 81 0 (by decide) (by decide) rfl
          refine pm_getf (v := 82) hC 81 fl_X1_9 rfl rfl (by decide) rfl e23 dX1_times_69 ?_
          refine pm_aload_n hC 0 (by decide) dX1_times_72 rfl ?_
          refine pm_getf (v := y15) hC 81 fl_X1_13 rfl rfl (by decide) rfl e16 dX1_times_73 ?_
          refine pm_lload_n hC 2 dX1_times_76 rfl ?_
          refine pm_lastore (len := 128) hC 82 rfl rfl (by decide) ⟨by exact ow_79e_238 b17, by exact ow_79e_239 c22⟩ (by decide) dX1_times_77 ?_
          refine pm_aload_n hC 0 (by decide) dX1_times_78 rfl ?_
          refine pm_dup hC rfl dX1_times_79 ?_
          refine pm_getf (v := y15) hC 81 fl_X1_13 rfl rfl (by decide) rfl e16 dX1_times_80 ?_
          refine pm_iconst (v := 1) hC dX1_times_83 ?_
          refine pm_iadd hC dX1_times_84 ?_
          refine pm_putf hC 81 fl_X1_13 rfl rfl rfl (by decide) rfl trivial dX1_times_85 ?_
          exact pm_vret hC hR ⟨rfl, ((hV6.put 82 (y15 : Int).toNat (x := x1) (lo := (-9223372036854775808)) (hi := 9223372036854775807) rfl ⟨by exact ow_79e_14 b2, by exact ow_79e_15 b2⟩).put 81 1 (x := (y15 + 1)) (lo := 0) (hi := 128) rfl ⟨by exact ow_79e_240 b17, by exact ow_79e_241 c22⟩), ((hF7.upa 82 (y15 : Int).toNat x1 rfl).upf 81 1 (y15 + 1) rfl)⟩ dX1_times_88
    · skip
      refine pm_aload_n hC 0 (by decide) dX1_times_14 rfl ?_
      have e24 : V5 81 0 = 82 := hV6.one 81 0 (by decide) (by decide) rfl
      refine pm_getf (v := 82) hC 81 fl_X1_9 rfl rfl (by decide) rfl e24 dX1_times_15 ?_
      refine pm_iload hC 3 dX1_times_18 rfl ?_
      obtain ⟨y25, e26⟩ : ∃ y, V5 82 (x3 : Int).toNat = y := ⟨_, rfl⟩
      have b27 := hV6.get 82 (x3 : Int).toNat (lo := (-9223372036854775808)) (hi := 9223372036854775807) (by decide) (show _ < 128 by exact ow_79e_242 b17 c18) rfl
      rw [e26] at b27
      refine pm_laload (len := 128) (v := y25) hC 82 rfl rfl (by decide) ⟨by exact ow_79e_243 b4, by exact ow_79e_244 b17 c18⟩ (by decide) e26 dX1_times_20 ?_
      refine pm_lload_n hC 1 dX1_times_21 rfl ?_
      refine pm_lmul hC dX1_times_22 ?_
      refine pm_wrL hC (fun y28 hw30 b29 => ?_)
      have b29 := And.intro b29.1 b29.2
      refine pm_lload_n hC 2 dX1_times_23 rfl ?_
      refine pm_ladd hC dX1_times_24 ?_
      refine pm_wrL hC (fun y31 hw33 b32 => ?_)
      have b32 := And.intro b32.1 b32.2
      refine pm_lstore (lv' := [(6, (1, y31)), (0, (3, 81)), (1, (1, a1)), (3, (1, x1)), (5, (0, x3))]) hC dX1_times_25 (by decide) rfl ?_
      refine pm_aload_n hC 1 (by decide) dX1_times_27 rfl ?_
      refine pm_getf (v := 82) hC 81 fl_X1_9 rfl rfl (by decide) rfl e24 dX1_times_28 ?_
      refine pm_iload hC 4 dX1_times_31 rfl ?_
      refine pm_lload hC 0 dX1_times_33 rfl ?_
      refine pm_ldc2 (v := 1073741823) hC 4185 dX1_times_35 (by decide +kernel) ?_
      refine pm_land hC dX1_times_38 ?_
      have b35 := pm_landb (x := y31) (y := 1073741823) (by decide)
      obtain ⟨y34, hey34⟩ : ∃ z, (pm_landV y31 1073741823) = z := ⟨_, rfl⟩
      rw [hey34] at b35 ⊢
      refine pm_lastore (len := 128) hC 82 rfl rfl (by decide) ⟨by exact ow_79e_243 b4, by exact ow_79e_244 b17 c18⟩ (by decide) dX1_times_39 ?_
      refine pm_lload hC 0 dX1_times_40 rfl ?_
      refine pm_bipush (v := 30) hC dX1_times_42 (by decide) ?_
      refine pm_lushr hC dX1_times_44 ?_
      have b37 := pm_lushrr y31 30
      obtain ⟨y36, hey36⟩ : ∃ z, (pm_lushrV y31 30) = z := ⟨_, rfl⟩
      rw [hey36] at b37 ⊢
      refine pm_lstore_n (lv' := [(3, (1, y36)), (6, (1, y31)), (0, (3, 81)), (1, (1, a1)), (5, (0, x3))]) hC dX1_times_45 (by decide) rfl ?_
      obtain ⟨x38, ei39⟩ : ∃ y : Int, x3 + 1 = y := ⟨_, rfl⟩
      refine pm_iinc (y := x38) (lv' := [(5, (0, x38)), (3, (1, y36)), (6, (1, y31)), (0, (3, 81)), (1, (1, a1))]) hC 4 dX1_times_46 (by decide) rfl ei39 rfl ?_
      refine pm_goto (tgt := 5) hC dX1_times_49 (by decide) ?_
      refine pm_lvsub [3, 4, 1, 0] (lv' := [(0, (3, 81)), (1, (1, a1)), (3, (1, y36)), (5, (0, x38))]) rfl ?_
      exact ih14 _ (by exact ow_79e_245 hm12 b17 c18 ei39) y36 x38 (pm_up V5 82 (x3 : Int).toNat y34) ⟨by exact ow_79e_14 b37, by exact ow_79e_15 b37⟩ ⟨by exact ow_79e_246 b4 ei39, by exact ow_79e_247 b17 c18 ei39⟩ (hV6.put 82 (x3 : Int).toNat (x := y34) (lo := (-9223372036854775808)) (hi := 9223372036854775807) rfl ⟨by exact ow_79e_248 b35, by exact ow_79e_249 b35⟩) (hF7.upa 82 (x3 : Int).toNat y34 rfl) rfl
  refine pm_lvsub [2, 3, 1, 0] (lv' := [(0, (3, 81)), (1, (1, a1)), (3, (1, 0)), (5, (0, 0))]) rfl ?_
  exact L11 _ 0 0 V0 ⟨by decide, by decide⟩ ⟨by decide, by decide⟩ hV0 (pm_ff.rf (cs := [82]) (fs := [(81, 1)]) (V := V0)) rfl
set_option maxHeartbeats 4000000 in
set_option maxRecDepth 100000 in
theorem uD_X4_compareExactly_78_84_84 (a1 : Int) (h0 : 0 ≤ a1 ∧ a1 ≤ 60) : pm_K 2 yX4_compareExactly cX4_compareExactly 5 (some .int) (fun av V => av = [(3, 78), (3, 84), (3, 84), (0, a1)] ∧ pm_ok 0 90 V) (fun _ V r V' => ∃ y, r = some (0, y) ∧ ((-1) ≤ y ∧ y ≤ 1) ∧ pm_ok 0 90 V' ∧ pm_ff [80, 82] [(79, 1), (81, 1)] V V') := by
  refine pm_MT.of (by decide) ⟨Nat.le_refl _, by decide⟩ (fun av V h => by rw [h.1]; exact (by decide : pm_words [(3, 0), (3, 0), (3, 0), (0, 0)] ≤ 5)) ?_
  rintro X av V0 hC - hR ⟨rfl, hV0⟩
  change pm_J X 0 [(0, (3, 78)), (1, (3, 84)), (2, (3, 84)), (3, (0, a1))] [] 118 V0
  refine pm_aload_n hC 0 (by decide) dX4_compareExactly_0 rfl ?_
  have e1 : V0 78 0 = 79 := hV0.one 78 0 (by decide) (by decide) rfl
  refine pm_getf (v := 79) hC 78 fl_X4_10 rfl rfl (by decide) rfl e1 dX4_compareExactly_1 ?_
  refine pm_callV (ci := 1) (as := []) (st := []) hC 79 uD_X1_begin_79 lm_X4_62 li_X1_begin (by decide) (by decide) rfl rfl rfl (by decide) rfl rfl (Nat.le_of_ble_eq_true rfl) ⟨Nat.le_refl _, Or.inl rfl⟩ dX4_compareExactly_4 ⟨rfl, hV0⟩ (fun r2 V3 hp4 => ?_)
  obtain ⟨rfl, hV5, hF6⟩ := hp4
  change pm_J X 7 [(0, (3, 78)), (1, (3, 84)), (2, (3, 84)), (3, (0, a1))] [] 118 V3
  have hF8 := pm_ff.tr (pm_ff.rf (cs := [80, 82]) (fs := [(79, 1), (81, 1)]) (V := V0)) hF6 (by decide) (by decide)
  have e9 : V3 78 0 = 79 := by rw [hF6 78 0 (by decide) (by decide)]; exact e1
  refine pm_aload_n hC 0 (by decide) dX4_compareExactly_7 rfl ?_
  have e10 : V3 78 1 = 81 := hV5.one 78 1 (by decide) (by decide) rfl
  refine pm_getf (v := 81) hC 78 fl_X4_16 rfl rfl (by decide) rfl e10 dX4_compareExactly_8 ?_
  refine pm_callV (ci := 1) (as := []) (st := []) hC 81 uD_X1_begin_81 lm_X4_62 li_X1_begin (by decide) (by decide) rfl rfl rfl (by decide) rfl rfl (Nat.le_of_ble_eq_true rfl) ⟨Nat.le_refl _, Or.inl rfl⟩ dX4_compareExactly_11 ⟨rfl, hV5⟩ (fun r11 V12 hp13 => ?_)
  obtain ⟨rfl, hV14, hF15⟩ := hp13
  change pm_J X 14 [(0, (3, 78)), (1, (3, 84)), (2, (3, 84)), (3, (0, a1))] [] 118 V12
  have hF17 := pm_ff.tr hF8 hF15 (by decide) (by decide)
  have e18 : V12 78 0 = 79 := by rw [hF15 78 0 (by decide) (by decide)]; exact e9
  have e19 : V12 78 1 = 81 := by rw [hF15 78 1 (by decide) (by decide)]; exact e10
  refine pm_iconst (v := 0) hC dX4_compareExactly_14 ?_
  refine pm_istore (lv' := [(4, (0, 0)), (0, (3, 78)), (1, (3, 84)), (2, (3, 84)), (3, (0, a1))]) hC dX4_compareExactly_15 (by decide) rfl ?_
  have L30 : ∀ (N32 : Nat) (x20 : Int) (V22 : pm_M), (0 ≤ x20 ∧ x20 ≤ 60) → pm_ok 0 90 V22 → pm_ff [80, 82] [(79, 1), (81, 1)] V0 V22 → V22 78 0 = 79 → V22 78 1 = 81 → (Int.toNat (60 - x20)) = N32 → pm_J X 17 [(0, (3, 78)), (1, (3, 84)), (2, (3, 84)), (3, (0, a1)), (4, (0, x20))] [] 118 V22 := by
    intro N32
    induction N32 using Nat.strongRecOn with
    | _ N32 ih33 =>
    intro x20 V22 b21 hV23 hF24 e25 e26 hm31
    refine pm_iload hC 4 dX4_compareExactly_17 rfl ?_
    refine pm_iload_n hC 3 dX4_compareExactly_19 rfl ?_
    refine pm_icmp_ge (tgt := 119) hC ⟨by exact ow_79e_29 b21, by exact ow_79e_30 b21⟩ ⟨by exact ow_79e_29 h0, by exact ow_79e_30 h0⟩ dX4_compareExactly_20 (by decide) (fun c34 => ?_) (fun c34 => ?_)
    · skip
      refine pm_aload_n hC 0 (by decide) dX4_compareExactly_119 rfl ?_
      refine pm_getf (v := 79) hC 78 fl_X4_10 rfl rfl (by decide) rfl e25 dX4_compareExactly_120 ?_
      refine pm_aload_n hC 0 (by decide) dX4_compareExactly_123 rfl ?_
      refine pm_getf (v := 81) hC 78 fl_X4_16 rfl rfl (by decide) rfl e26 dX4_compareExactly_124 ?_
      refine pm_callV (ci := 1) (as := [(3, 81)]) (st := []) hC 79 uD_X1_compareWith_79_81 lm_X4_69 li_X1_compareWith (by decide) (by decide) rfl rfl rfl (by decide) rfl rfl (Nat.le_of_ble_eq_true rfl) ⟨Nat.le_refl _, Or.inl rfl⟩ dX4_compareExactly_127 ⟨rfl, hV23⟩ (fun r35 V36 hp37 => ?_)
      obtain ⟨y38, rfl, b39, rfl⟩ := hp37
      change pm_J X 130 [(0, (3, 78)), (1, (3, 84)), (2, (3, 84)), (3, (0, a1)), (4, (0, x20))] [(0, y38)] 118 V22
      exact pm_iret hC hR pm_nar0 ⟨y38, rfl, ⟨by exact ow_79e_250 b39, by exact ow_79e_251 b39⟩, hV23, hF24⟩ dX4_compareExactly_130
    · skip
      refine pm_aload_n hC 1 (by decide) dX4_compareExactly_23 rfl ?_
      have e41 : V22 84 1 = 85 := hV23.one 84 1 (by decide) (by decide) rfl
      refine pm_getf (v := 85) hC 84 fl_X4_51 rfl rfl (by decide) rfl e41 dX4_compareExactly_24 ?_
      refine pm_iload hC 4 dX4_compareExactly_27 rfl ?_
      obtain ⟨y42, e43⟩ : ∃ y, V22 85 (x20 : Int).toNat = y := ⟨_, rfl⟩
      have b44 := hV23.get 85 (x20 : Int).toNat (lo := (-9223372036854775808)) (hi := 9223372036854775807) (by decide) (show _ < 60 by exact ow_79e_163 h0 c34) rfl
      rw [e43] at b44
      refine pm_laload (len := 60) (v := y42) hC 85 rfl rfl (by decide) ⟨by exact ow_79e_32 b21, by exact ow_79e_164 h0 c34⟩ (by decide) e43 dX4_compareExactly_29 ?_
      refine pm_aload_n hC 2 (by decide) dX4_compareExactly_30 rfl ?_
      have e45 : V22 84 2 = 86 := hV23.one 84 2 (by decide) (by decide) rfl
      refine pm_getf (v := 86) hC 84 fl_X4_55 rfl rfl (by decide) rfl e45 dX4_compareExactly_31 ?_
      refine pm_iload hC 4 dX4_compareExactly_34 rfl ?_
      obtain ⟨y46, e47⟩ : ∃ y, V22 86 (x20 : Int).toNat = y := ⟨_, rfl⟩
      have b48 := hV23.get 86 (x20 : Int).toNat (lo := (-9223372036854775808)) (hi := 9223372036854775807) (by decide) (show _ < 60 by exact ow_79e_163 h0 c34) rfl
      rw [e47] at b48
      refine pm_laload (len := 60) (v := y46) hC 86 rfl rfl (by decide) ⟨by exact ow_79e_32 b21, by exact ow_79e_164 h0 c34⟩ (by decide) e47 dX4_compareExactly_36 ?_
      refine pm_lmul hC dX4_compareExactly_37 ?_
      refine pm_wrL hC (fun y49 hw51 b50 => ?_)
      have b50 := And.intro b50.1 b50.2
      refine pm_aload_n hC 2 (by decide) dX4_compareExactly_38 rfl ?_
      refine pm_getf (v := 85) hC 84 fl_X4_51 rfl rfl (by decide) rfl e41 dX4_compareExactly_39 ?_
      refine pm_iload hC 4 dX4_compareExactly_42 rfl ?_
      refine pm_laload (len := 60) (v := y42) hC 85 rfl rfl (by decide) ⟨by exact ow_79e_32 b21, by exact ow_79e_164 h0 c34⟩ (by decide) e43 dX4_compareExactly_44 ?_
      refine pm_aload_n hC 1 (by decide) dX4_compareExactly_45 rfl ?_
      refine pm_getf (v := 86) hC 84 fl_X4_55 rfl rfl (by decide) rfl e45 dX4_compareExactly_46 ?_
      refine pm_iload hC 4 dX4_compareExactly_49 rfl ?_
      refine pm_laload (len := 60) (v := y46) hC 86 rfl rfl (by decide) ⟨by exact ow_79e_32 b21, by exact ow_79e_164 h0 c34⟩ (by decide) e47 dX4_compareExactly_51 ?_
      refine pm_lmul hC dX4_compareExactly_52 ?_
      refine pm_wrL hC (fun y52 hw54 b53 => ?_)
      have b53 := And.intro b53.1 b53.2
      refine pm_lcmp hC ⟨by exact ow_79e_14 b50, by exact ow_79e_15 b50⟩ ⟨by exact ow_79e_14 b53, by exact ow_79e_15 b53⟩ dX4_compareExactly_53 (fun y55 b56 => ?_)
      refine pm_if_eq (tgt := 113) hC ⟨by exact ow_79e_228 b56, by exact ow_79e_229 b56⟩ dX4_compareExactly_54 (by decide) (fun c57 => ?_) (fun c57 => ?_)
      · skip
        obtain ⟨x58, ei59⟩ : ∃ y : Int, x20 + 1 = y := ⟨_, rfl⟩
        refine pm_iinc (y := x58) (lv' := [(4, (0, x58)), (0, (3, 78)), (1, (3, 84)), (2, (3, 84)), (3, (0, a1))]) hC 4 dX4_compareExactly_113 (by decide) rfl ei59 rfl ?_
        refine pm_goto (tgt := 17) hC dX4_compareExactly_116 (by decide) ?_
        refine pm_lvsub [1, 2, 3, 4, 0] (lv' := [(0, (3, 78)), (1, (3, 84)), (2, (3, 84)), (3, (0, a1)), (4, (0, x58))]) rfl ?_
        exact ih33 _ (by exact ow_79e_252 h0 hm31 c34 ei59) x58 V22 ⟨by exact ow_79e_169 b21 ei59, by exact ow_79e_170 h0 c34 ei59⟩ hV23 hF24 e25 e26 rfl
      · skip
        refine pm_aload_n hC 0 (by decide) dX4_compareExactly_57 rfl ?_
        refine pm_getf (v := 79) hC 78 fl_X4_10 rfl rfl (by decide) rfl e25 dX4_compareExactly_58 ?_
        refine pm_aload_n hC 1 (by decide) dX4_compareExactly_61 rfl ?_
        refine pm_getf (v := 85) hC 84 fl_X4_51 rfl rfl (by decide) rfl e41 dX4_compareExactly_62 ?_
        refine pm_iload hC 4 dX4_compareExactly_65 rfl ?_
        refine pm_laload (len := 60) (v := y42) hC 85 rfl rfl (by decide) ⟨by exact ow_79e_32 b21, by exact ow_79e_164 h0 c34⟩ (by decide) e43 dX4_compareExactly_67 ?_
        refine pm_callV (ci := 1) (as := [(1, y42)]) (st := []) hC 79 (uD_X1_times_79 y42 ⟨by exact ow_79e_14 b44, by exact ow_79e_15 b44⟩) lm_X4_65 li_X1_times (by decide) (by decide) rfl rfl rfl (by decide) rfl rfl (Nat.le_of_ble_eq_true rfl) ⟨Nat.le_refl _, Or.inl rfl⟩ dX4_compareExactly_68 ⟨rfl, hV23⟩ (fun r60 V61 hp62 => ?_)
        obtain ⟨rfl, hV63, hF64⟩ := hp62
        change pm_J X 71 [(0, (3, 78)), (1, (3, 84)), (2, (3, 84)), (3, (0, a1)), (4, (0, x20))] [] 118 V61
        have hF66 := pm_ff.tr hF24 hF64 (by decide) (by decide)
        have e67 : V61 78 0 = 79 := by rw [hF64 78 0 (by decide) (by decide)]; exact e25
        have e68 : V61 78 1 = 81 := by rw [hF64 78 1 (by decide) (by decide)]; exact e26
        have e69 : V61 84 1 = 85 := by rw [hF64 84 1 (by decide) (by decide)]; exact e41
        have e70 : V61 84 2 = 86 := by rw [hF64 84 2 (by decide) (by decide)]; exact e45
        refine pm_aload_n hC 0 (by decide) dX4_compareExactly_71 rfl ?_
        refine pm_getf (v := 79) hC 78 fl_X4_10 rfl rfl (by decide) rfl e67 dX4_compareExactly_72 ?_
        refine pm_aload_n hC 2 (by decide) dX4_compareExactly_75 rfl ?_
        refine pm_getf (v := 86) hC 84 fl_X4_55 rfl rfl (by decide) rfl e70 dX4_compareExactly_76 ?_
        refine pm_iload hC 4 dX4_compareExactly_79 rfl ?_
        obtain ⟨y71, e72⟩ : ∃ y, V61 86 (x20 : Int).toNat = y := ⟨_, rfl⟩
        have b73 := hV63.get 86 (x20 : Int).toNat (lo := (-9223372036854775808)) (hi := 9223372036854775807) (by decide) (show _ < 60 by exact ow_79e_163 h0 c34) rfl
        rw [e72] at b73
        refine pm_laload (len := 60) (v := y71) hC 86 rfl rfl (by decide) ⟨by exact ow_79e_32 b21, by exact ow_79e_164 h0 c34⟩ (by decide) e72 dX4_compareExactly_81 ?_
        refine pm_callV (ci := 1) (as := [(1, y71)]) (st := []) hC 79 (uD_X1_times_79 y71 ⟨by exact ow_79e_14 b73, by exact ow_79e_15 b73⟩) lm_X4_65 li_X1_times (by decide) (by decide) rfl rfl rfl (by decide) rfl rfl (Nat.le_of_ble_eq_true rfl) ⟨Nat.le_refl _, Or.inl rfl⟩ dX4_compareExactly_82 ⟨rfl, hV63⟩ (fun r74 V75 hp76 => ?_)
        obtain ⟨rfl, hV77, hF78⟩ := hp76
        change pm_J X 85 [(0, (3, 78)), (1, (3, 84)), (2, (3, 84)), (3, (0, a1)), (4, (0, x20))] [] 118 V75
        have hF80 := pm_ff.tr hF66 hF78 (by decide) (by decide)
        have e81 : V75 78 0 = 79 := by rw [hF78 78 0 (by decide) (by decide)]; exact e67
        have e82 : V75 78 1 = 81 := by rw [hF78 78 1 (by decide) (by decide)]; exact e68
        have e83 : V75 84 1 = 85 := by rw [hF78 84 1 (by decide) (by decide)]; exact e69
        have e84 : V75 84 2 = 86 := by rw [hF78 84 2 (by decide) (by decide)]; exact e70
        refine pm_aload_n hC 0 (by decide) dX4_compareExactly_85 rfl ?_
        refine pm_getf (v := 81) hC 78 fl_X4_16 rfl rfl (by decide) rfl e82 dX4_compareExactly_86 ?_
        refine pm_aload_n hC 2 (by decide) dX4_compareExactly_89 rfl ?_
        refine pm_getf (v := 85) hC 84 fl_X4_51 rfl rfl (by decide) rfl e83 dX4_compareExactly_90 ?_
        refine pm_iload hC 4 dX4_compareExactly_93 rfl ?_
        obtain ⟨y85, e86⟩ : ∃ y, V75 85 (x20 : Int).toNat = y := ⟨_, rfl⟩
        have b87 := hV77.get 85 (x20 : Int).toNat (lo := (-9223372036854775808)) (hi := 9223372036854775807) (by decide) (show _ < 60 by exact ow_79e_163 h0 c34) rfl
        rw [e86] at b87
        refine pm_laload (len := 60) (v := y85) hC 85 rfl rfl (by decide) ⟨by exact ow_79e_32 b21, by exact ow_79e_164 h0 c34⟩ (by decide) e86 dX4_compareExactly_95 ?_
        refine pm_callV (ci := 1) (as := [(1, y85)]) (st := []) hC 81 (uD_X1_times_81 y85 ⟨by exact ow_79e_14 b87, by exact ow_79e_15 b87⟩) lm_X4_65 li_X1_times (by decide) (by decide) rfl rfl rfl (by decide) rfl rfl (Nat.le_of_ble_eq_true rfl) ⟨Nat.le_refl _, Or.inl rfl⟩ dX4_compareExactly_96 ⟨rfl, hV77⟩ (fun r88 V89 hp90 => ?_)
        obtain ⟨rfl, hV91, hF92⟩ := hp90
        change pm_J X 99 [(0, (3, 78)), (1, (3, 84)), (2, (3, 84)), (3, (0, a1)), (4, (0, x20))] [] 118 V89
        have hF94 := pm_ff.tr hF80 hF92 (by decide) (by decide)
        have e95 : V89 78 0 = 79 := by rw [hF92 78 0 (by decide) (by decide)]; exact e81
        have e96 : V89 78 1 = 81 := by rw [hF92 78 1 (by decide) (by decide)]; exact e82
        have e97 : V89 84 1 = 85 := by rw [hF92 84 1 (by decide) (by decide)]; exact e83
        have e98 : V89 84 2 = 86 := by rw [hF92 84 2 (by decide) (by decide)]; exact e84
        refine pm_aload_n hC 0 (by decide) dX4_compareExactly_99 rfl ?_
        refine pm_getf (v := 81) hC 78 fl_X4_16 rfl rfl (by decide) rfl e96 dX4_compareExactly_100 ?_
        refine pm_aload_n hC 1 (by decide) dX4_compareExactly_103 rfl ?_
        refine pm_getf (v := 86) hC 84 fl_X4_55 rfl rfl (by decide) rfl e98 dX4_compareExactly_104 ?_
        refine pm_iload hC 4 dX4_compareExactly_107 rfl ?_
        obtain ⟨y99, e100⟩ : ∃ y, V89 86 (x20 : Int).toNat = y := ⟨_, rfl⟩
        have b101 := hV91.get 86 (x20 : Int).toNat (lo := (-9223372036854775808)) (hi := 9223372036854775807) (by decide) (show _ < 60 by exact ow_79e_163 h0 c34) rfl
        rw [e100] at b101
        refine pm_laload (len := 60) (v := y99) hC 86 rfl rfl (by decide) ⟨by exact ow_79e_32 b21, by exact ow_79e_164 h0 c34⟩ (by decide) e100 dX4_compareExactly_109 ?_
        refine pm_callV (ci := 1) (as := [(1, y99)]) (st := []) hC 81 (uD_X1_times_81 y99 ⟨by exact ow_79e_14 b101, by exact ow_79e_15 b101⟩) lm_X4_65 li_X1_times (by decide) (by decide) rfl rfl rfl (by decide) rfl rfl (Nat.le_of_ble_eq_true rfl) ⟨Nat.le_refl _, Or.inl rfl⟩ dX4_compareExactly_110 ⟨rfl, hV91⟩ (fun r102 V103 hp104 => ?_)
        obtain ⟨rfl, hV105, hF106⟩ := hp104
        change pm_J X 113 [(0, (3, 78)), (1, (3, 84)), (2, (3, 84)), (3, (0, a1)), (4, (0, x20))] [] 118 V103
        have hF108 := pm_ff.tr hF94 hF106 (by decide) (by decide)
        have e109 : V103 78 0 = 79 := by rw [hF106 78 0 (by decide) (by decide)]; exact e95
        have e110 : V103 78 1 = 81 := by rw [hF106 78 1 (by decide) (by decide)]; exact e96
        have e111 : V103 84 1 = 85 := by rw [hF106 84 1 (by decide) (by decide)]; exact e97
        have e112 : V103 84 2 = 86 := by rw [hF106 84 2 (by decide) (by decide)]; exact e98
        obtain ⟨x113, ei114⟩ : ∃ y : Int, x20 + 1 = y := ⟨_, rfl⟩
        refine pm_iinc (y := x113) (lv' := [(4, (0, x113)), (0, (3, 78)), (1, (3, 84)), (2, (3, 84)), (3, (0, a1))]) hC 4 dX4_compareExactly_113 (by decide) rfl ei114 rfl ?_
        refine pm_goto (tgt := 17) hC dX4_compareExactly_116 (by decide) ?_
        refine pm_lvsub [1, 2, 3, 4, 0] (lv' := [(0, (3, 78)), (1, (3, 84)), (2, (3, 84)), (3, (0, a1)), (4, (0, x113))]) rfl ?_
        exact ih33 _ (by exact ow_79e_252 h0 hm31 c34 ei114) x113 V103 ⟨by exact ow_79e_169 b21 ei114, by exact ow_79e_170 h0 c34 ei114⟩ hV105 hF108 e109 e110 rfl
  refine pm_lvsub [1, 2, 3, 4, 0] (lv' := [(0, (3, 78)), (1, (3, 84)), (2, (3, 84)), (3, (0, a1)), (4, (0, 0))]) rfl ?_
  exact L30 _ 0 V12 ⟨by decide, by decide⟩ hV14 hF17 e18 e19 rfl
set_option maxHeartbeats 4000000 in
set_option maxRecDepth 100000 in
theorem uD_X4_compareProducts_78_84_84  : pm_K 3 yX4_compareProducts cX4_compareProducts 8 (some .int) (fun av V => av = [(3, 78), (3, 84), (3, 84)] ∧ pm_ok 0 90 V) (fun _ V r V' => ∃ y, r = some (0, y) ∧ ((-1) ≤ y ∧ y ≤ 1) ∧ pm_ok 0 90 V' ∧ pm_ff [80, 82] [(79, 1), (81, 1)] V V') := by
  refine pm_MT.of (by decide) ⟨Nat.le_refl _, by decide⟩ (fun av V h => by rw [h.1]; exact (by decide : pm_words [(3, 0), (3, 0), (3, 0)] ≤ 8)) ?_
  rintro X av V0 hC - hR ⟨rfl, hV0⟩
  change pm_J X 0 [(0, (3, 78)), (1, (3, 84)), (2, (3, 84))] [] 118 V0
  refine pm_aload_n hC 1 (by decide) dX4_compareProducts_0 rfl ?_
  refine pm_callV (ci := 0) (as := []) (st := []) hC 84 uD_X0_isNever_84 lm_X4_19 li_X0_isNever (by decide) (by decide) rfl rfl rfl (by decide) rfl rfl (Nat.le_of_ble_eq_true rfl) ⟨Nat.le_refl _, Or.inl rfl⟩ dX4_compareProducts_1 ⟨rfl, hV0⟩ (fun r1 V2 hp3 => ?_)
  obtain ⟨y4, rfl, b5, rfl⟩ := hp3
  change pm_J X 4 [(0, (3, 78)), (1, (3, 84)), (2, (3, 84))] [(0, y4)] 118 V0
  refine pm_istore_n (lv' := [(3, (0, y4)), (0, (3, 78)), (1, (3, 84)), (2, (3, 84))]) hC dX4_compareProducts_4 (by decide) rfl ?_
  refine pm_aload_n hC 3 (by decide) dX4_compareProducts_5 rfl ?_
  refine pm_callV (ci := 0) (as := []) (st := []) hC 84 uD_X0_isNever_84 lm_X4_19 li_X0_isNever (by decide) (by decide) rfl rfl rfl (by decide) rfl rfl (Nat.le_of_ble_eq_true rfl) ⟨Nat.le_refl _, Or.inl rfl⟩ dX4_compareProducts_6 ⟨rfl, hV0⟩ (fun r7 V8 hp9 => ?_)
  obtain ⟨y10, rfl, b11, rfl⟩ := hp9
  change pm_J X 9 [(3, (0, y4)), (0, (3, 78)), (1, (3, 84)), (2, (3, 84))] [(0, y10)] 118 V0
  refine pm_istore (lv' := [(4, (0, y10)), (3, (0, y4)), (0, (3, 78)), (1, (3, 84)), (2, (3, 84))]) hC dX4_compareProducts_9 (by decide) rfl ?_
  refine pm_iload_n hC 1 dX4_compareProducts_11 rfl ?_
  refine pm_if_ne (tgt := 20) hC ⟨by exact ow_79e_139 b5, by exact ow_79e_140 b5⟩ dX4_compareProducts_12 (by decide) (fun c13 => ?_) (fun c13 => ?_)
  · skip
    refine pm_iload hC 0 dX4_compareProducts_20 rfl ?_
    refine pm_if_eq (tgt := 29) hC ⟨by exact ow_79e_139 b11, by exact ow_79e_140 b11⟩ dX4_compareProducts_22 (by decide) (fun c14 => ?_) (fun c14 => ?_)
    · skip
      refine pm_iconst (v := 0) hC dX4_compareProducts_29 ?_
      refine pm_iload_n hC 1 dX4_compareProducts_30 rfl ?_
      refine pm_if_eq (tgt := 38) hC ⟨by exact ow_79e_139 b5, by exact ow_79e_140 b5⟩ dX4_compareProducts_31 (by decide) (fun c15 => ?_) (fun c15 => ?_)
      · skip
        exfalso; exact ow_79e_253 b5 c13 c15
      · skip
        refine pm_iconst (v := 1) hC dX4_compareProducts_34 ?_
        refine pm_goto (tgt := 39) hC dX4_compareProducts_35 (by decide) ?_
        refine pm_isub hC dX4_compareProducts_39 ?_
        change pm_J X 40 [(4, (0, y10)), (3, (0, y4)), (0, (3, 78)), (1, (3, 84)), (2, (3, 84))] [(0, (-1))] 118 V0
        exact pm_iret hC hR pm_nar0 ⟨(-1), rfl, ⟨by exact ow_79e_10, by exact ow_79e_233⟩, hV0, (pm_ff.rf (cs := [80, 82]) (fs := [(79, 1), (81, 1)]) (V := V0))⟩ dX4_compareProducts_40
    · skip
      refine pm_iconst (v := 1) hC dX4_compareProducts_25 ?_
      refine pm_goto (tgt := 30) hC dX4_compareProducts_26 (by decide) ?_
      refine pm_iload_n hC 1 dX4_compareProducts_30 rfl ?_
      refine pm_if_eq (tgt := 38) hC ⟨by exact ow_79e_139 b5, by exact ow_79e_140 b5⟩ dX4_compareProducts_31 (by decide) (fun c16 => ?_) (fun c16 => ?_)
      · skip
        exfalso; exact ow_79e_253 b5 c13 c16
      · skip
        refine pm_iconst (v := 1) hC dX4_compareProducts_34 ?_
        refine pm_goto (tgt := 39) hC dX4_compareProducts_35 (by decide) ?_
        refine pm_isub hC dX4_compareProducts_39 ?_
        change pm_J X 40 [(4, (0, y10)), (3, (0, y4)), (0, (3, 78)), (1, (3, 84)), (2, (3, 84))] [(0, 0)] 118 V0
        exact pm_iret hC hR pm_nar0 ⟨0, rfl, ⟨by exact ow_79e_225, by exact ow_79e_68⟩, hV0, (pm_ff.rf (cs := [80, 82]) (fs := [(79, 1), (81, 1)]) (V := V0))⟩ dX4_compareProducts_40
  · skip
    refine pm_iload hC 0 dX4_compareProducts_15 rfl ?_
    refine pm_if_eq (tgt := 41) hC ⟨by exact ow_79e_139 b11, by exact ow_79e_140 b11⟩ dX4_compareProducts_17 (by decide) (fun c17 => ?_) (fun c17 => ?_)
    · skip
      refine pm_aload_n hC 3 (by decide) dX4_compareProducts_41 rfl ?_
      obtain ⟨y18, e19⟩ : ∃ y, V0 84 0 = y := ⟨_, rfl⟩
      have b20 := hV0.get 84 0 (lo := 0) (hi := 60) (by decide) (by decide) rfl
      rw [e19] at b20
      refine pm_getf (v := y18) hC 84 fl_X4_25 rfl rfl (by decide) rfl e19 dX4_compareProducts_42 ?_
      refine pm_aload_n hC 4 (by decide) dX4_compareProducts_45 rfl ?_
      refine pm_getf (v := y18) hC 84 fl_X4_25 rfl rfl (by decide) rfl e19 dX4_compareProducts_46 ?_
      refine pm_mmin hC 4159 4160 1018 4161 ⟨by exact ow_79e_29 b20, by exact ow_79e_30 b20⟩ ⟨by exact ow_79e_29 b20, by exact ow_79e_30 b20⟩ (by decide) wL_X4_29 wS_mmin wI_math wC_mmin (Nat.le_of_ble_eq_true rfl) dX4_compareProducts_49 (fun y21 b22 => ?_)
      have he23 : pm_mn y18 y18 = y21 := pm_mn_of b22
      replace b22 : 0 ≤ y21 ∧ y21 ≤ 60 ∧ y21 ≤ y18 ∧ y21 ≤ y18 := ⟨by exact ow_79e_254 b20 b22, by exact ow_79e_255 b20 b22, b22.1, b22.2.1⟩
      refine pm_istore (lv' := [(5, (0, y21)), (4, (0, y10)), (3, (0, y4)), (0, (3, 78)), (1, (3, 84)), (2, (3, 84))]) hC dX4_compareProducts_52 (by decide) rfl ?_
      refine pm_aload_n hC 4 (by decide) dX4_compareProducts_54 rfl ?_
      refine pm_aload_n hC 5 (by decide) dX4_compareProducts_55 rfl ?_
      refine pm_iload hC 0 dX4_compareProducts_56 rfl ?_
      refine pm_callS (as := [(3, 84), (3, 84), (0, y21)]) (st := []) hC (uD_X4_roughQuotient_84_84 y21 ⟨by exact ow_79e_256 b22, by exact ow_79e_257 b22⟩) lm_X4_35 ls_X4_roughQuotient (by decide) (by decide) rfl rfl (Nat.le_of_ble_eq_true rfl) ⟨Nat.le_refl _, Or.inl rfl⟩ dX4_compareProducts_58 ⟨rfl, hV0⟩ (fun r24 V25 hp26 => ?_)
      obtain ⟨y27, rfl, b28, rfl⟩ := hp26
      change pm_J X 61 [(5, (0, y21)), (4, (0, y10)), (3, (0, y4)), (0, (3, 78)), (1, (3, 84)), (2, (3, 84))] [(2, y27)] 118 V0
      refine pm_dstore (lv' := [(6, (2, y27)), (5, (0, y21)), (4, (0, y10)), (3, (0, y4)), (0, (3, 78)), (1, (3, 84)), (2, (3, 84))]) hC dX4_compareProducts_61 (by decide) rfl ?_
      refine pm_dload hC 0 dX4_compareProducts_63 rfl ?_
      refine pm_ldc2d (v := 4607182418804521008) hC 4171 dX4_compareProducts_65 (by decide +kernel) (fun r30 => ?_)
      refine pm_dcmp hC dX4_compareProducts_68 (fun y31 b32 => ?_)
      have b32 := And.intro b32.1 b32.2
      refine pm_if_le (tgt := 74) hC ⟨by exact ow_79e_0 b32, by exact ow_79e_1 b32⟩ dX4_compareProducts_69 (by decide) (fun c33 => ?_) (fun c33 => ?_)
      · skip
        refine pm_dload hC 0 dX4_compareProducts_74 rfl ?_
        refine pm_ldc2d (v := 4607182418791010209) hC 4172 dX4_compareProducts_76 (by decide +kernel) (fun r34 => ?_)
        refine pm_dcmp hC dX4_compareProducts_79 (fun y35 b36 => ?_)
        have b36 := And.intro b36.1 b36.2
        refine pm_if_ge (tgt := 85) hC ⟨by exact ow_79e_0 b36, by exact ow_79e_1 b36⟩ dX4_compareProducts_80 (by decide) (fun c37 => ?_) (fun c37 => ?_)
        · skip
          refine pm_aload_n hC 4 (by decide) dX4_compareProducts_85 rfl ?_
          refine pm_aload_n hC 5 (by decide) dX4_compareProducts_86 rfl ?_
          refine pm_aload_n hC 6 (by decide) dX4_compareProducts_87 rfl ?_
          refine pm_iload hC 1 dX4_compareProducts_88 rfl ?_
          refine pm_callV (ci := 4) (as := [(3, 84), (3, 84), (0, y21)]) (st := []) hC 78 (uD_X4_compareExactly_78_84_84 y21 ⟨by exact ow_79e_256 b22, by exact ow_79e_257 b22⟩) lm_X4_43 li_X4_compareExactly (by decide) (by decide) rfl rfl rfl (by decide) rfl rfl (Nat.le_of_ble_eq_true rfl) ⟨Nat.le_refl _, Or.inl rfl⟩ dX4_compareProducts_90 ⟨rfl, hV0⟩ (fun r38 V39 hp40 => ?_)
          obtain ⟨y41, rfl, b42, hV43, hF44⟩ := hp40
          change pm_J X 93 [(6, (2, y27)), (5, (0, y21)), (4, (0, y10)), (3, (0, y4)), (0, (3, 78)), (1, (3, 84)), (2, (3, 84))] [(0, y41)] 118 V39
          have hF46 := pm_ff.tr (pm_ff.rf (cs := [80, 82]) (fs := [(79, 1), (81, 1)]) (V := V0)) hF44 (by decide) (by decide)
          have e47 : V39 84 0 = y18 := by rw [hF44 84 0 (by decide) (by decide)]; exact e19
          exact pm_iret hC hR pm_nar0 ⟨y41, rfl, ⟨by exact ow_79e_250 b42, by exact ow_79e_251 b42⟩, hV43, hF46⟩ dX4_compareProducts_93
        · skip
          refine pm_iconst (v := (-1)) hC dX4_compareProducts_83 ?_
          exact pm_iret hC hR pm_nar0 ⟨(-1), rfl, ⟨by exact ow_79e_10, by exact ow_79e_233⟩, hV0, (pm_ff.rf (cs := [80, 82]) (fs := [(79, 1), (81, 1)]) (V := V0))⟩ dX4_compareProducts_84
      · skip
        refine pm_iconst (v := 1) hC dX4_compareProducts_72 ?_
        exact pm_iret hC hR pm_nar0 ⟨1, rfl, ⟨by exact ow_79e_233, by exact ow_79e_71⟩, hV0, (pm_ff.rf (cs := [80, 82]) (fs := [(79, 1), (81, 1)]) (V := V0))⟩ dX4_compareProducts_73
    · skip
      refine pm_iload hC 0 dX4_compareProducts_20 rfl ?_
      refine pm_if_eq (tgt := 29) hC ⟨by exact ow_79e_139 b11, by exact ow_79e_140 b11⟩ dX4_compareProducts_22 (by decide) (fun c48 => ?_) (fun c48 => ?_)
      · skip
        exfalso; exact ow_79e_253 b11 c17 c48
      · skip
        refine pm_iconst (v := 1) hC dX4_compareProducts_25 ?_
        refine pm_goto (tgt := 30) hC dX4_compareProducts_26 (by decide) ?_
        refine pm_iload_n hC 1 dX4_compareProducts_30 rfl ?_
        refine pm_if_eq (tgt := 38) hC ⟨by exact ow_79e_139 b5, by exact ow_79e_96 c13⟩ dX4_compareProducts_31 (by decide) (fun c49 => ?_) (fun c49 => ?_)
        · skip
          refine pm_iconst (v := 0) hC dX4_compareProducts_38 ?_
          refine pm_isub hC dX4_compareProducts_39 ?_
          change pm_J X 40 [(4, (0, y10)), (3, (0, y4)), (0, (3, 78)), (1, (3, 84)), (2, (3, 84))] [(0, 1)] 118 V0
          exact pm_iret hC hR pm_nar0 ⟨1, rfl, ⟨by exact ow_79e_233, by exact ow_79e_71⟩, hV0, (pm_ff.rf (cs := [80, 82]) (fs := [(79, 1), (81, 1)]) (V := V0))⟩ dX4_compareProducts_40
        · skip
          exfalso; exact ow_79e_258 b5 c13 c49
set_option maxHeartbeats 4000000 in
set_option maxRecDepth 100000 in
theorem fD_X0_add_87 (a1 a2 : Int) (h0 : (-9223372036854775808) ≤ a1 ∧ a1 ≤ 9223372036854775807) (h1 : (-9223372036854775808) ≤ a2 ∧ a2 ≤ 9223372036854775807) : pm_K 1 yX0_add cX0_add 5 none (fun av V => av = [(3, 87), (1, a1), (1, a2)] ∧ pm_ok 0 90 V) (fun _ V r V' => r = none ∧ pm_ok 0 90 V' ∧ pm_ff [88, 89] [(87, 0)] V V' ∧ F_X0_add 87 a1 a2 V = (0, V')) := by
  refine pm_MT.of (by decide) ⟨Nat.le_refl _, by decide⟩ (fun av V h => by rw [h.1]; exact (by decide : pm_words [(3, 0), (1, 0), (1, 0)] ≤ 5)) ?_
  rintro X av V0 hC - hR ⟨rfl, hV0⟩
  change pm_J X 0 [(0, (3, 87)), (1, (1, a1)), (3, (1, a2))] [] 118 V0
  have hT := F_X0_add_eq 87 a1 a2 V0
  refine pm_aload_n hC 0 (by decide) dX0_add_0 rfl ?_
  obtain ⟨y1, e2⟩ : ∃ y, V0 87 0 = y := ⟨_, rfl⟩
  have b3 := hV0.get 87 0 (lo := 0) (hi := 60) (by decide) (by decide) rfl
  rw [e2] at b3
  replace hT := hT.trans (pf_let_eq e2)
  refine pm_getf (v := y1) hC 87 fl_X0_9 rfl rfl (by decide) rfl e2 dX0_add_1 ?_
  refine pm_bipush (v := 60) hC dX0_add_4 (by decide) ?_
  refine pm_icmp_ge (tgt := 39) hC ⟨by exact ow_79e_29 b3, by exact ow_79e_30 b3⟩ ⟨by decide, by decide⟩ dX0_add_6 (by decide) (fun c4 => ?_) (fun c4 => ?_)
  · skip
    replace hT := hT.trans (if_pos c4)
    exact pm_vret hC hR ⟨rfl, hV0, (pm_ff.rf (cs := [88, 89]) (fs := [(87, 0)]) (V := V0)), hT⟩ dX0_add_39
  · skip
    replace hT := hT.trans (if_neg (Int.not_le.mpr c4))
    refine pm_aload_n hC 0 (by decide) dX0_add_9 rfl ?_
    have e5 : V0 87 1 = 88 := hV0.one 87 1 (by decide) (by decide) rfl
    refine pm_getf (v := 88) hC 87 fl_X0_15 rfl rfl (by decide) rfl e5 dX0_add_10 ?_
    refine pm_aload_n hC 0 (by decide) dX0_add_13 rfl ?_
    refine pm_getf (v := y1) hC 87 fl_X0_9 rfl rfl (by decide) rfl e2 dX0_add_14 ?_
    refine pm_lload_n hC 1 dX0_add_17 rfl ?_
    refine pm_lastore (len := 60) hC 88 rfl rfl (by decide) ⟨by exact ow_79e_32 b3, by exact ow_79e_33 c4⟩ (by decide) dX0_add_18 ?_
    refine pm_aload_n hC 0 (by decide) dX0_add_19 rfl ?_
    have e6 : V0 87 2 = 89 := hV0.one 87 2 (by decide) (by decide) rfl
    refine pm_getf (v := 89) hC 87 fl_X0_19 rfl rfl (by decide) rfl e6 dX0_add_20 ?_
    refine pm_aload_n hC 0 (by decide) dX0_add_23 rfl ?_
    refine pm_getf (v := y1) hC 87 fl_X0_9 rfl rfl (by decide) rfl e2 dX0_add_24 ?_
    refine pm_lload_n hC 2 dX0_add_27 rfl ?_
    refine pm_lastore (len := 60) hC 89 rfl rfl (by decide) ⟨by exact ow_79e_32 b3, by exact ow_79e_33 c4⟩ (by decide) dX0_add_28 ?_
    refine pm_aload_n hC 0 (by decide) dX0_add_29 rfl ?_
    refine pm_dup hC rfl dX0_add_30 ?_
    refine pm_getf (v := y1) hC 87 fl_X0_9 rfl rfl (by decide) rfl e2 dX0_add_31 ?_
    refine pm_iconst (v := 1) hC dX0_add_34 ?_
    refine pm_iadd hC dX0_add_35 ?_
    refine pm_putf hC 87 fl_X0_9 rfl rfl rfl (by decide) rfl trivial dX0_add_36 ?_
    exact pm_vret hC hR ⟨rfl, (((hV0.put 88 (y1 : Int).toNat (x := a1) (lo := (-9223372036854775808)) (hi := 9223372036854775807) rfl ⟨by exact ow_79e_14 h0, by exact ow_79e_15 h0⟩).put 89 (y1 : Int).toNat (x := a2) (lo := (-9223372036854775808)) (hi := 9223372036854775807) rfl ⟨by exact ow_79e_14 h1, by exact ow_79e_15 h1⟩).put 87 0 (x := (y1 + 1)) (lo := 0) (hi := 60) rfl ⟨by exact ow_79e_43 b3, by exact ow_79e_44 c4⟩), ((((pm_ff.rf (cs := [88, 89]) (fs := [(87, 0)]) (V := V0)).upa 88 (y1 : Int).toNat a1 rfl).upa 89 (y1 : Int).toNat a2 rfl).upf 87 0 (y1 + 1) rfl), hT⟩ dX0_add_39
