theorem ow_79h_0 {a0 : Int} (h0 : (((-2147483648) ≤ (a0 : Int)) ∧ (a0 ≤ (2147483647 : Int)))) : ((-2147483648) ≤ (a0 : Int)) := by omega
theorem ow_79h_1 {a0 : Int} (h0 : (((-2147483648) ≤ (a0 : Int)) ∧ (a0 ≤ (2147483647 : Int)))) : (a0 ≤ (2147483647 : Int)) := by omega
theorem ow_79h_2 {a0 a1 : Int} (h0 : ((0 ≤ (a0 : Int)) ∧ ((a0 ≤ (1 : Int)) ∧ ((a0 = (1 : Int)) → ((0 ≤ (a1 : Int)) ∧ (a1 ≤ (6 : Int))))))) : ((-2147483648) ≤ (a0 : Int)) := by omega
theorem ow_79h_3 {a0 a1 : Int} (h0 : ((0 ≤ (a0 : Int)) ∧ ((a0 ≤ (1 : Int)) ∧ ((a0 = (1 : Int)) → ((0 ≤ (a1 : Int)) ∧ (a1 ≤ (6 : Int))))))) : (a0 ≤ (2147483647 : Int)) := by omega
theorem ow_79h_4 (h0 : (0 < (0 : Int))) : False := by omega
theorem ow_79h_5 : ((-2147483648) ≤ ((-1) : Int)) := by omega
theorem ow_79h_6 : ((-1) ≤ (2147483647 : Int)) := by omega
theorem ow_79h_7 (h0 : ¬((0 = (0 : Int)))) : False := by omega
theorem ow_79h_8 {a0 a1 : Int} (h0 : ((0 ≤ (a0 : Int)) ∧ ((a0 ≤ (1 : Int)) ∧ ((a0 = (1 : Int)) → (((-1) ≤ (a1 : Int)) ∧ (a1 ≤ (3 : Int))))))) : ((-2147483648) ≤ (a0 : Int)) := by omega
theorem ow_79h_9 {a0 a1 : Int} (h0 : ((0 ≤ (a0 : Int)) ∧ ((a0 ≤ (1 : Int)) ∧ ((a0 = (1 : Int)) → (((-1) ≤ (a1 : Int)) ∧ (a1 ≤ (3 : Int))))))) : (a0 ≤ (2147483647 : Int)) := by omega
theorem ow_79h_10 {a0 a1 : Int} (h0 : ((0 ≤ (a0 : Int)) ∧ ((a0 ≤ (1 : Int)) ∧ ((a0 = (1 : Int)) → ((0 ≤ (a1 : Int)) ∧ (a1 ≤ (3 : Int))))))) : ((-2147483648) ≤ (a0 : Int)) := by omega
theorem ow_79h_11 {a0 a1 : Int} (h0 : ((0 ≤ (a0 : Int)) ∧ ((a0 ≤ (1 : Int)) ∧ ((a0 = (1 : Int)) → ((0 ≤ (a1 : Int)) ∧ (a1 ≤ (3 : Int))))))) : (a0 ≤ (2147483647 : Int)) := by omega
theorem ow_79h_12 (h0 : (1 = (0 : Int))) : False := by omega
theorem ow_79h_13 {a0 : Int} (h0 : ((0 ≤ (a0 : Int)) ∧ (a0 ≤ (60 : Int)))) : ((-2147483648) ≤ (a0 : Int)) := by omega
theorem ow_79h_14 {a0 : Int} (h0 : ((0 ≤ (a0 : Int)) ∧ (a0 ≤ (60 : Int)))) : (a0 ≤ (2147483647 : Int)) := by omega
theorem ow_79h_15 {a0 : Int} (h0 : (0 < (a0 : Int))) : ((-2147483648) ≤ (a0 : Int)) := by omega
theorem ow_79h_16 {a0 : Int} (h0 : (0 < (a0 : Int))) : (a0 ≠ (0 : Int)) := by omega
theorem ow_79h_17 {a0 : Int} (h0 : ((0 ≤ (a0 : Int)) ∧ (a0 ≤ (60 : Int)))) : (0 ≤ (a0 : Int)) := by omega
theorem ow_79h_18 {a0 a1 : Int} (h0 : ((0 ≤ (a0 : Int)) ∧ (a0 ≤ (60 : Int)))) (h1 : (a1 < (a0 : Int))) : (a1 ≤ (59 : Int)) := by omega
theorem ow_79h_19 {a0 : Int} (h0 : ((0 ≤ (a0 : Int)) ∧ (a0 ≤ (1 : Int)))) : ((-2147483648) ≤ (a0 : Int)) := by omega
theorem ow_79h_20 {a0 : Int} (h0 : ((0 ≤ (a0 : Int)) ∧ (a0 ≤ (1 : Int)))) : (a0 ≤ (2147483647 : Int)) := by omega
theorem ow_79h_21 {a0 a2 a3 : Int} {k1 : Nat} (h0 : (((60 - a0) : Int).toNat = (k1 : Nat))) (h1 : ((0 ≤ (a2 : Int)) ∧ (a2 ≤ (60 : Int)))) (h2 : (a0 < (a2 : Int))) (h3 : ((a0 + 1) = (a3 : Int))) : (((60 - a3) : Int).toNat < (k1 : Nat)) := by omega
theorem ow_79h_22 {a0 a1 : Int} (h0 : ((0 ≤ (a0 : Int)) ∧ (a0 ≤ (60 : Int)))) (h1 : ((a0 + 1) = (a1 : Int))) : (0 ≤ (a1 : Int)) := by omega
theorem ow_79h_23 {a0 a1 a2 : Int} (h0 : ((0 ≤ (a0 : Int)) ∧ (a0 ≤ (60 : Int)))) (h1 : (a1 < (a0 : Int))) (h2 : ((a1 + 1) = (a2 : Int))) : (a2 ≤ (60 : Int)) := by omega
theorem ow_79h_24 {a0 a1 : Int} (h0 : ((0 ≤ (a0 : Int)) ∧ (a0 ≤ (60 : Int)))) (h1 : (a1 < (a0 : Int))) : ((a1 : Int).toNat < (60 : Nat)) := by omega
theorem ow_79h_25 {a0 a1 : Int} (h0 : ((0 ≤ (a0 : Int)) ∧ (a0 ≤ (60 : Int)))) (h1 : (a1 < (a0 : Int))) : (a1 < (((60 : Nat) : Int) : Int)) := by omega
theorem ow_79h_26 {a0 : Int} (h0 : ((0 ≤ (a0 : Int)) ∧ ((a0 ≤ (999 : Int)) ∧ (((a0 % 10) ≤ (8 : Int)) ∧ (((a0 / 10) % 10) ≤ (8 : Int)))))) : (0 ≤ (a0 : Int)) := by omega
theorem ow_79h_27 {a0 : Int} (h0 : ((0 ≤ (a0 : Int)) ∧ ((a0 ≤ (999 : Int)) ∧ (((a0 % 10) ≤ (8 : Int)) ∧ (((a0 / 10) % 10) ≤ (8 : Int)))))) : (a0 ≤ (999 : Int)) := by omega
theorem ow_79h_28 {a0 : Int} (h0 : ((0 ≤ (a0 : Int)) ∧ (a0 ≤ (99 : Int)))) : (0 ≤ (a0 : Int)) := by omega
theorem ow_79h_29 {a0 : Int} (h0 : ((0 ≤ (a0 : Int)) ∧ (a0 ≤ (99 : Int)))) : (a0 ≤ (99 : Int)) := by omega
theorem ow_79h_30 {a0 : Int} (h0 : (((-99) ≤ (a0 : Int)) ∧ (a0 ≤ (99 : Int)))) : ((-99) ≤ (a0 : Int)) := by omega
theorem ow_79h_31 {a0 : Int} (h0 : (((-99) ≤ (a0 : Int)) ∧ (a0 ≤ (99 : Int)))) : (a0 ≤ (99 : Int)) := by omega
theorem ow_79h_32 {a0 : Int} (h0 : ((0 ≤ (a0 : Int)) ∧ ((a0 ≤ (999 : Int)) ∧ (((a0 % 10) ≤ (8 : Int)) ∧ (((a0 / 10) % 10) ≤ (8 : Int)))))) : (((a0 % 10) ≤ (8 : Int)) ∧ (((a0 / 10) % 10) ≤ (8 : Int))) := by omega
theorem ow_79h_33 {a0 a1 : Int} (h0 : ((0 ≤ (a0 : Int)) ∧ ((a0 ≤ (1 : Int)) ∧ ((a0 = (1 : Int)) → ((0 ≤ (a1 : Int)) ∧ (a1 ≤ (3 : Int))))))) (h1 : ¬((a0 = (0 : Int)))) (h2 : (a1 = (4 : Int))) : False := by omega
theorem ow_79h_34 {a0 : Int} (h0 : (a0 = (4 : Int))) : ((-2147483648) ≤ (a0 : Int)) := by omega
theorem ow_79h_35 {a0 : Int} (h0 : (a0 = (4 : Int))) : (a0 ≤ (2147483647 : Int)) := by omega
theorem ow_79h_36 {a0 : Int} (h0 : (a0 = (4 : Int))) (h1 : ¬((a0 = (4 : Int)))) : False := by omega
theorem ow_79h_37 {a0 : Int} (h0 : ((0 ≤ (a0 : Int)) ∧ (a0 ≤ (999 : Int)))) : (0 ≤ (a0 : Int)) := by omega
theorem ow_79h_38 {a0 : Int} (h0 : ((0 ≤ (a0 : Int)) ∧ (a0 ≤ (999 : Int)))) : ((-2147483648) ≤ (a0 : Int)) := by omega
theorem ow_79h_39 {a0 : Int} (h0 : ((0 ≤ (a0 : Int)) ∧ (a0 ≤ (999 : Int)))) : (a0 ≤ (2147483647 : Int)) := by omega
theorem ow_79h_40 {a0 : Int} (h0 : ((0 ≤ (a0 : Int)) ∧ (a0 ≤ (999 : Int)))) (h1 : (((a0 % 10) ≤ (8 : Int)) ∧ (((a0 / 10) % 10) ≤ (8 : Int)))) : (0 ≤ ((a0 / 10) : Int)) := by omega
theorem ow_79h_41 {a0 : Int} (h0 : ((0 ≤ (a0 : Int)) ∧ (a0 ≤ (999 : Int)))) (h1 : (((a0 % 10) ≤ (8 : Int)) ∧ (((a0 / 10) % 10) ≤ (8 : Int)))) : ((-2147483648) ≤ ((a0 / 10) : Int)) := by omega
theorem ow_79h_42 {a0 : Int} (h0 : ((0 ≤ (a0 : Int)) ∧ (a0 ≤ (999 : Int)))) : ((a0 / 10) ≤ (2147483647 : Int)) := by omega
theorem ow_79h_43 {a0 : Int} : ((-2147483648) ≤ (((a0 / 10) % 10) : Int)) := by omega
theorem ow_79h_44 {a0 : Int} (h0 : (((a0 % 10) ≤ (8 : Int)) ∧ (((a0 / 10) % 10) ≤ (8 : Int)))) : (((a0 / 10) % 10) ≤ (2147483647 : Int)) := by omega
theorem ow_79h_45 {a0 : Int} : ((-2147483648) ≤ ((a0 % 10) : Int)) := by omega
theorem ow_79h_46 {a0 : Int} (h0 : (((a0 % 10) ≤ (8 : Int)) ∧ (((a0 / 10) % 10) ≤ (8 : Int)))) : ((a0 % 10) ≤ (2147483647 : Int)) := by omega
theorem ow_79h_47 {a0 : Int} (h0 : ((0 ≤ (a0 : Int)) ∧ (a0 ≤ (999 : Int)))) : (a0 ≤ (999 : Int)) := by omega
theorem ow_79h_48 {a0 : Int} (h0 : (((a0 % 10) ≤ (8 : Int)) ∧ (((a0 / 10) % 10) ≤ (8 : Int)))) : (((a0 % 10) ≤ (8 : Int)) ∧ (((a0 / 10) % 10) ≤ (8 : Int))) := by omega
theorem ow_79h_49 {a0 : Int} (h0 : ((0 ≤ (a0 : Int)) ∧ (a0 ≤ (2147483647 : Int)))) : (0 ≤ (a0 : Int)) := by omega
theorem ow_79h_50 {a0 : Int} (h0 : ((0 ≤ (a0 : Int)) ∧ (a0 ≤ (2147483647 : Int)))) : ((-2147483648) ≤ (a0 : Int)) := by omega
theorem ow_79h_51 {a0 : Int} (h0 : ((0 ≤ (a0 : Int)) ∧ (a0 ≤ (2147483647 : Int)))) : (a0 ≤ (2147483647 : Int)) := by omega
theorem ow_79h_52 {a0 : Int} : ((a0 % 10) ≤ (2147483647 : Int)) := by omega
theorem ow_79h_53 {a0 : Int} (h0 : ((0 ≤ (a0 : Int)) ∧ (a0 ≤ (8 : Int)))) : ((-2147483648) ≤ (a0 : Int)) := by omega
theorem ow_79h_54 {a0 : Int} (h0 : ((0 ≤ (a0 : Int)) ∧ (a0 ≤ (8 : Int)))) : (a0 ≤ (2147483647 : Int)) := by omega
theorem ow_79h_55 {a0 : Int} (h0 : ((0 ≤ (a0 : Int)) ∧ (a0 ≤ (3 : Int)))) : ((-2147483648) ≤ (a0 : Int)) := by omega
theorem ow_79h_56 {a0 : Int} (h0 : ((0 ≤ (a0 : Int)) ∧ (a0 ≤ (3 : Int)))) : (a0 ≤ (2147483647 : Int)) := by omega
theorem ow_79h_57 {a0 : Int} (h0 : ((0 ≤ (a0 : Int)) ∧ (a0 ≤ (2147483647 : Int)))) : ((-2147483648) ≤ ((a0 / 10) : Int)) := by omega
theorem ow_79h_58 {a0 : Int} (h0 : ((0 ≤ (a0 : Int)) ∧ (a0 ≤ (2147483647 : Int)))) : ((a0 / 10) ≤ (2147483647 : Int)) := by omega
theorem ow_79h_59 : ((0 = (0 : Int)) ∨ (0 = (1 : Int))) := by omega
theorem ow_79h_60 : (0 ≤ (0 : Int)) := by omega
theorem ow_79h_61 : (0 ≤ (1 : Int)) := by omega
theorem ow_79h_62 : ((1 = (0 : Int)) ∨ (1 = (1 : Int))) := by omega
theorem ow_79h_63 : (1 ≤ (1 : Int)) := by omega
theorem ow_79h_64 : ((-1) ≤ ((-1) : Int)) := by omega
theorem ow_79h_65 : ((-1) ≤ (88 : Int)) := by omega
theorem ow_79h_66 {a0 : Int} (h0 : (0 ≤ (a0 : Int))) : (0 ≤ (a0 : Int)) := by omega
theorem ow_79h_67 {a0 : Int} (h0 : (0 ≤ (a0 : Int))) : ((-2147483648) ≤ (a0 : Int)) := by omega
theorem ow_79h_68 {a0 : Int} (h0 : (0 ≤ (a0 : Int))) : ((-2147483648) ≤ ((a0 / 10) : Int)) := by omega
theorem ow_79h_69 {a0 : Int} (h0 : (((-2147483648) ≤ (a0 : Int)) ∧ (a0 ≤ (2147483647 : Int)))) : ((a0 / 10) ≤ (2147483647 : Int)) := by omega
theorem ow_79h_70 {a0 a1 : Int} (h0 : ((0 ≤ (a0 : Int)) ∧ ((a0 ≤ (1 : Int)) ∧ ((a0 = (1 : Int)) → ((0 ≤ ((a1 / 10) : Int)) ∧ ((a1 / 10) ≤ (3 : Int))))))) : ((-2147483648) ≤ (a0 : Int)) := by omega
theorem ow_79h_71 {a0 a1 : Int} (h0 : ((0 ≤ (a0 : Int)) ∧ ((a0 ≤ (1 : Int)) ∧ ((a0 = (1 : Int)) → ((0 ≤ ((a1 / 10) : Int)) ∧ ((a1 / 10) ≤ (3 : Int))))))) : (a0 ≤ (2147483647 : Int)) := by omega
theorem ow_79h_72 {a0 a1 : Int} (h0 : ((0 ≤ (a0 : Int)) ∧ ((a0 ≤ (1 : Int)) ∧ ((a0 = (1 : Int)) → ((0 ≤ ((a1 % 10) : Int)) ∧ ((a1 % 10) ≤ (6 : Int))))))) : ((-2147483648) ≤ (a0 : Int)) := by omega
theorem ow_79h_73 {a0 a1 : Int} (h0 : ((0 ≤ (a0 : Int)) ∧ ((a0 ≤ (1 : Int)) ∧ ((a0 = (1 : Int)) → ((0 ≤ ((a1 % 10) : Int)) ∧ ((a1 % 10) ≤ (6 : Int))))))) : (a0 ≤ (2147483647 : Int)) := by omega
theorem ow_79h_74 {a0 a1 : Int} (h0 : ((0 ≤ (a0 : Int)) ∧ ((a0 ≤ (1 : Int)) ∧ ((a0 = (1 : Int)) → ((0 ≤ (a1 : Int)) ∧ (a1 ≤ (9 : Int))))))) : ((-2147483648) ≤ (a0 : Int)) := by omega
theorem ow_79h_75 {a0 a1 : Int} (h0 : ((0 ≤ (a0 : Int)) ∧ ((a0 ≤ (1 : Int)) ∧ ((a0 = (1 : Int)) → ((0 ≤ (a1 : Int)) ∧ (a1 ≤ (9 : Int))))))) : (a0 ≤ (2147483647 : Int)) := by omega
theorem ow_79h_76 {a0 a1 : Int} (h0 : ((0 ≤ (a0 : Int)) ∧ ((a0 ≤ (1 : Int)) ∧ ((a0 = (1 : Int)) → ((0 ≤ (a1 : Int)) ∧ (a1 ≤ (99 : Int))))))) : ((-2147483648) ≤ (a0 : Int)) := by omega
theorem ow_79h_77 {a0 a1 : Int} (h0 : ((0 ≤ (a0 : Int)) ∧ ((a0 ≤ (1 : Int)) ∧ ((a0 = (1 : Int)) → ((0 ≤ (a1 : Int)) ∧ (a1 ≤ (99 : Int))))))) : (a0 ≤ (2147483647 : Int)) := by omega
theorem ow_79h_78 {a0 a1 : Int} (h0 : ((0 ≤ (a0 : Int)) ∧ ((a0 ≤ (1 : Int)) ∧ ((a0 = (1 : Int)) → (((-99) ≤ (a1 : Int)) ∧ (a1 ≤ (99 : Int))))))) : ((-2147483648) ≤ (a0 : Int)) := by omega
theorem ow_79h_79 {a0 a1 : Int} (h0 : ((0 ≤ (a0 : Int)) ∧ ((a0 ≤ (1 : Int)) ∧ ((a0 = (1 : Int)) → (((-99) ≤ (a1 : Int)) ∧ (a1 ≤ (99 : Int))))))) : (a0 ≤ (2147483647 : Int)) := by omega
theorem ow_79h_80 {a0 a1 : Int} (h0 : ((0 ≤ (a0 : Int)) ∧ (a0 ≤ (81 : Int)))) (h1 : (a0 ≤ ((9 * a1) : Int))) : ((-2147483648) ≤ (a1 : Int)) := by omega
theorem ow_79h_81 {a0 : Int} (h0 : ((0 ≤ (a0 : Int)) ∧ (a0 ≤ (9 : Int)))) : (a0 ≤ (2147483647 : Int)) := by omega
theorem ow_79h_82 {a0 : Int} (h0 : ((0 ≤ (a0 : Int)) ∧ (a0 ≤ (9 : Int)))) : ((-2147483648) ≤ (a0 : Int)) := by omega
theorem ow_79h_83 {a0 : Int} (h0 : ((-1) ≤ (a0 : Int))) : ((-2147483648) ≤ (a0 : Int)) := by omega
theorem ow_79h_84 {a0 : Int} (h0 : ((0 ≤ (a0 : Int)) ∧ (a0 ≤ (81 : Int)))) : ((-1) ≤ (a0 : Int)) := by omega
theorem ow_79h_85 {a0 : Int} (h0 : ((0 ≤ (a0 : Int)) ∧ (a0 ≤ (81 : Int)))) : (a0 ≤ (88 : Int)) := by omega
theorem ow_79h_86 {a0 a2 a3 : Int} {k1 : Nat} (h0 : (((9 - a0) : Int).toNat = (k1 : Nat))) (h1 : ((0 ≤ (a2 : Int)) ∧ (a2 ≤ (9 : Int)))) (h2 : (a0 < (a2 : Int))) (h3 : ((a0 + 1) = (a3 : Int))) : (((9 - a3) : Int).toNat < (k1 : Nat)) := by omega
theorem ow_79h_87 {a0 : Int} (h0 : ((0 ≤ (a0 : Int)) ∧ (a0 ≤ (81 : Int)))) : (0 ≤ (a0 : Int)) := by omega
theorem ow_79h_88 {a0 : Int} (h0 : ((0 ≤ (a0 : Int)) ∧ (a0 ≤ (81 : Int)))) : (a0 ≤ (81 : Int)) := by omega
theorem ow_79h_89 {a0 a1 a2 : Int} (h0 : ((0 ≤ (a0 : Int)) ∧ (a0 ≤ (81 : Int)))) (h1 : (a0 ≤ ((9 * a1) : Int))) (h2 : ((a1 + 1) = (a2 : Int))) : (0 ≤ (a2 : Int)) := by omega
theorem ow_79h_90 {a0 a1 a2 : Int} (h0 : ((0 ≤ (a0 : Int)) ∧ (a0 ≤ (9 : Int)))) (h1 : (a1 < (a0 : Int))) (h2 : ((a1 + 1) = (a2 : Int))) : (a2 ≤ (9 : Int)) := by omega
theorem ow_79h_91 {a0 a1 a2 a3 : Int} (h0 : ((0 ≤ (a0 : Int)) ∧ (a0 ≤ (9 : Int)))) (h1 : (a1 ≤ (((9 * a2) + a0) : Int))) (h2 : ((a2 + 1) = (a3 : Int))) : (a1 ≤ ((9 * a3) : Int)) := by omega
theorem ow_79h_92 {a0 a1 a2 a3 a4 a5 : Int} (h0 : ((0 ≤ (a0 : Int)) ∧ ((a0 ≤ (1 : Int)) ∧ ((a0 = (1 : Int)) → ((0 ≤ (a1 : Int)) ∧ (a1 ≤ (9 : Int))))))) (h1 : ¬((a0 = (0 : Int)))) (h2 : ((0 ≤ (a2 : Int)) ∧ (a2 ≤ (81 : Int)))) (h3 : (a2 ≤ ((9 * a3) : Int))) (h4 : ((0 ≤ (a4 : Int)) ∧ (a4 ≤ (81 : Int)))) (h5 : (a4 ≤ (((9 * a3) + a5) : Int))) : (0 ≤ ((((a1 * 100) + (a3 * 10)) + a5) : Int)) := by omega
theorem ow_79h_93 {a0 a1 a2 a3 a4 : Int} (h0 : ((0 ≤ (a0 : Int)) ∧ ((a0 ≤ (1 : Int)) ∧ ((a0 = (1 : Int)) → ((0 ≤ (a1 : Int)) ∧ (a1 ≤ (9 : Int))))))) (h1 : ¬((a0 = (0 : Int)))) (h2 : ((0 ≤ (a2 : Int)) ∧ (a2 ≤ (9 : Int)))) (h3 : (a3 < (a2 : Int))) (h4 : (a4 < (a2 : Int))) : ((((a1 * 100) + (a3 * 10)) + a4) ≤ (999 : Int)) := by omega
theorem ow_79h_94 {a0 a1 : Int} (h0 : ((0 ≤ (a0 : Int)) ∧ ((a0 ≤ (1 : Int)) ∧ ((a0 = (1 : Int)) → ((0 ≤ (a1 : Int)) ∧ (a1 ≤ (99 : Int))))))) (h1 : ¬((a0 = (0 : Int)))) : (0 ≤ (a1 : Int)) := by omega
theorem ow_79h_95 {a0 a1 : Int} (h0 : ((0 ≤ (a0 : Int)) ∧ ((a0 ≤ (1 : Int)) ∧ ((a0 = (1 : Int)) → ((0 ≤ (a1 : Int)) ∧ (a1 ≤ (99 : Int))))))) (h1 : ¬((a0 = (0 : Int)))) : (a1 ≤ (99 : Int)) := by omega
theorem ow_79h_96 {a0 a1 : Int} (h0 : ((0 ≤ (a0 : Int)) ∧ ((a0 ≤ (1 : Int)) ∧ ((a0 = (1 : Int)) → (((-99) ≤ (a1 : Int)) ∧ (a1 ≤ (99 : Int))))))) (h1 : ¬((a0 = (0 : Int)))) : ((-99) ≤ (a1 : Int)) := by omega
theorem ow_79h_97 {a0 a1 : Int} (h0 : ((0 ≤ (a0 : Int)) ∧ ((a0 ≤ (1 : Int)) ∧ ((a0 = (1 : Int)) → (((-99) ≤ (a1 : Int)) ∧ (a1 ≤ (99 : Int))))))) (h1 : ¬((a0 = (0 : Int)))) : (a1 ≤ (99 : Int)) := by omega
theorem ow_79h_98 {a0 a1 a3 : Int} {k2 : Nat} (h0 : ((0 ≤ (a0 : Int)) ∧ (a0 ≤ (9 : Int)))) (h1 : (((9 - a1) : Int).toNat = (k2 : Nat))) (h2 : (a1 < (a0 : Int))) (h3 : ((a1 + 1) = (a3 : Int))) : (((9 - a3) : Int).toNat < (k2 : Nat)) := by omega
theorem ow_79h_99 {a0 a1 : Int} (h0 : ((0 ≤ (a0 : Int)) ∧ (a0 ≤ (9 : Int)))) (h1 : ((a0 + 1) = (a1 : Int))) : (0 ≤ (a1 : Int)) := by omega
theorem ow_79h_100 {a0 a1 a2 a3 : Int} (h0 : (a0 ≤ (((9 * a1) + a2) : Int))) (h1 : ((a2 + 1) = (a3 : Int))) : (a0 ≤ (((9 * a1) + a3) : Int)) := by omega
theorem ow_79h_101 {a0 : Int} (h0 : ((0 ≤ (a0 : Int)) ∧ (a0 ≤ (81 : Int)))) : ((-2147483648) ≤ (a0 : Int)) := by omega
theorem ow_79h_102 {a0 : Int} (h0 : ((0 ≤ (a0 : Int)) ∧ (a0 ≤ (81 : Int)))) : (a0 ≤ (2147483647 : Int)) := by omega
theorem ow_79h_103 {a0 a1 : Int} (h0 : ((0 ≤ (a0 : Int)) ∧ (a0 ≤ (81 : Int)))) (h1 : ((a0 + 1) = (a1 : Int))) : (0 ≤ (a1 : Int)) := by omega
theorem ow_79h_104 {a0 a1 a2 a3 a4 : Int} (h0 : ((0 ≤ (a0 : Int)) ∧ (a0 ≤ (9 : Int)))) (h1 : (a1 < (a0 : Int))) (h2 : (a2 ≤ (((9 * a1) + a3) : Int))) (h3 : (a3 < (a0 : Int))) (h4 : ((a2 + 1) = (a4 : Int))) : (a4 ≤ (81 : Int)) := by omega
theorem ow_79h_105 {a0 a1 a2 a3 a4 : Int} (h0 : (a0 ≤ (((9 * a1) + a2) : Int))) (h1 : ((a0 + 1) = (a3 : Int))) (h2 : ((a2 + 1) = (a4 : Int))) : (a3 ≤ (((9 * a1) + a4) : Int)) := by omega
theorem ow_79h_106 {a0 a1 a2 a3 : Int} (h0 : ((0 ≤ (a0 : Int)) ∧ (a0 ≤ (81 : Int)))) (h1 : (a0 ≤ ((9 * a1) : Int))) (h2 : ((0 ≤ (a2 : Int)) ∧ (a2 ≤ (81 : Int)))) (h3 : (a2 ≤ (((9 * a1) + a3) : Int))) : ((-1) ≤ (((a1 * 10) + a3) : Int)) := by omega
theorem ow_79h_107 {a0 a1 a2 : Int} (h0 : ((0 ≤ (a0 : Int)) ∧ (a0 ≤ (9 : Int)))) (h1 : (a1 < (a0 : Int))) (h2 : (a2 < (a0 : Int))) : (((a1 * 10) + a2) ≤ (88 : Int)) := by omega
theorem ow_79h_108 {a0 a1 : Int} (h0 : (a0 ≤ ((9 * a1) : Int))) : (a0 ≤ (((9 * a1) + 0) : Int)) := by omega
theorem ow_79h_109 : (0 ≤ ((9 * 0) : Int)) := by omega
theorem ow_79h_110 : ((-1) ≤ (99 : Int)) := by omega
theorem ow_79h_111 {a0 a1 a2 : Int} (h0 : ((0 ≤ (a0 : Int)) ∧ ((a0 ≤ (1 : Int)) ∧ ((a0 = (1 : Int)) → ((0 ≤ (a1 : Int)) ∧ ((a1 ≤ (999 : Int)) ∧ ((0 ≤ (a2 : Int)) ∧ ((a2 ≤ (99 : Int)) ∧ (((-99) ≤ (0 : Int)) ∧ ((0 ≤ (99 : Int)) ∧ (((a1 % 10) ≤ (8 : Int)) ∧ (((a1 / 10) % 10) ≤ (8 : Int))))))))))))) : ((-2147483648) ≤ (a0 : Int)) := by omega
theorem ow_79h_112 {a0 a1 a2 : Int} (h0 : ((0 ≤ (a0 : Int)) ∧ ((a0 ≤ (1 : Int)) ∧ ((a0 = (1 : Int)) → ((0 ≤ (a1 : Int)) ∧ ((a1 ≤ (999 : Int)) ∧ ((0 ≤ (a2 : Int)) ∧ ((a2 ≤ (99 : Int)) ∧ (((-99) ≤ (0 : Int)) ∧ ((0 ≤ (99 : Int)) ∧ (((a1 % 10) ≤ (8 : Int)) ∧ (((a1 / 10) % 10) ≤ (8 : Int))))))))))))) : (a0 ≤ (2147483647 : Int)) := by omega
theorem ow_79h_113 {a0 a1 a2 : Int} (h0 : ((0 ≤ (a0 : Int)) ∧ ((a0 ≤ (1 : Int)) ∧ ((a0 = (1 : Int)) → ((0 ≤ (a1 : Int)) ∧ ((a1 ≤ (999 : Int)) ∧ ((0 ≤ (a2 : Int)) ∧ ((a2 ≤ (99 : Int)) ∧ (((-99) ≤ (0 : Int)) ∧ ((0 ≤ (99 : Int)) ∧ (((a1 % 10) ≤ (8 : Int)) ∧ (((a1 / 10) % 10) ≤ (8 : Int))))))))))))) (h1 : ¬((a0 = (0 : Int)))) : (0 ≤ (a1 : Int)) := by omega
theorem ow_79h_114 {a0 a1 a2 : Int} (h0 : ((0 ≤ (a0 : Int)) ∧ ((a0 ≤ (1 : Int)) ∧ ((a0 = (1 : Int)) → ((0 ≤ (a1 : Int)) ∧ ((a1 ≤ (999 : Int)) ∧ ((0 ≤ (a2 : Int)) ∧ ((a2 ≤ (99 : Int)) ∧ (((-99) ≤ (0 : Int)) ∧ ((0 ≤ (99 : Int)) ∧ (((a1 % 10) ≤ (8 : Int)) ∧ (((a1 / 10) % 10) ≤ (8 : Int))))))))))))) (h1 : ¬((a0 = (0 : Int)))) : (a1 ≤ (999 : Int)) := by omega
theorem ow_79h_115 {a0 a1 a2 : Int} (h0 : ((0 ≤ (a0 : Int)) ∧ ((a0 ≤ (1 : Int)) ∧ ((a0 = (1 : Int)) → ((0 ≤ (a1 : Int)) ∧ ((a1 ≤ (999 : Int)) ∧ ((0 ≤ (a2 : Int)) ∧ ((a2 ≤ (99 : Int)) ∧ (((-99) ≤ (0 : Int)) ∧ ((0 ≤ (99 : Int)) ∧ (((a1 % 10) ≤ (8 : Int)) ∧ (((a1 / 10) % 10) ≤ (8 : Int))))))))))))) (h1 : ¬((a0 = (0 : Int)))) : (0 ≤ (a2 : Int)) := by omega
theorem ow_79h_116 {a0 a1 a2 : Int} (h0 : ((0 ≤ (a0 : Int)) ∧ ((a0 ≤ (1 : Int)) ∧ ((a0 = (1 : Int)) → ((0 ≤ (a1 : Int)) ∧ ((a1 ≤ (999 : Int)) ∧ ((0 ≤ (a2 : Int)) ∧ ((a2 ≤ (99 : Int)) ∧ (((-99) ≤ (0 : Int)) ∧ ((0 ≤ (99 : Int)) ∧ (((a1 % 10) ≤ (8 : Int)) ∧ (((a1 / 10) % 10) ≤ (8 : Int))))))))))))) (h1 : ¬((a0 = (0 : Int)))) : (a2 ≤ (99 : Int)) := by omega
theorem ow_79h_117 {a0 a1 a2 : Int} (h0 : ((0 ≤ (a0 : Int)) ∧ ((a0 ≤ (1 : Int)) ∧ ((a0 = (1 : Int)) → ((0 ≤ (a1 : Int)) ∧ ((a1 ≤ (999 : Int)) ∧ ((0 ≤ (a2 : Int)) ∧ ((a2 ≤ (99 : Int)) ∧ (((-99) ≤ (0 : Int)) ∧ ((0 ≤ (99 : Int)) ∧ (((a1 % 10) ≤ (8 : Int)) ∧ (((a1 / 10) % 10) ≤ (8 : Int))))))))))))) (h1 : ¬((a0 = (0 : Int)))) : (((a1 % 10) ≤ (8 : Int)) ∧ (((a1 / 10) % 10) ≤ (8 : Int))) := by omega
theorem ow_79h_118 {a0 a1 a2 : Int} (h0 : ((0 ≤ (a0 : Int)) ∧ ((a0 ≤ (1 : Int)) ∧ ((a0 = (1 : Int)) → ((0 ≤ (a1 : Int)) ∧ ((a1 ≤ (999 : Int)) ∧ ((0 ≤ (a2 : Int)) ∧ ((a2 ≤ (99 : Int)) ∧ (((-99) ≤ (0 : Int)) ∧ ((0 ≤ (99 : Int)) ∧ (((a1 % 10) ≤ (8 : Int)) ∧ (((a1 / 10) % 10) ≤ (8 : Int))))))))))))) (h1 : ¬((a0 = (0 : Int)))) : (((a1 / 100) : Int).toNat < (10 : Nat)) := by omega
theorem ow_79h_119 {a0 a1 a2 : Int} (h0 : ((0 ≤ (a0 : Int)) ∧ ((a0 ≤ (1 : Int)) ∧ ((a0 = (1 : Int)) → ((0 ≤ (a1 : Int)) ∧ ((a1 ≤ (999 : Int)) ∧ ((0 ≤ (a2 : Int)) ∧ ((a2 ≤ (99 : Int)) ∧ (((-99) ≤ (0 : Int)) ∧ ((0 ≤ (99 : Int)) ∧ (((a1 % 10) ≤ (8 : Int)) ∧ (((a1 / 10) % 10) ≤ (8 : Int))))))))))))) (h1 : ¬((a0 = (0 : Int)))) : (0 ≤ ((a1 / 100) : Int)) := by omega
theorem ow_79h_120 {a0 a1 a2 : Int} (h0 : ((0 ≤ (a0 : Int)) ∧ ((a0 ≤ (1 : Int)) ∧ ((a0 = (1 : Int)) → ((0 ≤ (a1 : Int)) ∧ ((a1 ≤ (999 : Int)) ∧ ((0 ≤ (a2 : Int)) ∧ ((a2 ≤ (99 : Int)) ∧ (((-99) ≤ (0 : Int)) ∧ ((0 ≤ (99 : Int)) ∧ (((a1 % 10) ≤ (8 : Int)) ∧ (((a1 / 10) % 10) ≤ (8 : Int))))))))))))) (h1 : ¬((a0 = (0 : Int)))) : ((a1 / 100) < (((10 : Nat) : Int) : Int)) := by omega
theorem ow_79h_121 {a0 : Int} (h0 : ((1 ≤ (a0 : Int)) ∧ (a0 ≤ (499 : Int)))) : ((-2147483648) ≤ (a0 : Int)) := by omega
theorem ow_79h_122 {a0 : Int} (h0 : ((1 ≤ (a0 : Int)) ∧ (a0 ≤ (499 : Int)))) : (a0 ≤ (2147483647 : Int)) := by omega
theorem ow_79h_123 : (99 ≤ (99 : Int)) := by omega
theorem ow_79h_124 {a0 : Int} (h0 : (a0 ≤ (1 : Int))) : (a0 ≤ (2147483647 : Int)) := by omega
theorem ow_79h_125 {a0 : Int} (h0 : ((0 ≤ (a0 : Int)) ∧ (a0 ≤ (16 : Int)))) : ((-2147483648) ≤ (a0 : Int)) := by omega
theorem ow_79h_126 {a0 : Int} (h0 : ((0 ≤ (a0 : Int)) ∧ (a0 ≤ (16 : Int)))) : (a0 ≤ (2147483647 : Int)) := by omega
theorem ow_79h_127 {a0 : Int} (h0 : (a0 ≤ (99 : Int))) : ((-99) ≤ ((-a0) : Int)) := by omega
theorem ow_79h_128 {a0 : Int} (h0 : ((1 ≤ (a0 : Int)) ∧ (a0 ≤ (499 : Int)))) : ((-a0) ≤ (99 : Int)) := by omega
theorem ow_79h_129 {a0 a2 : Int} {k1 : Nat} (h0 : (((499 - a0) : Int).toNat = (k1 : Nat))) (h1 : (a0 ≤ (99 : Int))) (h2 : ((a0 + 1) = (a2 : Int))) : (((499 - a2) : Int).toNat < (k1 : Nat)) := by omega
theorem ow_79h_130 {a0 a1 : Int} (h0 : ((1 ≤ (a0 : Int)) ∧ (a0 ≤ (499 : Int)))) (h1 : ((a0 + 1) = (a1 : Int))) : (1 ≤ (a1 : Int)) := by omega
theorem ow_79h_131 {a0 a1 : Int} (h0 : (a0 ≤ (99 : Int))) (h1 : ((a0 + 1) = (a1 : Int))) : (a1 ≤ (499 : Int)) := by omega
theorem ow_79h_132 {a0 : Int} (h0 : ((1 ≤ (a0 : Int)) ∧ (a0 ≤ (499 : Int)))) : ((-1) ≤ ((a0 - 1) : Int)) := by omega
theorem ow_79h_133 {a0 : Int} (h0 : (a0 ≤ (99 : Int))) : ((a0 - 1) ≤ (99 : Int)) := by omega
theorem ow_79h_134 {a0 : Int} (h0 : ((1 ≤ (a0 : Int)) ∧ (a0 ≤ (499 : Int)))) : ((-99) ≤ (a0 : Int)) := by omega
theorem ow_79h_135 {a0 : Int} (h0 : (a0 ≤ (99 : Int))) : (a0 ≤ (99 : Int)) := by omega
theorem ow_79h_136 {a0 : Int} (h0 : ((0 ≤ (a0 : Int)) ∧ (a0 ≤ (9 : Int)))) : (0 ≤ (a0 : Int)) := by omega
theorem ow_79h_137 {a0 : Int} (h0 : ((0 ≤ (a0 : Int)) ∧ (a0 ≤ (9 : Int)))) : (a0 ≤ (9 : Int)) := by omega
theorem ow_79h_138 {a0 a1 : Int} (h0 : ((0 ≤ (a0 : Int)) ∧ (a0 ≤ (9 : Int)))) (h1 : (a1 < (a0 : Int))) : (a1 ≤ (8 : Int)) := by omega
theorem ow_79h_139 {a0 a1 : Int} (h0 : ((0 ≤ (a0 : Int)) ∧ (a0 ≤ (9 : Int)))) (h1 : ((0 ≤ (a1 : Int)) ∧ (a1 ≤ (9 : Int)))) : (0 ≤ (((a0 * 100) + (a1 * 11)) : Int)) := by omega
theorem ow_79h_140 {a0 a1 a2 : Int} (h0 : ((0 ≤ (a0 : Int)) ∧ (a0 ≤ (9 : Int)))) (h1 : ((0 ≤ (a1 : Int)) ∧ (a1 ≤ (9 : Int)))) (h2 : (a2 < (a1 : Int))) : (((a0 * 100) + (a2 * 11)) ≤ (999 : Int)) := by omega
theorem ow_79h_141 {a0 a1 : Int} (h0 : (((((a0 * 100) + (a1 * 11)) % 10) ≤ (8 : Int)) ∧ (((((a0 * 100) + (a1 * 11)) / 10) % 10) ≤ (8 : Int)))) : (((((a0 * 100) + (a1 * 11)) % 10) ≤ (8 : Int)) ∧ (((((a0 * 100) + (a1 * 11)) / 10) % 10) ≤ (8 : Int))) := by omega
theorem ow_79h_142 {a0 a1 : Int} (h0 : ((0 ≤ (a0 : Int)) ∧ ((a0 ≤ (1 : Int)) ∧ ((a0 = (1 : Int)) → ((0 ≤ (a1 : Int)) ∧ (a1 ≤ (9 : Int))))))) (h1 : ¬((a0 = (0 : Int)))) : (0 ≤ (a1 : Int)) := by omega
theorem ow_79h_143 {a0 a1 : Int} (h0 : ((0 ≤ (a0 : Int)) ∧ ((a0 ≤ (1 : Int)) ∧ ((a0 = (1 : Int)) → ((0 ≤ (a1 : Int)) ∧ (a1 ≤ (9 : Int))))))) (h1 : ¬((a0 = (0 : Int)))) : (a1 ≤ (9 : Int)) := by omega
theorem ow_79h_144 : ((-1) ≤ (9 : Int)) := by omega
theorem ow_79h_145 {a0 : Int} (h0 : (((-2147483648) ≤ (a0 : Int)) ∧ (a0 ≤ (2147483647 : Int)))) : ((-2147483648) ≤ ((a0 / 10) : Int)) := by omega
theorem ow_79h_146 {a0 a1 : Int} (h0 : (a0 ≤ ((a1 / 10) : Int))) : (0 ≤ ((a1 - (a0 * 10)) : Int)) := by omega
theorem ow_79h_147 {a0 a1 a2 : Int} (h0 : ((0 ≤ (a0 : Int)) ∧ ((a0 ≤ (1 : Int)) ∧ ((a0 = (1 : Int)) → ((0 ≤ (a1 : Int)) ∧ (a1 ≤ (99 : Int))))))) (h1 : ¬((a0 = (0 : Int)))) (h2 : ((0 ≤ (a2 : Int)) ∧ (a2 ≤ (16 : Int)))) : ((a1 - (a2 * 10)) ≤ (99 : Int)) := by omega
theorem ow_79h_148 {a0 a1 a2 a4 : Int} {k3 : Nat} (h0 : ((0 ≤ (a0 : Int)) ∧ ((a0 ≤ (1 : Int)) ∧ ((a0 = (1 : Int)) → ((0 ≤ (a1 : Int)) ∧ (a1 ≤ (99 : Int))))))) (h1 : ¬((a0 = (0 : Int)))) (h2 : (((16 - a2) : Int).toNat = (k3 : Nat))) (h3 : (a2 ≤ ((a1 / 10) : Int))) (h4 : ((a2 + 1) = (a4 : Int))) : (((16 - a4) : Int).toNat < (k3 : Nat)) := by omega
theorem ow_79h_149 {a0 a1 : Int} (h0 : ((0 ≤ (a0 : Int)) ∧ (a0 ≤ (16 : Int)))) (h1 : ((a0 + 1) = (a1 : Int))) : (0 ≤ (a1 : Int)) := by omega
theorem ow_79h_150 {a0 a1 a2 a3 : Int} (h0 : ((0 ≤ (a0 : Int)) ∧ ((a0 ≤ (1 : Int)) ∧ ((a0 = (1 : Int)) → ((0 ≤ (a1 : Int)) ∧ (a1 ≤ (99 : Int))))))) (h1 : ¬((a0 = (0 : Int)))) (h2 : (a2 ≤ ((a1 / 10) : Int))) (h3 : ((a2 + 1) = (a3 : Int))) : (a3 ≤ (16 : Int)) := by omega
theorem ow_79h_151 {a0 : Int} (h0 : ((0 ≤ (a0 : Int)) ∧ (a0 ≤ (16 : Int)))) : ((-1) ≤ (a0 : Int)) := by omega
theorem ow_79h_152 {a0 a1 a2 : Int} (h0 : ((0 ≤ (a0 : Int)) ∧ ((a0 ≤ (1 : Int)) ∧ ((a0 = (1 : Int)) → ((0 ≤ (a1 : Int)) ∧ (a1 ≤ (99 : Int))))))) (h1 : ¬((a0 = (0 : Int)))) (h2 : (a2 ≤ ((a1 / 10) : Int))) : (a2 ≤ (9 : Int)) := by omega
theorem ow_79h_153 {a0 : Int} : ((0 = (1 : Int)) → ((0 ≤ (a0 : Int)) ∧ (a0 ≤ (69 : Int)))) := by omega
theorem ow_79h_154 {a0 a1 : Int} (h0 : ((0 ≤ (a0 : Int)) ∧ ((a0 ≤ (1 : Int)) ∧ ((a0 = (1 : Int)) → ((0 ≤ ((a1 / 10) : Int)) ∧ ((a1 / 10) ≤ (6 : Int))))))) : ((-2147483648) ≤ (a0 : Int)) := by omega
theorem ow_79h_155 {a0 a1 : Int} (h0 : ((0 ≤ (a0 : Int)) ∧ ((a0 ≤ (1 : Int)) ∧ ((a0 = (1 : Int)) → ((0 ≤ ((a1 / 10) : Int)) ∧ ((a1 / 10) ≤ (6 : Int))))))) : (a0 ≤ (2147483647 : Int)) := by omega
theorem ow_79h_156 {a0 a1 : Int} (h0 : (0 ≤ (a0 : Int))) (h1 : ((0 ≤ (a1 : Int)) ∧ ((a1 ≤ (1 : Int)) ∧ ((a1 = (1 : Int)) → ((0 ≤ ((a0 / 10) : Int)) ∧ ((a0 / 10) ≤ (6 : Int))))))) (h2 : ¬((a1 = (0 : Int)))) : ((1 = (1 : Int)) → ((0 ≤ (a0 : Int)) ∧ (a0 ≤ (69 : Int)))) := by omega
noncomputable def F_X11_foretold (a1 a2 a3 : Int) (V0 : pm_M) : Int × pm_M := pf_call (F_X11_isLaw a1 V0) fun y4 _ => (if y4 = 0 then (((-1), V0)) else (pf_call (F_X11_isLandOrAll a2 V0) fun y13 _ => (if y13 = 0 then (((-1), V0)) else (pf_call (F_X11_isKind a3 V0) fun y22 _ => (if ¬ (y22 = 0) then (pf_call (F_X11_countOfLand a2 V0) fun y30 _ => (if 0 < y30 then (pf_val ((0 : Int), V0) (fun (q : Int × Int × pm_M) => match q with | (x34, x36, V38) => (pf_let (V38 4 6) fun y49 => (if y49 ≤ x36 then (pf_let (pm_w32 (Int.tdiv x34 y30)) fun y53 => (.inr (y53, V38))) else (pf_call (F_X11_isOfLand x36 a2 V38) fun y59 _ => (if y59 = 0 then (pf_let (x36 + 1) fun x63 => (.inl (x34, x63, V38))) else (pf_let (V38 9 (x36 : Int).toNat) fun y66 => pf_let (V38 10 (x36 : Int).toNat) fun y70 => pf_let (V38 11 (x36 : Int).toNat) fun y74 => pf_call (F_X11_pose y66 y70 y74 V38) fun _ V78 => pf_call (F_X10_weigh a1 V78) fun _ V91 => (if ¬ (a3 = 4) then (pf_call (F_X10_chanceOfKind a3 V91) fun y107 _ => pf_let (pm_w32 (x34 + y107)) fun y110 => pf_let (x36 + 1) fun x113 => (.inl (y110, x113, V91))) else ((.inr ((0 : Int), V0)))))))))) (0, 0, V0)) else (((-1), V0)))) else ((if ¬ (a3 = 4) then (((-1), V0)) else (pf_call (F_X11_countOfLand a2 V0) fun y122 _ => (if 0 < y122 then (pf_val ((0 : Int), V0) (fun (q : Int × Int × pm_M) => match q with | (x126, x128, V130) => (pf_let (V130 4 6) fun y141 => (if y141 ≤ x128 then (pf_let (pm_w32 (Int.tdiv x126 y122)) fun y145 => (.inr (y145, V130))) else (pf_call (F_X11_isOfLand x128 a2 V130) fun y151 _ => (if y151 = 0 then (pf_let (x128 + 1) fun x155 => (.inl (x126, x155, V130))) else (pf_let (V130 9 (x128 : Int).toNat) fun y158 => pf_let (V130 10 (x128 : Int).toNat) fun y162 => pf_let (V130 11 (x128 : Int).toNat) fun y166 => pf_call (F_X11_pose y158 y162 y166 V130) fun _ V170 => pf_call (F_X10_weigh a1 V170) fun _ V183 => (if ¬ (a3 = 4) then ((.inr ((0 : Int), V0))) else (pf_call (F_X10_chanceNoticed  V183) fun y199 _ => pf_let (pm_w32 (x126 + y199)) fun y202 => pf_let (x128 + 1) fun x205 => (.inl (y202, x205, V183)))))))))) (0, 0, V0)) else (((-1), V0)))))))))))
theorem F_X11_foretold_eq (a1 a2 a3 : Int) (V0 : pm_M) : F_X11_foretold a1 a2 a3 V0 = pf_call (F_X11_isLaw a1 V0) fun y4 _ => (if y4 = 0 then (((-1), V0)) else (pf_call (F_X11_isLandOrAll a2 V0) fun y13 _ => (if y13 = 0 then (((-1), V0)) else (pf_call (F_X11_isKind a3 V0) fun y22 _ => (if ¬ (y22 = 0) then (pf_call (F_X11_countOfLand a2 V0) fun y30 _ => (if 0 < y30 then (pf_val ((0 : Int), V0) (fun (q : Int × Int × pm_M) => match q with | (x34, x36, V38) => (pf_let (V38 4 6) fun y49 => (if y49 ≤ x36 then (pf_let (pm_w32 (Int.tdiv x34 y30)) fun y53 => (.inr (y53, V38))) else (pf_call (F_X11_isOfLand x36 a2 V38) fun y59 _ => (if y59 = 0 then (pf_let (x36 + 1) fun x63 => (.inl (x34, x63, V38))) else (pf_let (V38 9 (x36 : Int).toNat) fun y66 => pf_let (V38 10 (x36 : Int).toNat) fun y70 => pf_let (V38 11 (x36 : Int).toNat) fun y74 => pf_call (F_X11_pose y66 y70 y74 V38) fun _ V78 => pf_call (F_X10_weigh a1 V78) fun _ V91 => (if ¬ (a3 = 4) then (pf_call (F_X10_chanceOfKind a3 V91) fun y107 _ => pf_let (pm_w32 (x34 + y107)) fun y110 => pf_let (x36 + 1) fun x113 => (.inl (y110, x113, V91))) else ((.inr ((0 : Int), V0)))))))))) (0, 0, V0)) else (((-1), V0)))) else ((if ¬ (a3 = 4) then (((-1), V0)) else (pf_call (F_X11_countOfLand a2 V0) fun y122 _ => (if 0 < y122 then (pf_val ((0 : Int), V0) (fun (q : Int × Int × pm_M) => match q with | (x126, x128, V130) => (pf_let (V130 4 6) fun y141 => (if y141 ≤ x128 then (pf_let (pm_w32 (Int.tdiv x126 y122)) fun y145 => (.inr (y145, V130))) else (pf_call (F_X11_isOfLand x128 a2 V130) fun y151 _ => (if y151 = 0 then (pf_let (x128 + 1) fun x155 => (.inl (x126, x155, V130))) else (pf_let (V130 9 (x128 : Int).toNat) fun y158 => pf_let (V130 10 (x128 : Int).toNat) fun y162 => pf_let (V130 11 (x128 : Int).toNat) fun y166 => pf_call (F_X11_pose y158 y162 y166 V130) fun _ V170 => pf_call (F_X10_weigh a1 V170) fun _ V183 => (if ¬ (a3 = 4) then ((.inr ((0 : Int), V0))) else (pf_call (F_X10_chanceNoticed  V183) fun y199 _ => pf_let (pm_w32 (x126 + y199)) fun y202 => pf_let (x128 + 1) fun x205 => (.inl (y202, x205, V183)))))))))) (0, 0, V0)) else (((-1), V0))))))))))) := rfl
noncomputable def F_X11_isPair (a1 a2 a3 a4 : Int) (V0 : pm_M) : Int × pm_M := (if ¬ (((a2 / 10) % 10) = (a2 % 10)) then (pf_call (F_X11_pose a2 a3 a4 V0) fun _ V3 => pf_call (F_X10_weigh (a1 % 10) V3) fun _ V11 => pf_call (F_X10_mostLikely  V11) fun y21 _ => pf_call (F_X11_kindOfSaid ((a2 / 10) % 10) (a2 % 10) y21 V11) fun y27 _ => (if ¬ (y27 = (a1 / 10)) then ((0, V11)) else ((1, V11)))) else ((0, V0)))
theorem F_X11_isPair_eq (a1 a2 a3 a4 : Int) (V0 : pm_M) : F_X11_isPair a1 a2 a3 a4 V0 = (if ¬ (((a2 / 10) % 10) = (a2 % 10)) then (pf_call (F_X11_pose a2 a3 a4 V0) fun _ V3 => pf_call (F_X10_weigh (a1 % 10) V3) fun _ V11 => pf_call (F_X10_mostLikely  V11) fun y21 _ => pf_call (F_X11_kindOfSaid ((a2 / 10) % 10) (a2 % 10) y21 V11) fun y27 _ => (if ¬ (y27 = (a1 / 10)) then ((0, V11)) else ((1, V11)))) else ((0, V0))) := rfl
noncomputable def F_X11_pairs (a1 a2 a3 a4 a5 : Int) (V0 : pm_M) : Int × pm_M := (if a1 < 0 then (((-1), V0)) else (pf_call (F_X11_isKind (a1 / 10) V0) fun y6 _ => (if y6 = 0 then (((-1), V0)) else (pf_call (F_X11_isLaw (a1 % 10) V0) fun y14 _ => (if y14 = 0 then (((-1), V0)) else ((if a5 < (-1) then (((-1), V0)) else (pf_call (F_X11_isPerson a2 V0) fun y25 _ => (if y25 = 0 then (((-1), V0)) else (pf_call (F_X11_isSetting a3 V0) fun y32 _ => (if y32 = 0 then (((-1), V0)) else (pf_call (F_X11_isLate a4 V0) fun y39 _ => (if ¬ (y39 = 0) then (pf_val ((0 : Int), V0) (fun (q : Int × Int × pm_M) => match q with | (x43, x45, V48) => ((if V48 0 8 = 45 then (pf_let (V48 45 0) fun y59 => (if y59 ≤ x45 then ((if ¬ (a5 = (-1)) then ((.inr ((-1), V48))) else ((.inr (x43, V48))))) else (pf_val (.inr ((0 : Int), V0)) (fun (q : Int × Int × pm_M) => match q with | (x64, x66, V69) => ((if y59 ≤ x66 then (pf_let (x45 + 1) fun x82 => (.inr (.inl (x64, x82, V69)))) else (pf_call (F_X11_isPair a1 (((a2 * 100) + (x45 * 10)) + x66) a3 a4 V69) fun y87 V85 => (if y87 = 0 then (pf_let (x66 + 1) fun x96 => (.inl (x64, x96, V85))) else ((if ¬ (x64 = a5) then (pf_let (x64 + 1) fun x99 => pf_let (x66 + 1) fun x101 => (.inl (x99, x101, V85))) else ((.inr (.inr (((x45 * 10) + x66), V85))))))))))) (x43, 0, V48)))) else (pf_let (V48 51 0) fun y103 => (if y103 ≤ x45 then ((if ¬ (a5 = (-1)) then ((.inr ((-1), V48))) else ((.inr (x43, V48))))) else (pf_val (.inr ((0 : Int), V0)) (fun (q : Int × Int × pm_M) => match q with | (x108, x110, V113) => ((if y103 ≤ x110 then (pf_let (x45 + 1) fun x126 => (.inr (.inl (x108, x126, V113)))) else (pf_call (F_X11_isPair a1 (((a2 * 100) + (x45 * 10)) + x110) a3 a4 V113) fun y131 V129 => (if y131 = 0 then (pf_let (x110 + 1) fun x140 => (.inl (x108, x140, V129))) else ((if ¬ (x108 = a5) then (pf_let (x108 + 1) fun x143 => pf_let (x110 + 1) fun x145 => (.inl (x143, x145, V129))) else ((.inr (.inr (((x45 * 10) + x110), V129))))))))))) (x43, 0, V48))))))) (0, 0, V0)) else (((-1), V0)))))))))))))))
theorem F_X11_pairs_eq (a1 a2 a3 a4 a5 : Int) (V0 : pm_M) : F_X11_pairs a1 a2 a3 a4 a5 V0 = (if a1 < 0 then (((-1), V0)) else (pf_call (F_X11_isKind (a1 / 10) V0) fun y6 _ => (if y6 = 0 then (((-1), V0)) else (pf_call (F_X11_isLaw (a1 % 10) V0) fun y14 _ => (if y14 = 0 then (((-1), V0)) else ((if a5 < (-1) then (((-1), V0)) else (pf_call (F_X11_isPerson a2 V0) fun y25 _ => (if y25 = 0 then (((-1), V0)) else (pf_call (F_X11_isSetting a3 V0) fun y32 _ => (if y32 = 0 then (((-1), V0)) else (pf_call (F_X11_isLate a4 V0) fun y39 _ => (if ¬ (y39 = 0) then (pf_val ((0 : Int), V0) (fun (q : Int × Int × pm_M) => match q with | (x43, x45, V48) => ((if V48 0 8 = 45 then (pf_let (V48 45 0) fun y59 => (if y59 ≤ x45 then ((if ¬ (a5 = (-1)) then ((.inr ((-1), V48))) else ((.inr (x43, V48))))) else (pf_val (.inr ((0 : Int), V0)) (fun (q : Int × Int × pm_M) => match q with | (x64, x66, V69) => ((if y59 ≤ x66 then (pf_let (x45 + 1) fun x82 => (.inr (.inl (x64, x82, V69)))) else (pf_call (F_X11_isPair a1 (((a2 * 100) + (x45 * 10)) + x66) a3 a4 V69) fun y87 V85 => (if y87 = 0 then (pf_let (x66 + 1) fun x96 => (.inl (x64, x96, V85))) else ((if ¬ (x64 = a5) then (pf_let (x64 + 1) fun x99 => pf_let (x66 + 1) fun x101 => (.inl (x99, x101, V85))) else ((.inr (.inr (((x45 * 10) + x66), V85))))))))))) (x43, 0, V48)))) else (pf_let (V48 51 0) fun y103 => (if y103 ≤ x45 then ((if ¬ (a5 = (-1)) then ((.inr ((-1), V48))) else ((.inr (x43, V48))))) else (pf_val (.inr ((0 : Int), V0)) (fun (q : Int × Int × pm_M) => match q with | (x108, x110, V113) => ((if y103 ≤ x110 then (pf_let (x45 + 1) fun x126 => (.inr (.inl (x108, x126, V113)))) else (pf_call (F_X11_isPair a1 (((a2 * 100) + (x45 * 10)) + x110) a3 a4 V113) fun y131 V129 => (if y131 = 0 then (pf_let (x110 + 1) fun x140 => (.inl (x108, x140, V129))) else ((if ¬ (x108 = a5) then (pf_let (x108 + 1) fun x143 => pf_let (x110 + 1) fun x145 => (.inl (x143, x145, V129))) else ((.inr (.inr (((x45 * 10) + x110), V129))))))))))) (x43, 0, V48))))))) (0, 0, V0)) else (((-1), V0))))))))))))))) := rfl
noncomputable def F_X11_hump (a1 a2 a3 : Int) (V0 : pm_M) : Int × pm_M := (if a3 < 0 then (((-1), V0)) else ((if 1 < a3 then (((-1), V0)) else (pf_call (F_X11_isTrial a1 a2 0 V0) fun y6 _ => (if ¬ (y6 = 0) then (pf_call (F_X11_pose a1 a2 0 V0) fun _ V11 => pf_call (F_X10_weigh 4 V11) fun _ V19 => pf_call (F_X10_chanceOfKind 3 V19) fun y29 _ => (if ¬ (y29 = 0) then (pf_let (V19 7 ((a1 / 100) : Int).toNat) fun y35 => pf_val ((0 : Int), V0) (fun (q : Int × pm_M) => match q with | (x38, V40) => ((if 99 < x38 then ((.inr (99, V40))) else ((if ¬ (a3 = 0) then (pf_call (F_X10_trustAt y35 (-x38) V40) fun _ V56 => pf_call (F_X10_weigh 4 V56) fun _ V66 => pf_call (F_X10_chanceOfKind 3 V66) fun y78 _ => pf_let (pm_w32 (2 * y78)) fun y81 => (if y29 ≤ y81 then (pf_let (x38 + 1) fun x85 => (.inl (x85, V66))) else ((.inr ((x38 - 1), V66))))) else (pf_call (F_X10_trustAt y35 x38 V40) fun _ V88 => pf_call (F_X10_weigh 4 V88) fun _ V98 => pf_call (F_X10_chanceOfKind 3 V98) fun y110 _ => pf_let (pm_w32 (2 * y110)) fun y113 => (if y29 ≤ y113 then (pf_let (x38 + 1) fun x117 => (.inl (x117, V98))) else ((.inr ((x38 - 1), V98)))))))))) (1, V19)) else (((-1), V19)))) else (((-1), V0)))))))
theorem F_X11_hump_eq (a1 a2 a3 : Int) (V0 : pm_M) : F_X11_hump a1 a2 a3 V0 = (if a3 < 0 then (((-1), V0)) else ((if 1 < a3 then (((-1), V0)) else (pf_call (F_X11_isTrial a1 a2 0 V0) fun y6 _ => (if ¬ (y6 = 0) then (pf_call (F_X11_pose a1 a2 0 V0) fun _ V11 => pf_call (F_X10_weigh 4 V11) fun _ V19 => pf_call (F_X10_chanceOfKind 3 V19) fun y29 _ => (if ¬ (y29 = 0) then (pf_let (V19 7 ((a1 / 100) : Int).toNat) fun y35 => pf_val ((0 : Int), V0) (fun (q : Int × pm_M) => match q with | (x38, V40) => ((if 99 < x38 then ((.inr (99, V40))) else ((if ¬ (a3 = 0) then (pf_call (F_X10_trustAt y35 (-x38) V40) fun _ V56 => pf_call (F_X10_weigh 4 V56) fun _ V66 => pf_call (F_X10_chanceOfKind 3 V66) fun y78 _ => pf_let (pm_w32 (2 * y78)) fun y81 => (if y29 ≤ y81 then (pf_let (x38 + 1) fun x85 => (.inl (x85, V66))) else ((.inr ((x38 - 1), V66))))) else (pf_call (F_X10_trustAt y35 x38 V40) fun _ V88 => pf_call (F_X10_weigh 4 V88) fun _ V98 => pf_call (F_X10_chanceOfKind 3 V98) fun y110 _ => pf_let (pm_w32 (2 * y110)) fun y113 => (if y29 ≤ y113 then (pf_let (x38 + 1) fun x117 => (.inl (x117, V98))) else ((.inr ((x38 - 1), V98)))))))))) (1, V19)) else (((-1), V19)))) else (((-1), V0))))))) := rfl
noncomputable def F_X11_sumRight (a1 a2 a3 : Int) (V0 : pm_M) : Int × pm_M := pf_val ((0 : Int), V0) (fun (q : Int × Int × pm_M) => match q with | (x1, x3, V5) => ((if V5 0 8 = 45 then (pf_let (V5 45 0) fun y16 => (if y16 ≤ x3 then ((.inr (x1, V5))) else (pf_call (F_X11_pose ((a2 * 100) + (x3 * 11)) a3 0 V5) fun _ V21 => pf_call (F_X10_weigh a1 V21) fun _ V31 => pf_call (F_X10_chanceOf x3 V31) fun y43 _ => pf_let (pm_w32 (x1 + y43)) fun y46 => pf_let (x3 + 1) fun x49 => (.inl (y46, x49, V31))))) else (pf_let (V5 51 0) fun y51 => (if y51 ≤ x3 then ((.inr (x1, V5))) else (pf_call (F_X11_pose ((a2 * 100) + (x3 * 11)) a3 0 V5) fun _ V56 => pf_call (F_X10_weigh a1 V56) fun _ V66 => pf_call (F_X10_chanceOf x3 V66) fun y78 _ => pf_let (pm_w32 (x1 + y78)) fun y81 => pf_let (x3 + 1) fun x84 => (.inl (y81, x84, V66)))))))) (0, 0, V0)
theorem F_X11_sumRight_eq (a1 a2 a3 : Int) (V0 : pm_M) : F_X11_sumRight a1 a2 a3 V0 = pf_val ((0 : Int), V0) (fun (q : Int × Int × pm_M) => match q with | (x1, x3, V5) => ((if V5 0 8 = 45 then (pf_let (V5 45 0) fun y16 => (if y16 ≤ x3 then ((.inr (x1, V5))) else (pf_call (F_X11_pose ((a2 * 100) + (x3 * 11)) a3 0 V5) fun _ V21 => pf_call (F_X10_weigh a1 V21) fun _ V31 => pf_call (F_X10_chanceOf x3 V31) fun y43 _ => pf_let (pm_w32 (x1 + y43)) fun y46 => pf_let (x3 + 1) fun x49 => (.inl (y46, x49, V31))))) else (pf_let (V5 51 0) fun y51 => (if y51 ≤ x3 then ((.inr (x1, V5))) else (pf_call (F_X11_pose ((a2 * 100) + (x3 * 11)) a3 0 V5) fun _ V56 => pf_call (F_X10_weigh a1 V56) fun _ V66 => pf_call (F_X10_chanceOf x3 V66) fun y78 _ => pf_let (pm_w32 (x1 + y78)) fun y81 => pf_let (x3 + 1) fun x84 => (.inl (y81, x84, V66)))))))) (0, 0, V0) := rfl
noncomputable def F_X11_right (a1 a2 a3 : Int) (V0 : pm_M) : Int × pm_M := pf_call (F_X11_isLaw a1 V0) fun y4 _ => (if y4 = 0 then (((-1), V0)) else (pf_call (F_X11_isPerson a2 V0) fun y11 _ => (if y11 = 0 then (((-1), V0)) else (pf_call (F_X11_isSetting a3 V0) fun y18 _ => (if ¬ (y18 = 0) then (pf_call (F_X11_sumRight a1 a2 a3 V0) fun y25 V23 => (y25, V23)) else (((-1), V0)))))))
theorem F_X11_right_eq (a1 a2 a3 : Int) (V0 : pm_M) : F_X11_right a1 a2 a3 V0 = pf_call (F_X11_isLaw a1 V0) fun y4 _ => (if y4 = 0 then (((-1), V0)) else (pf_call (F_X11_isPerson a2 V0) fun y11 _ => (if y11 = 0 then (((-1), V0)) else (pf_call (F_X11_isSetting a3 V0) fun y18 _ => (if ¬ (y18 = 0) then (pf_call (F_X11_sumRight a1 a2 a3 V0) fun y25 V23 => (y25, V23)) else (((-1), V0))))))) := rfl
noncomputable def F_X11_worth (a1 a2 a3 : Int) (V0 : pm_M) : Int × pm_M := pf_call (F_X11_isLaw a1 V0) fun y4 _ => (if y4 = 0 then (((-1), V0)) else (pf_call (F_X11_isPerson a2 V0) fun y11 _ => (if y11 = 0 then (((-1), V0)) else (pf_call (F_X11_isSetting a3 V0) fun y18 _ => (if ¬ (y18 = 0) then (pf_call (F_X11_sumRight a1 a2 a3 V0) fun y25 V23 => pf_val ((0 : Int), V0) (fun (q : Int × pm_M) => match q with | (x31, V33) => ((if (a3 / 10) < x31 then ((.inr ((-1), V33))) else (pf_call (F_X11_sumRight 0 a2 (a3 - (x31 * 10)) V33) fun y47 V45 => (if y47 < y25 then (pf_let (x31 + 1) fun x54 => (.inl (x54, V45))) else ((.inr (x31, V45)))))))) (0, V23)) else (((-1), V0)))))))
theorem F_X11_worth_eq (a1 a2 a3 : Int) (V0 : pm_M) : F_X11_worth a1 a2 a3 V0 = pf_call (F_X11_isLaw a1 V0) fun y4 _ => (if y4 = 0 then (((-1), V0)) else (pf_call (F_X11_isPerson a2 V0) fun y11 _ => (if y11 = 0 then (((-1), V0)) else (pf_call (F_X11_isSetting a3 V0) fun y18 _ => (if ¬ (y18 = 0) then (pf_call (F_X11_sumRight a1 a2 a3 V0) fun y25 V23 => pf_val ((0 : Int), V0) (fun (q : Int × pm_M) => match q with | (x31, V33) => ((if (a3 / 10) < x31 then ((.inr ((-1), V33))) else (pf_call (F_X11_sumRight 0 a2 (a3 - (x31 * 10)) V33) fun y47 V45 => (if y47 < y25 then (pf_let (x31 + 1) fun x54 => (.inl (x54, V45))) else ((.inr (x31, V45)))))))) (0, V23)) else (((-1), V0))))))) := rfl
noncomputable def F_X11_areLaws (a1 : Int) (V0 : pm_M) : Int × pm_M := (if a1 < 0 then ((0, V0)) else (pf_call (F_X11_isLaw (a1 / 10) V0) fun y5 _ => (if y5 = 0 then ((0, V0)) else (pf_call (F_X11_isLaw (a1 % 10) V0) fun y12 _ => (if y12 = 0 then ((0, V0)) else ((1, V0)))))))
theorem F_X11_areLaws_eq (a1 : Int) (V0 : pm_M) : F_X11_areLaws a1 V0 = (if a1 < 0 then ((0, V0)) else (pf_call (F_X11_isLaw (a1 / 10) V0) fun y5 _ => (if y5 = 0 then ((0, V0)) else (pf_call (F_X11_isLaw (a1 % 10) V0) fun y12 _ => (if y12 = 0 then ((0, V0)) else ((1, V0))))))) := rfl
set_option maxHeartbeats 4000000 in
set_option maxRecDepth 100000 in
theorem fD_X11_foretold_0 (a1 a2 a3 : Int) (h0 : (-2147483648) ≤ a1 ∧ a1 ≤ 2147483647) (h1 : (-2147483648) ≤ a2 ∧ a2 ≤ 2147483647) (h2 : (-2147483648) ≤ a3 ∧ a3 ≤ 2147483647) : pm_K 5 yX11_foretold cX11_foretold 8 (some .int) (fun av V => av = [(3, 0), (0, a1), (0, a2), (0, a3)] ∧ pm_ok 0 90 V) (fun _ V r V' => ∃ y, r = some (0, y) ∧ ((-2147483648) ≤ y ∧ y ≤ 2147483647) ∧ pm_ok 0 90 V' ∧ pm_ff [74, 75, 76, 77] [(73, 0), (73, 1), (73, 2), (73, 3), (73, 4), (73, 5), (73, 6), (73, 7), (73, 10), (73, 11), (73, 12), (73, 14)] V V' ∧ F_X11_foretold a1 a2 a3 V = (y, V')) := by
  refine pm_MT.of (by decide) ⟨Nat.le_refl _, by decide⟩ (fun av V h => by rw [h.1]; exact (by decide : pm_words [(3, 0), (0, 0), (0, 0), (0, 0)] ≤ 8)) ?_
  rintro X av V0 hC - hR ⟨rfl, hV0⟩
  change pm_J X 0 [(0, (3, 0)), (1, (0, a1)), (2, (0, a2)), (3, (0, a3))] [] 118 V0
  have hT := F_X11_foretold_eq a1 a2 a3 V0
  refine pm_iload_n hC 1 dX11_foretold_0 rfl ?_
  refine pm_callS (as := [(0, a1)]) (st := []) hC (fD_X11_isLaw a1 ⟨by exact ow_79h_0 h0, by exact ow_79h_1 h0⟩) lm_X11_262 ls_X11_isLaw (by decide) (by decide) rfl rfl (Nat.le_of_ble_eq_true rfl) ⟨Nat.le_refl _, Or.inl rfl⟩ dX11_foretold_1 ⟨rfl, hV0⟩ (fun r1 V2 hp3 => ?_)
  obtain ⟨y4, rfl, b5, rfl, hE6⟩ := hp3
  replace hT := hT.trans (pf_call_eq hE6)
  change pm_J X 4 [(0, (3, 0)), (1, (0, a1)), (2, (0, a2)), (3, (0, a3))] [(0, y4)] 118 V0
  refine pm_if_eq (tgt := 30) hC ⟨by exact ow_79h_2 b5, by exact ow_79h_3 b5⟩ dX11_foretold_4 (by decide) (fun c7 => ?_) (fun c7 => ?_)
  · skip
    replace hT := hT.trans (if_pos c7)
    refine pm_iconst (v := 0) hC dX11_foretold_30 ?_
    refine pm_istore (lv' := [(4, (0, 0)), (0, (3, 0)), (1, (0, a1)), (2, (0, a2)), (3, (0, a3))]) hC dX11_foretold_31 (by decide) rfl ?_
    refine pm_iload hC 0 dX11_foretold_33 rfl ?_
    refine pm_if_eq (tgt := 46) hC ⟨by decide, by decide⟩ dX11_foretold_35 (by decide) (fun c8 => ?_) (fun c8 => ?_)
    · skip
      refine pm_iconst (v := 0) hC dX11_foretold_46 ?_
      refine pm_istore (lv' := [(5, (0, 0)), (4, (0, 0)), (0, (3, 0)), (1, (0, a1)), (2, (0, a2)), (3, (0, a3))]) hC dX11_foretold_47 (by decide) rfl ?_
      refine pm_iload hC 0 dX11_foretold_49 rfl ?_
      refine pm_if_gt (tgt := 56) hC ⟨by decide, by decide⟩ dX11_foretold_51 (by decide) (fun c9 => ?_) (fun c9 => ?_)
      · skip
        exfalso; exact ow_79h_4 c9
      · skip
        refine pm_iconst (v := (-1)) hC dX11_foretold_54 ?_
        exact pm_iret hC hR pm_nar0 ⟨(-1), rfl, ⟨by exact ow_79h_5, by exact ow_79h_6⟩, hV0, (pm_ff.rf (cs := [74, 75, 76, 77]) (fs := [(73, 0), (73, 1), (73, 2), (73, 3), (73, 4), (73, 5), (73, 6), (73, 7), (73, 10), (73, 11), (73, 12), (73, 14)]) (V := V0)), hT⟩ dX11_foretold_55
    · skip
      exfalso; exact ow_79h_7 c8
  · skip
    replace hT := hT.trans (if_neg c7)
    refine pm_iload_n hC 2 dX11_foretold_7 rfl ?_
    refine pm_callS (as := [(0, a2)]) (st := []) hC (fD_X11_isLandOrAll a2 ⟨by exact ow_79h_0 h1, by exact ow_79h_1 h1⟩) lm_X11_285 ls_X11_isLandOrAll (by decide) (by decide) rfl rfl (Nat.le_of_ble_eq_true rfl) ⟨Nat.le_refl _, Or.inl rfl⟩ dX11_foretold_8 ⟨rfl, hV0⟩ (fun r10 V11 hp12 => ?_)
    obtain ⟨y13, rfl, b14, rfl, hE15⟩ := hp12
    replace hT := hT.trans (pf_call_eq hE15)
    change pm_J X 11 [(0, (3, 0)), (1, (0, a1)), (2, (0, a2)), (3, (0, a3))] [(0, y13)] 118 V0
    refine pm_if_eq (tgt := 30) hC ⟨by exact ow_79h_8 b14, by exact ow_79h_9 b14⟩ dX11_foretold_11 (by decide) (fun c16 => ?_) (fun c16 => ?_)
    · skip
      replace hT := hT.trans (if_pos c16)
      refine pm_iconst (v := 0) hC dX11_foretold_30 ?_
      refine pm_istore (lv' := [(4, (0, 0)), (0, (3, 0)), (1, (0, a1)), (2, (0, a2)), (3, (0, a3))]) hC dX11_foretold_31 (by decide) rfl ?_
      refine pm_iload hC 0 dX11_foretold_33 rfl ?_
      refine pm_if_eq (tgt := 46) hC ⟨by decide, by decide⟩ dX11_foretold_35 (by decide) (fun c17 => ?_) (fun c17 => ?_)
      · skip
        refine pm_iconst (v := 0) hC dX11_foretold_46 ?_
        refine pm_istore (lv' := [(5, (0, 0)), (4, (0, 0)), (0, (3, 0)), (1, (0, a1)), (2, (0, a2)), (3, (0, a3))]) hC dX11_foretold_47 (by decide) rfl ?_
        refine pm_iload hC 0 dX11_foretold_49 rfl ?_
        refine pm_if_gt (tgt := 56) hC ⟨by decide, by decide⟩ dX11_foretold_51 (by decide) (fun c18 => ?_) (fun c18 => ?_)
        · skip
          exfalso; exact ow_79h_4 c18
        · skip
          refine pm_iconst (v := (-1)) hC dX11_foretold_54 ?_
          exact pm_iret hC hR pm_nar0 ⟨(-1), rfl, ⟨by exact ow_79h_5, by exact ow_79h_6⟩, hV0, (pm_ff.rf (cs := [74, 75, 76, 77]) (fs := [(73, 0), (73, 1), (73, 2), (73, 3), (73, 4), (73, 5), (73, 6), (73, 7), (73, 10), (73, 11), (73, 12), (73, 14)]) (V := V0)), hT⟩ dX11_foretold_55
      · skip
        exfalso; exact ow_79h_7 c17
    · skip
      replace hT := hT.trans (if_neg c16)
      refine pm_iload_n hC 3 dX11_foretold_14 rfl ?_
      refine pm_callS (as := [(0, a3)]) (st := []) hC (fD_X11_isKind a3 ⟨by exact ow_79h_0 h2, by exact ow_79h_1 h2⟩) lm_X11_215 ls_X11_isKind (by decide) (by decide) rfl rfl (Nat.le_of_ble_eq_true rfl) ⟨Nat.le_refl _, Or.inl rfl⟩ dX11_foretold_15 ⟨rfl, hV0⟩ (fun r19 V20 hp21 => ?_)
      obtain ⟨y22, rfl, b23, rfl, hE24⟩ := hp21
      replace hT := hT.trans (pf_call_eq hE24)
      change pm_J X 18 [(0, (3, 0)), (1, (0, a1)), (2, (0, a2)), (3, (0, a3))] [(0, y22)] 118 V0
      refine pm_if_ne (tgt := 26) hC ⟨by exact ow_79h_10 b23, by exact ow_79h_11 b23⟩ dX11_foretold_18 (by decide) (fun c25 => ?_) (fun c25 => ?_)
      · skip
        replace hT := hT.trans (if_pos c25)
        refine pm_iconst (v := 1) hC dX11_foretold_26 ?_
        refine pm_goto (tgt := 31) hC dX11_foretold_27 (by decide) ?_
        refine pm_istore (lv' := [(4, (0, 1)), (0, (3, 0)), (1, (0, a1)), (2, (0, a2)), (3, (0, a3))]) hC dX11_foretold_31 (by decide) rfl ?_
        refine pm_iload hC 0 dX11_foretold_33 rfl ?_
        refine pm_if_eq (tgt := 46) hC ⟨by decide, by decide⟩ dX11_foretold_35 (by decide) (fun c26 => ?_) (fun c26 => ?_)
        · skip
          exfalso; exact ow_79h_12 c26
        · skip
          refine pm_aload_n hC 1 (by decide) dX11_foretold_38 rfl ?_
          refine pm_iload_n hC 3 dX11_foretold_39 rfl ?_
          refine pm_callV (ci := 11) (as := [(0, a2)]) (st := []) hC 0 (fD_X11_countOfLand_0 a2 ⟨by exact ow_79h_0 h1, by exact ow_79h_1 h1⟩) lm_X11_288 li_X11_countOfLand (by decide) (by decide) rfl rfl rfl (by decide) rfl rfl (Nat.le_of_ble_eq_true rfl) ⟨Nat.le_refl _, Or.inl rfl⟩ dX11_foretold_40 ⟨rfl, hV0⟩ (fun r27 V28 hp29 => ?_)
          obtain ⟨y30, rfl, b31, rfl, hE32⟩ := hp29
          replace hT := hT.trans (pf_call_eq hE32)
          change pm_J X 43 [(4, (0, 1)), (0, (3, 0)), (1, (0, a1)), (2, (0, a2)), (3, (0, a3))] [(0, y30)] 118 V0
          refine pm_goto (tgt := 47) hC dX11_foretold_43 (by decide) ?_
          refine pm_istore (lv' := [(5, (0, y30)), (4, (0, 1)), (0, (3, 0)), (1, (0, a1)), (2, (0, a2)), (3, (0, a3))]) hC dX11_foretold_47 (by decide) rfl ?_
          refine pm_iload hC 0 dX11_foretold_49 rfl ?_
          refine pm_if_gt (tgt := 56) hC ⟨by exact ow_79h_13 b31, by exact ow_79h_14 b31⟩ dX11_foretold_51 (by decide) (fun c33 => ?_) (fun c33 => ?_)
          · skip
            replace hT := hT.trans (if_pos c33)
            refine pm_iconst (v := 0) hC dX11_foretold_56 ?_
            refine pm_istore (lv' := [(6, (0, 0)), (5, (0, y30)), (4, (0, 1)), (0, (3, 0)), (1, (0, a1)), (2, (0, a2)), (3, (0, a3))]) hC dX11_foretold_57 (by decide) rfl ?_
            refine pm_iconst (v := 0) hC dX11_foretold_59 ?_
            refine pm_istore (lv' := [(7, (0, 0)), (6, (0, 0)), (5, (0, y30)), (4, (0, 1)), (0, (3, 0)), (1, (0, a1)), (2, (0, a2)), (3, (0, a3))]) hC dX11_foretold_60 (by decide) rfl ?_
            obtain ⟨B41, hB42, hT⟩ := pf_loop hT
            have L44 : ∀ (N46 : Nat) (x34 : Int) (x36 : Int) (V38 : pm_M), ((-2147483648) ≤ x34 ∧ x34 ≤ 2147483647) → (0 ≤ x36 ∧ x36 ≤ 60) → pm_ok 0 90 V38 → pm_ff [74, 75, 76, 77] [(73, 0), (73, 1), (73, 2), (73, 3), (73, 4), (73, 5), (73, 6), (73, 7), (73, 10), (73, 11), (73, 12), (73, 14)] V0 V38 → F_X11_foretold a1 a2 a3 V0 = pf_val ((0 : Int), V0) B41 (x34, x36, V38) → (Int.toNat (60 - x36)) = N46 → pm_J X 62 [(0, (3, 0)), (1, (0, a1)), (2, (0, a2)), (3, (0, a3)), (4, (0, 1)), (5, (0, y30)), (6, (0, x34)), (7, (0, x36))] [] 118 V38 := by
              intro N46
              induction N46 using Nat.strongRecOn with
              | _ N46 ih47 =>
              intro x34 x36 V38 b35 b37 hV39 hF40 hT hm45
              have hb43 := congrFun hB42 (x34, x36, V38)
              refine pm_iload hC 7 dX11_foretold_62 rfl ?_
              refine pm_aload_n hC 0 (by decide) dX11_foretold_64 rfl ?_
              have e48 : V38 0 3 = 4 := hV39.one 0 3 (by decide) (by decide) rfl
              refine pm_getf (v := 4) hC 0 fl_X11_24 rfl rfl (by decide) rfl e48 dX11_foretold_65 ?_
              obtain ⟨y49, e50⟩ : ∃ y, V38 4 6 = y := ⟨_, rfl⟩
              have b51 := hV39.get 4 6 (lo := 0) (hi := 60) (by decide) (by decide) rfl
              rw [e50] at b51
              replace hb43 := hb43.trans (pf_let_eq e50)
              refine pm_getf (v := y49) hC 4 fl_X11_162 rfl rfl (by decide) rfl e50 dX11_foretold_68 ?_
              refine pm_icmp_ge (tgt := 160) hC ⟨by exact ow_79h_13 b37, by exact ow_79h_14 b37⟩ ⟨by exact ow_79h_13 b51, by exact ow_79h_14 b51⟩ dX11_foretold_71 (by decide) (fun c52 => ?_) (fun c52 => ?_)
              · skip
                replace hb43 := hb43.trans (if_pos c52)
                refine pm_iload hC 6 dX11_foretold_160 rfl ?_
                refine pm_iload hC 5 dX11_foretold_162 rfl ?_
                refine pm_idivT hC ⟨by exact ow_79h_0 b35, by exact ow_79h_1 b35⟩ ⟨by exact ow_79h_15 c33, by exact ow_79h_14 b31⟩ (by exact ow_79h_16 c33) dX11_foretold_164 ?_
                refine pm_wr hC (fun y53 hw55 b54 => ?_)
                replace hb43 := hb43.trans (pf_let_eq hw55)
                have b54 := And.intro b54.1 b54.2
                replace hT := hT.trans (pf_val_inr hb43)
                exact pm_iret hC hR pm_nar0 ⟨y53, rfl, ⟨by exact ow_79h_0 b54, by exact ow_79h_1 b54⟩, hV39, hF40, hT⟩ dX11_foretold_165
              · skip
                replace hb43 := hb43.trans (if_neg (Int.not_le.mpr c52))
                refine pm_aload_n hC 0 (by decide) dX11_foretold_74 rfl ?_
                refine pm_iload hC 7 dX11_foretold_75 rfl ?_
                refine pm_iload_n hC 2 dX11_foretold_77 rfl ?_
                refine pm_callV (ci := 11) (as := [(0, x36), (0, a2)]) (st := []) hC 0 (fD_X11_isOfLand_0 x36 a2 ⟨by exact ow_79h_17 b37, by exact ow_79h_18 b51 c52⟩ ⟨by exact ow_79h_0 h1, by exact ow_79h_1 h1⟩) lm_X11_291 li_X11_isOfLand (by decide) (by decide) rfl rfl rfl (by decide) rfl rfl (Nat.le_of_ble_eq_true rfl) ⟨Nat.le_refl _, Or.inl rfl⟩ dX11_foretold_78 ⟨rfl, hV39⟩ (fun r56 V57 hp58 => ?_)
                obtain ⟨y59, rfl, b60, rfl, hE61⟩ := hp58
                replace hb43 := hb43.trans (pf_call_eq hE61)
                change pm_J X 81 [(0, (3, 0)), (1, (0, a1)), (2, (0, a2)), (3, (0, a3)), (4, (0, 1)), (5, (0, y30)), (6, (0, x34)), (7, (0, x36))] [(0, y59)] 118 V38
                refine pm_if_eq (tgt := 154) hC ⟨by exact ow_79h_19 b60, by exact ow_79h_20 b60⟩ dX11_foretold_81 (by decide) (fun c62 => ?_) (fun c62 => ?_)
                · skip
                  replace hb43 := hb43.trans (if_pos c62)
                  obtain ⟨x63, ei64⟩ : ∃ y : Int, x36 + 1 = y := ⟨_, rfl⟩
                  replace hb43 := hb43.trans (pf_let_eq ei64)
                  refine pm_iinc (y := x63) (lv' := [(7, (0, x63)), (0, (3, 0)), (1, (0, a1)), (2, (0, a2)), (3, (0, a3)), (4, (0, 1)), (5, (0, y30)), (6, (0, x34))]) hC 7 dX11_foretold_154 (by decide) rfl ei64 rfl ?_
                  refine pm_goto (tgt := 62) hC dX11_foretold_157 (by decide) ?_
                  refine pm_lvsub [1, 2, 3, 4, 5, 6, 7, 0] (lv' := [(0, (3, 0)), (1, (0, a1)), (2, (0, a2)), (3, (0, a3)), (4, (0, 1)), (5, (0, y30)), (6, (0, x34)), (7, (0, x63))]) rfl ?_
                  exact ih47 _ (by exact ow_79h_21 hm45 b51 c52 ei64) x34 x63 V38 ⟨by exact ow_79h_0 b35, by exact ow_79h_1 b35⟩ ⟨by exact ow_79h_22 b37 ei64, by exact ow_79h_23 b51 c52 ei64⟩ hV39 hF40 (hT.trans (pf_val_inl hb43)) rfl
                · skip
                  replace hb43 := hb43.trans (if_neg c62)
                  refine pm_aload_n hC 0 (by decide) dX11_foretold_84 rfl ?_
                  refine pm_aload_n hC 0 (by decide) dX11_foretold_85 rfl ?_
                  refine pm_getf (v := 4) hC 0 fl_X11_24 rfl rfl (by decide) rfl e48 dX11_foretold_86 ?_
                  have e65 : V38 4 7 = 9 := hV39.one 4 7 (by decide) (by decide) rfl
                  refine pm_getf (v := 9) hC 4 fl_X11_243 rfl rfl (by decide) rfl e65 dX11_foretold_89 ?_
                  refine pm_iload hC 7 dX11_foretold_92 rfl ?_
                  obtain ⟨y66, e67⟩ : ∃ y, V38 9 (x36 : Int).toNat = y := ⟨_, rfl⟩
                  replace hb43 := hb43.trans (pf_let_eq e67)
                  have b68 := hV39.get1 9 (x36 : Int).toNat (lo := 0) (hi := 999) (by decide) (show _ < 60 by exact ow_79h_24 b51 c52) rfl
                  rw [e67] at b68
                  refine pm_iaload (len := 60) (v := y66) hC 9 rfl rfl (by decide) ⟨by exact ow_79h_17 b37, by exact ow_79h_25 b51 c52⟩ (by decide) e67 dX11_foretold_94 ?_
                  refine pm_aload_n hC 0 (by decide) dX11_foretold_95 rfl ?_
                  refine pm_getf (v := 4) hC 0 fl_X11_24 rfl rfl (by decide) rfl e48 dX11_foretold_96 ?_
                  have e69 : V38 4 8 = 10 := hV39.one 4 8 (by decide) (by decide) rfl
                  refine pm_getf (v := 10) hC 4 fl_X11_246 rfl rfl (by decide) rfl e69 dX11_foretold_99 ?_
                  refine pm_iload hC 7 dX11_foretold_102 rfl ?_
                  obtain ⟨y70, e71⟩ : ∃ y, V38 10 (x36 : Int).toNat = y := ⟨_, rfl⟩
                  replace hb43 := hb43.trans (pf_let_eq e71)
                  have b72 := hV39.get 10 (x36 : Int).toNat (lo := 0) (hi := 99) (by decide) (show _ < 60 by exact ow_79h_24 b51 c52) rfl
                  rw [e71] at b72
                  refine pm_iaload (len := 60) (v := y70) hC 10 rfl rfl (by decide) ⟨by exact ow_79h_17 b37, by exact ow_79h_25 b51 c52⟩ (by decide) e71 dX11_foretold_104 ?_
                  refine pm_aload_n hC 0 (by decide) dX11_foretold_105 rfl ?_
                  refine pm_getf (v := 4) hC 0 fl_X11_24 rfl rfl (by decide) rfl e48 dX11_foretold_106 ?_
                  have e73 : V38 4 9 = 11 := hV39.one 4 9 (by decide) (by decide) rfl
                  refine pm_getf (v := 11) hC 4 fl_X11_249 rfl rfl (by decide) rfl e73 dX11_foretold_109 ?_
                  refine pm_iload hC 7 dX11_foretold_112 rfl ?_
                  obtain ⟨y74, e75⟩ : ∃ y, V38 11 (x36 : Int).toNat = y := ⟨_, rfl⟩
                  replace hb43 := hb43.trans (pf_let_eq e75)
                  have b76 := hV39.get 11 (x36 : Int).toNat (lo := (-99)) (hi := 99) (by decide) (show _ < 60 by exact ow_79h_24 b51 c52) rfl
                  rw [e75] at b76
                  refine pm_iaload (len := 60) (v := y74) hC 11 rfl rfl (by decide) ⟨by exact ow_79h_17 b37, by exact ow_79h_25 b51 c52⟩ (by decide) e75 dX11_foretold_114 ?_
                  refine pm_callV (ci := 11) (as := [(0, y66), (0, y70), (0, y74)]) (st := []) hC 0 (fD_X11_pose_0 y66 y70 y74 ⟨by exact ow_79h_26 b68, by exact ow_79h_27 b68⟩ ⟨by exact ow_79h_28 b72, by exact ow_79h_29 b72⟩ ⟨by exact ow_79h_30 b76, by exact ow_79h_31 b76⟩ (by exact ow_79h_32 b68)) lm_X11_229 li_X11_pose (by decide) (by decide) rfl rfl rfl (by decide) rfl rfl (Nat.le_of_ble_eq_true rfl) ⟨Nat.le_refl _, Or.inl rfl⟩ dX11_foretold_115 ⟨rfl, hV39⟩ (fun r77 V78 hp79 => ?_)
                  obtain ⟨rfl, hV80, hF81, hE82⟩ := hp79
                  replace hb43 := hb43.trans (pf_call_eq hE82)
                  change pm_J X 118 [(0, (3, 0)), (1, (0, a1)), (2, (0, a2)), (3, (0, a3)), (4, (0, 1)), (5, (0, y30)), (6, (0, x34)), (7, (0, x36))] [] 118 V78
                  have hF83 := pm_ff.tr hF40 hF81 (by decide) (by decide)
                  have e84 : V78 0 3 = 4 := by rw [hF81 0 3 (by decide) (by decide)]; exact e48
                  have e85 : V78 4 6 = y49 := by rw [hF81 4 6 (by decide) (by decide)]; exact e50
                  have e86 : V78 4 7 = 9 := by rw [hF81 4 7 (by decide) (by decide)]; exact e65
                  have e87 : V78 4 8 = 10 := by rw [hF81 4 8 (by decide) (by decide)]; exact e69
                  have e88 : V78 4 9 = 11 := by rw [hF81 4 9 (by decide) (by decide)]; exact e73
                  refine pm_aload_n hC 0 (by decide) dX11_foretold_118 rfl ?_
                  have e89 : V78 0 5 = 73 := hV80.one 0 5 (by decide) (by decide) rfl
                  refine pm_getf (v := 73) hC 0 fl_X11_75 rfl rfl (by decide) rfl e89 dX11_foretold_119 ?_
                  refine pm_iload_n hC 1 dX11_foretold_122 rfl ?_
                  refine pm_callV (ci := 10) (as := [(0, a1)]) (st := []) hC 73 (fD_X10_weigh_73 a1 ⟨by exact ow_79h_0 h0, by exact ow_79h_1 h0⟩) lm_X11_294 li_X10_weigh (by decide) (by decide) rfl rfl rfl (by decide) rfl rfl (Nat.le_of_ble_eq_true rfl) ⟨Nat.le_refl _, Or.inl rfl⟩ dX11_foretold_123 ⟨rfl, hV80⟩ (fun r90 V91 hp92 => ?_)
                  obtain ⟨rfl, hV93, hF94, hE95⟩ := hp92
                  replace hb43 := hb43.trans (pf_call_eq hE95)
                  change pm_J X 126 [(0, (3, 0)), (1, (0, a1)), (2, (0, a2)), (3, (0, a3)), (4, (0, 1)), (5, (0, y30)), (6, (0, x34)), (7, (0, x36))] [] 118 V91
                  have hF96 := pm_ff.tr hF83 hF94 (by decide) (by decide)
                  have e97 : V91 0 3 = 4 := by rw [hF94 0 3 (by decide) (by decide)]; exact e84
                  have e98 : V91 4 6 = y49 := by rw [hF94 4 6 (by decide) (by decide)]; exact e85
                  have e99 : V91 4 7 = 9 := by rw [hF94 4 7 (by decide) (by decide)]; exact e86
                  have e100 : V91 4 8 = 10 := by rw [hF94 4 8 (by decide) (by decide)]; exact e87
                  have e101 : V91 4 9 = 11 := by rw [hF94 4 9 (by decide) (by decide)]; exact e88
                  have e102 : V91 0 5 = 73 := by rw [hF94 0 5 (by decide) (by decide)]; exact e89
                  refine pm_iload hC 6 dX11_foretold_126 rfl ?_
                  refine pm_iload_n hC 3 dX11_foretold_128 rfl ?_
                  refine pm_iconst (v := 4) hC dX11_foretold_129 ?_
                  refine pm_icmp_ne (tgt := 143) hC ⟨by exact ow_79h_0 h2, by exact ow_79h_1 h2⟩ ⟨by decide, by decide⟩ dX11_foretold_130 (by decide) (fun c103 => ?_) (fun c103 => ?_)
                  · skip
                    replace hb43 := hb43.trans (if_pos c103)
                    refine pm_aload_n hC 0 (by decide) dX11_foretold_143 rfl ?_
                    refine pm_getf (v := 73) hC 0 fl_X11_75 rfl rfl (by decide) rfl e102 dX11_foretold_144 ?_
                    refine pm_iload_n hC 3 dX11_foretold_147 rfl ?_
                    refine pm_callV (ci := 10) (as := [(0, a3)]) (st := [(0, x34)]) hC 73 (fD_X10_chanceOfKind_73 a3 ⟨by exact ow_79h_0 h2, by exact ow_79h_1 h2⟩) lm_X11_218 li_X10_chanceOfKind (by decide) (by decide) rfl rfl rfl (by decide) rfl rfl (Nat.le_of_ble_eq_true rfl) ⟨Nat.le_refl _, Or.inl rfl⟩ dX11_foretold_148 ⟨rfl, hV93⟩ (fun r104 V105 hp106 => ?_)
                    obtain ⟨y107, rfl, b108, rfl, hE109⟩ := hp106
                    replace hb43 := hb43.trans (pf_call_eq hE109)
                    change pm_J X 151 [(0, (3, 0)), (1, (0, a1)), (2, (0, a2)), (3, (0, a3)), (4, (0, 1)), (5, (0, y30)), (6, (0, x34)), (7, (0, x36))] [(0, y107), (0, x34)] 118 V91
                    refine pm_iadd hC dX11_foretold_151 ?_
                    refine pm_wr hC (fun y110 hw112 b111 => ?_)
                    replace hb43 := hb43.trans (pf_let_eq hw112)
                    have b111 := And.intro b111.1 b111.2
                    refine pm_istore (lv' := [(6, (0, y110)), (0, (3, 0)), (1, (0, a1)), (2, (0, a2)), (3, (0, a3)), (4, (0, 1)), (5, (0, y30)), (7, (0, x36))]) hC dX11_foretold_152 (by decide) rfl ?_
                    obtain ⟨x113, ei114⟩ : ∃ y : Int, x36 + 1 = y := ⟨_, rfl⟩
                    replace hb43 := hb43.trans (pf_let_eq ei114)
                    refine pm_iinc (y := x113) (lv' := [(7, (0, x113)), (6, (0, y110)), (0, (3, 0)), (1, (0, a1)), (2, (0, a2)), (3, (0, a3)), (4, (0, 1)), (5, (0, y30))]) hC 7 dX11_foretold_154 (by decide) rfl ei114 rfl ?_
                    refine pm_goto (tgt := 62) hC dX11_foretold_157 (by decide) ?_
                    refine pm_lvsub [2, 3, 4, 5, 6, 7, 1, 0] (lv' := [(0, (3, 0)), (1, (0, a1)), (2, (0, a2)), (3, (0, a3)), (4, (0, 1)), (5, (0, y30)), (6, (0, y110)), (7, (0, x113))]) rfl ?_
                    exact ih47 _ (by exact ow_79h_21 hm45 b51 c52 ei114) y110 x113 V91 ⟨by exact ow_79h_0 b111, by exact ow_79h_1 b111⟩ ⟨by exact ow_79h_22 b37 ei114, by exact ow_79h_23 b51 c52 ei114⟩ hV93 hF96 (hT.trans (pf_val_inl hb43)) rfl
                  · skip
                    replace hb43 := hb43.trans (if_neg (fun q => q c103))
                    exfalso; exact ow_79h_33 b23 c25 c103
            refine pm_lvsub [4, 5, 6, 7, 3, 2, 1, 0] (lv' := [(0, (3, 0)), (1, (0, a1)), (2, (0, a2)), (3, (0, a3)), (4, (0, 1)), (5, (0, y30)), (6, (0, 0)), (7, (0, 0))]) rfl ?_
            exact L44 _ 0 0 V0 ⟨by decide, by decide⟩ ⟨by decide, by decide⟩ hV0 (pm_ff.rf (cs := [74, 75, 76, 77]) (fs := [(73, 0), (73, 1), (73, 2), (73, 3), (73, 4), (73, 5), (73, 6), (73, 7), (73, 10), (73, 11), (73, 12), (73, 14)]) (V := V0)) hT rfl
          · skip
            replace hT := hT.trans (if_neg (Int.not_lt.mpr c33))
            refine pm_iconst (v := (-1)) hC dX11_foretold_54 ?_
            exact pm_iret hC hR pm_nar0 ⟨(-1), rfl, ⟨by exact ow_79h_5, by exact ow_79h_6⟩, hV0, (pm_ff.rf (cs := [74, 75, 76, 77]) (fs := [(73, 0), (73, 1), (73, 2), (73, 3), (73, 4), (73, 5), (73, 6), (73, 7), (73, 10), (73, 11), (73, 12), (73, 14)]) (V := V0)), hT⟩ dX11_foretold_55
      · skip
        replace hT := hT.trans (if_neg (fun q => q c25))
        refine pm_iload_n hC 3 dX11_foretold_21 rfl ?_
        refine pm_iconst (v := 4) hC dX11_foretold_22 ?_
        refine pm_icmp_ne (tgt := 30) hC ⟨by exact ow_79h_0 h2, by exact ow_79h_1 h2⟩ ⟨by decide, by decide⟩ dX11_foretold_23 (by decide) (fun c115 => ?_) (fun c115 => ?_)
        · skip
          replace hT := hT.trans (if_pos c115)
          refine pm_iconst (v := 0) hC dX11_foretold_30 ?_
          refine pm_istore (lv' := [(4, (0, 0)), (0, (3, 0)), (1, (0, a1)), (2, (0, a2)), (3, (0, a3))]) hC dX11_foretold_31 (by decide) rfl ?_
          refine pm_iload hC 0 dX11_foretold_33 rfl ?_
          refine pm_if_eq (tgt := 46) hC ⟨by decide, by decide⟩ dX11_foretold_35 (by decide) (fun c116 => ?_) (fun c116 => ?_)
          · skip
            refine pm_iconst (v := 0) hC dX11_foretold_46 ?_
            refine pm_istore (lv' := [(5, (0, 0)), (4, (0, 0)), (0, (3, 0)), (1, (0, a1)), (2, (0, a2)), (3, (0, a3))]) hC dX11_foretold_47 (by decide) rfl ?_
            refine pm_iload hC 0 dX11_foretold_49 rfl ?_
            refine pm_if_gt (tgt := 56) hC ⟨by decide, by decide⟩ dX11_foretold_51 (by decide) (fun c117 => ?_) (fun c117 => ?_)
            · skip
              exfalso; exact ow_79h_4 c117
            · skip
              refine pm_iconst (v := (-1)) hC dX11_foretold_54 ?_
              exact pm_iret hC hR pm_nar0 ⟨(-1), rfl, ⟨by exact ow_79h_5, by exact ow_79h_6⟩, hV0, (pm_ff.rf (cs := [74, 75, 76, 77]) (fs := [(73, 0), (73, 1), (73, 2), (73, 3), (73, 4), (73, 5), (73, 6), (73, 7), (73, 10), (73, 11), (73, 12), (73, 14)]) (V := V0)), hT⟩ dX11_foretold_55
          · skip
            exfalso; exact ow_79h_7 c116
        · skip
          replace hT := hT.trans (if_neg (fun q => q c115))
          refine pm_iconst (v := 1) hC dX11_foretold_26 ?_
          refine pm_goto (tgt := 31) hC dX11_foretold_27 (by decide) ?_
          refine pm_istore (lv' := [(4, (0, 1)), (0, (3, 0)), (1, (0, a1)), (2, (0, a2)), (3, (0, a3))]) hC dX11_foretold_31 (by decide) rfl ?_
          refine pm_iload hC 0 dX11_foretold_33 rfl ?_
          refine pm_if_eq (tgt := 46) hC ⟨by decide, by decide⟩ dX11_foretold_35 (by decide) (fun c118 => ?_) (fun c118 => ?_)
          · skip
            exfalso; exact ow_79h_12 c118
          · skip
            refine pm_aload_n hC 1 (by decide) dX11_foretold_38 rfl ?_
            refine pm_iload_n hC 3 dX11_foretold_39 rfl ?_
            refine pm_callV (ci := 11) (as := [(0, a2)]) (st := []) hC 0 (fD_X11_countOfLand_0 a2 ⟨by exact ow_79h_0 h1, by exact ow_79h_1 h1⟩) lm_X11_288 li_X11_countOfLand (by decide) (by decide) rfl rfl rfl (by decide) rfl rfl (Nat.le_of_ble_eq_true rfl) ⟨Nat.le_refl _, Or.inl rfl⟩ dX11_foretold_40 ⟨rfl, hV0⟩ (fun r119 V120 hp121 => ?_)
            obtain ⟨y122, rfl, b123, rfl, hE124⟩ := hp121
            replace hT := hT.trans (pf_call_eq hE124)
            change pm_J X 43 [(4, (0, 1)), (0, (3, 0)), (1, (0, a1)), (2, (0, a2)), (3, (0, a3))] [(0, y122)] 118 V0
            refine pm_goto (tgt := 47) hC dX11_foretold_43 (by decide) ?_
            refine pm_istore (lv' := [(5, (0, y122)), (4, (0, 1)), (0, (3, 0)), (1, (0, a1)), (2, (0, a2)), (3, (0, a3))]) hC dX11_foretold_47 (by decide) rfl ?_
            refine pm_iload hC 0 dX11_foretold_49 rfl ?_
            refine pm_if_gt (tgt := 56) hC ⟨by exact ow_79h_13 b123, by exact ow_79h_14 b123⟩ dX11_foretold_51 (by decide) (fun c125 => ?_) (fun c125 => ?_)
            · skip
              replace hT := hT.trans (if_pos c125)
              refine pm_iconst (v := 0) hC dX11_foretold_56 ?_
              refine pm_istore (lv' := [(6, (0, 0)), (5, (0, y122)), (4, (0, 1)), (0, (3, 0)), (1, (0, a1)), (2, (0, a2)), (3, (0, a3))]) hC dX11_foretold_57 (by decide) rfl ?_
              refine pm_iconst (v := 0) hC dX11_foretold_59 ?_
              refine pm_istore (lv' := [(7, (0, 0)), (6, (0, 0)), (5, (0, y122)), (4, (0, 1)), (0, (3, 0)), (1, (0, a1)), (2, (0, a2)), (3, (0, a3))]) hC dX11_foretold_60 (by decide) rfl ?_
              obtain ⟨B133, hB134, hT⟩ := pf_loop hT
              have L136 : ∀ (N138 : Nat) (x126 : Int) (x128 : Int) (V130 : pm_M), ((-2147483648) ≤ x126 ∧ x126 ≤ 2147483647) → (0 ≤ x128 ∧ x128 ≤ 60) → pm_ok 0 90 V130 → pm_ff [74, 75, 76, 77] [(73, 0), (73, 1), (73, 2), (73, 3), (73, 4), (73, 5), (73, 6), (73, 7), (73, 10), (73, 11), (73, 12), (73, 14)] V0 V130 → F_X11_foretold a1 a2 a3 V0 = pf_val ((0 : Int), V0) B133 (x126, x128, V130) → (Int.toNat (60 - x128)) = N138 → pm_J X 62 [(0, (3, 0)), (1, (0, a1)), (2, (0, a2)), (3, (0, a3)), (4, (0, 1)), (5, (0, y122)), (6, (0, x126)), (7, (0, x128))] [] 118 V130 := by
                intro N138
                induction N138 using Nat.strongRecOn with
                | _ N138 ih139 =>
                intro x126 x128 V130 b127 b129 hV131 hF132 hT hm137
                have hb135 := congrFun hB134 (x126, x128, V130)
                refine pm_iload hC 7 dX11_foretold_62 rfl ?_
                refine pm_aload_n hC 0 (by decide) dX11_foretold_64 rfl ?_
                have e140 : V130 0 3 = 4 := hV131.one 0 3 (by decide) (by decide) rfl
                refine pm_getf (v := 4) hC 0 fl_X11_24 rfl rfl (by decide) rfl e140 dX11_foretold_65 ?_
                obtain ⟨y141, e142⟩ : ∃ y, V130 4 6 = y := ⟨_, rfl⟩
                have b143 := hV131.get 4 6 (lo := 0) (hi := 60) (by decide) (by decide) rfl
                rw [e142] at b143
                replace hb135 := hb135.trans (pf_let_eq e142)
                refine pm_getf (v := y141) hC 4 fl_X11_162 rfl rfl (by decide) rfl e142 dX11_foretold_68 ?_
                refine pm_icmp_ge (tgt := 160) hC ⟨by exact ow_79h_13 b129, by exact ow_79h_14 b129⟩ ⟨by exact ow_79h_13 b143, by exact ow_79h_14 b143⟩ dX11_foretold_71 (by decide) (fun c144 => ?_) (fun c144 => ?_)
                · skip
                  replace hb135 := hb135.trans (if_pos c144)
                  refine pm_iload hC 6 dX11_foretold_160 rfl ?_
                  refine pm_iload hC 5 dX11_foretold_162 rfl ?_
                  refine pm_idivT hC ⟨by exact ow_79h_0 b127, by exact ow_79h_1 b127⟩ ⟨by exact ow_79h_15 c125, by exact ow_79h_14 b123⟩ (by exact ow_79h_16 c125) dX11_foretold_164 ?_
                  refine pm_wr hC (fun y145 hw147 b146 => ?_)
                  replace hb135 := hb135.trans (pf_let_eq hw147)
                  have b146 := And.intro b146.1 b146.2
                  replace hT := hT.trans (pf_val_inr hb135)
                  exact pm_iret hC hR pm_nar0 ⟨y145, rfl, ⟨by exact ow_79h_0 b146, by exact ow_79h_1 b146⟩, hV131, hF132, hT⟩ dX11_foretold_165
                · skip
                  replace hb135 := hb135.trans (if_neg (Int.not_le.mpr c144))
                  refine pm_aload_n hC 0 (by decide) dX11_foretold_74 rfl ?_
                  refine pm_iload hC 7 dX11_foretold_75 rfl ?_
                  refine pm_iload_n hC 2 dX11_foretold_77 rfl ?_
                  refine pm_callV (ci := 11) (as := [(0, x128), (0, a2)]) (st := []) hC 0 (fD_X11_isOfLand_0 x128 a2 ⟨by exact ow_79h_17 b129, by exact ow_79h_18 b143 c144⟩ ⟨by exact ow_79h_0 h1, by exact ow_79h_1 h1⟩) lm_X11_291 li_X11_isOfLand (by decide) (by decide) rfl rfl rfl (by decide) rfl rfl (Nat.le_of_ble_eq_true rfl) ⟨Nat.le_refl _, Or.inl rfl⟩ dX11_foretold_78 ⟨rfl, hV131⟩ (fun r148 V149 hp150 => ?_)
                  obtain ⟨y151, rfl, b152, rfl, hE153⟩ := hp150
                  replace hb135 := hb135.trans (pf_call_eq hE153)
                  change pm_J X 81 [(0, (3, 0)), (1, (0, a1)), (2, (0, a2)), (3, (0, a3)), (4, (0, 1)), (5, (0, y122)), (6, (0, x126)), (7, (0, x128))] [(0, y151)] 118 V130
                  refine pm_if_eq (tgt := 154) hC ⟨by exact ow_79h_19 b152, by exact ow_79h_20 b152⟩ dX11_foretold_81 (by decide) (fun c154 => ?_) (fun c154 => ?_)
                  · skip
                    replace hb135 := hb135.trans (if_pos c154)
                    obtain ⟨x155, ei156⟩ : ∃ y : Int, x128 + 1 = y := ⟨_, rfl⟩
                    replace hb135 := hb135.trans (pf_let_eq ei156)
                    refine pm_iinc (y := x155) (lv' := [(7, (0, x155)), (0, (3, 0)), (1, (0, a1)), (2, (0, a2)), (3, (0, a3)), (4, (0, 1)), (5, (0, y122)), (6, (0, x126))]) hC 7 dX11_foretold_154 (by decide) rfl ei156 rfl ?_
                    refine pm_goto (tgt := 62) hC dX11_foretold_157 (by decide) ?_
                    refine pm_lvsub [1, 2, 3, 4, 5, 6, 7, 0] (lv' := [(0, (3, 0)), (1, (0, a1)), (2, (0, a2)), (3, (0, a3)), (4, (0, 1)), (5, (0, y122)), (6, (0, x126)), (7, (0, x155))]) rfl ?_
                    exact ih139 _ (by exact ow_79h_21 hm137 b143 c144 ei156) x126 x155 V130 ⟨by exact ow_79h_0 b127, by exact ow_79h_1 b127⟩ ⟨by exact ow_79h_22 b129 ei156, by exact ow_79h_23 b143 c144 ei156⟩ hV131 hF132 (hT.trans (pf_val_inl hb135)) rfl
                  · skip
                    replace hb135 := hb135.trans (if_neg c154)
                    refine pm_aload_n hC 0 (by decide) dX11_foretold_84 rfl ?_
                    refine pm_aload_n hC 0 (by decide) dX11_foretold_85 rfl ?_
                    refine pm_getf (v := 4) hC 0 fl_X11_24 rfl rfl (by decide) rfl e140 dX11_foretold_86 ?_
                    have e157 : V130 4 7 = 9 := hV131.one 4 7 (by decide) (by decide) rfl
                    refine pm_getf (v := 9) hC 4 fl_X11_243 rfl rfl (by decide) rfl e157 dX11_foretold_89 ?_
                    refine pm_iload hC 7 dX11_foretold_92 rfl ?_
                    obtain ⟨y158, e159⟩ : ∃ y, V130 9 (x128 : Int).toNat = y := ⟨_, rfl⟩
                    replace hb135 := hb135.trans (pf_let_eq e159)
                    have b160 := hV131.get1 9 (x128 : Int).toNat (lo := 0) (hi := 999) (by decide) (show _ < 60 by exact ow_79h_24 b143 c144) rfl
                    rw [e159] at b160
                    refine pm_iaload (len := 60) (v := y158) hC 9 rfl rfl (by decide) ⟨by exact ow_79h_17 b129, by exact ow_79h_25 b143 c144⟩ (by decide) e159 dX11_foretold_94 ?_
                    refine pm_aload_n hC 0 (by decide) dX11_foretold_95 rfl ?_
                    refine pm_getf (v := 4) hC 0 fl_X11_24 rfl rfl (by decide) rfl e140 dX11_foretold_96 ?_
                    have e161 : V130 4 8 = 10 := hV131.one 4 8 (by decide) (by decide) rfl
                    refine pm_getf (v := 10) hC 4 fl_X11_246 rfl rfl (by decide) rfl e161 dX11_foretold_99 ?_
                    refine pm_iload hC 7 dX11_foretold_102 rfl ?_
                    obtain ⟨y162, e163⟩ : ∃ y, V130 10 (x128 : Int).toNat = y := ⟨_, rfl⟩
                    replace hb135 := hb135.trans (pf_let_eq e163)
                    have b164 := hV131.get 10 (x128 : Int).toNat (lo := 0) (hi := 99) (by decide) (show _ < 60 by exact ow_79h_24 b143 c144) rfl
                    rw [e163] at b164
                    refine pm_iaload (len := 60) (v := y162) hC 10 rfl rfl (by decide) ⟨by exact ow_79h_17 b129, by exact ow_79h_25 b143 c144⟩ (by decide) e163 dX11_foretold_104 ?_
                    refine pm_aload_n hC 0 (by decide) dX11_foretold_105 rfl ?_
                    refine pm_getf (v := 4) hC 0 fl_X11_24 rfl rfl (by decide) rfl e140 dX11_foretold_106 ?_
                    have e165 : V130 4 9 = 11 := hV131.one 4 9 (by decide) (by decide) rfl
                    refine pm_getf (v := 11) hC 4 fl_X11_249 rfl rfl (by decide) rfl e165 dX11_foretold_109 ?_
                    refine pm_iload hC 7 dX11_foretold_112 rfl ?_
                    obtain ⟨y166, e167⟩ : ∃ y, V130 11 (x128 : Int).toNat = y := ⟨_, rfl⟩
                    replace hb135 := hb135.trans (pf_let_eq e167)
                    have b168 := hV131.get 11 (x128 : Int).toNat (lo := (-99)) (hi := 99) (by decide) (show _ < 60 by exact ow_79h_24 b143 c144) rfl
                    rw [e167] at b168
                    refine pm_iaload (len := 60) (v := y166) hC 11 rfl rfl (by decide) ⟨by exact ow_79h_17 b129, by exact ow_79h_25 b143 c144⟩ (by decide) e167 dX11_foretold_114 ?_
                    refine pm_callV (ci := 11) (as := [(0, y158), (0, y162), (0, y166)]) (st := []) hC 0 (fD_X11_pose_0 y158 y162 y166 ⟨by exact ow_79h_26 b160, by exact ow_79h_27 b160⟩ ⟨by exact ow_79h_28 b164, by exact ow_79h_29 b164⟩ ⟨by exact ow_79h_30 b168, by exact ow_79h_31 b168⟩ (by exact ow_79h_32 b160)) lm_X11_229 li_X11_pose (by decide) (by decide) rfl rfl rfl (by decide) rfl rfl (Nat.le_of_ble_eq_true rfl) ⟨Nat.le_refl _, Or.inl rfl⟩ dX11_foretold_115 ⟨rfl, hV131⟩ (fun r169 V170 hp171 => ?_)
                    obtain ⟨rfl, hV172, hF173, hE174⟩ := hp171
                    replace hb135 := hb135.trans (pf_call_eq hE174)
                    change pm_J X 118 [(0, (3, 0)), (1, (0, a1)), (2, (0, a2)), (3, (0, a3)), (4, (0, 1)), (5, (0, y122)), (6, (0, x126)), (7, (0, x128))] [] 118 V170
                    have hF175 := pm_ff.tr hF132 hF173 (by decide) (by decide)
                    have e176 : V170 0 3 = 4 := by rw [hF173 0 3 (by decide) (by decide)]; exact e140
                    have e177 : V170 4 6 = y141 := by rw [hF173 4 6 (by decide) (by decide)]; exact e142
                    have e178 : V170 4 7 = 9 := by rw [hF173 4 7 (by decide) (by decide)]; exact e157
                    have e179 : V170 4 8 = 10 := by rw [hF173 4 8 (by decide) (by decide)]; exact e161
                    have e180 : V170 4 9 = 11 := by rw [hF173 4 9 (by decide) (by decide)]; exact e165
                    refine pm_aload_n hC 0 (by decide) dX11_foretold_118 rfl ?_
                    have e181 : V170 0 5 = 73 := hV172.one 0 5 (by decide) (by decide) rfl
                    refine pm_getf (v := 73) hC 0 fl_X11_75 rfl rfl (by decide) rfl e181 dX11_foretold_119 ?_
                    refine pm_iload_n hC 1 dX11_foretold_122 rfl ?_
                    refine pm_callV (ci := 10) (as := [(0, a1)]) (st := []) hC 73 (fD_X10_weigh_73 a1 ⟨by exact ow_79h_0 h0, by exact ow_79h_1 h0⟩) lm_X11_294 li_X10_weigh (by decide) (by decide) rfl rfl rfl (by decide) rfl rfl (Nat.le_of_ble_eq_true rfl) ⟨Nat.le_refl _, Or.inl rfl⟩ dX11_foretold_123 ⟨rfl, hV172⟩ (fun r182 V183 hp184 => ?_)
                    obtain ⟨rfl, hV185, hF186, hE187⟩ := hp184
                    replace hb135 := hb135.trans (pf_call_eq hE187)
                    change pm_J X 126 [(0, (3, 0)), (1, (0, a1)), (2, (0, a2)), (3, (0, a3)), (4, (0, 1)), (5, (0, y122)), (6, (0, x126)), (7, (0, x128))] [] 118 V183
                    have hF188 := pm_ff.tr hF175 hF186 (by decide) (by decide)
                    have e189 : V183 0 3 = 4 := by rw [hF186 0 3 (by decide) (by decide)]; exact e176
                    have e190 : V183 4 6 = y141 := by rw [hF186 4 6 (by decide) (by decide)]; exact e177
                    have e191 : V183 4 7 = 9 := by rw [hF186 4 7 (by decide) (by decide)]; exact e178
                    have e192 : V183 4 8 = 10 := by rw [hF186 4 8 (by decide) (by decide)]; exact e179
                    have e193 : V183 4 9 = 11 := by rw [hF186 4 9 (by decide) (by decide)]; exact e180
                    have e194 : V183 0 5 = 73 := by rw [hF186 0 5 (by decide) (by decide)]; exact e181
                    refine pm_iload hC 6 dX11_foretold_126 rfl ?_
                    refine pm_iload_n hC 3 dX11_foretold_128 rfl ?_
                    refine pm_iconst (v := 4) hC dX11_foretold_129 ?_
                    refine pm_icmp_ne (tgt := 143) hC ⟨by exact ow_79h_34 c115, by exact ow_79h_35 c115⟩ ⟨by decide, by decide⟩ dX11_foretold_130 (by decide) (fun c195 => ?_) (fun c195 => ?_)
                    · skip
                      replace hb135 := hb135.trans (if_pos c195)
                      exfalso; exact ow_79h_36 c115 c195
                    · skip
                      replace hb135 := hb135.trans (if_neg (fun q => q c195))
                      refine pm_aload_n hC 0 (by decide) dX11_foretold_133 rfl ?_
                      refine pm_getf (v := 73) hC 0 fl_X11_75 rfl rfl (by decide) rfl e194 dX11_foretold_134 ?_
                      refine pm_callV (ci := 10) (as := []) (st := [(0, x126)]) hC 73 fD_X10_chanceNoticed_73 lm_X11_233 li_X10_chanceNoticed (by decide) (by decide) rfl rfl rfl (by decide) rfl rfl (Nat.le_of_ble_eq_true rfl) ⟨Nat.le_refl _, Or.inl rfl⟩ dX11_foretold_137 ⟨rfl, hV185⟩ (fun r196 V197 hp198 => ?_)
                      obtain ⟨y199, rfl, b200, rfl, hE201⟩ := hp198
                      replace hb135 := hb135.trans (pf_call_eq hE201)
                      change pm_J X 140 [(0, (3, 0)), (1, (0, a1)), (2, (0, a2)), (3, (0, a3)), (4, (0, 1)), (5, (0, y122)), (6, (0, x126)), (7, (0, x128))] [(0, y199), (0, x126)] 118 V183
                      refine pm_goto (tgt := 151) hC dX11_foretold_140 (by decide) ?_
                      refine pm_iadd hC dX11_foretold_151 ?_
                      refine pm_wr hC (fun y202 hw204 b203 => ?_)
                      replace hb135 := hb135.trans (pf_let_eq hw204)
                      have b203 := And.intro b203.1 b203.2
                      refine pm_istore (lv' := [(6, (0, y202)), (0, (3, 0)), (1, (0, a1)), (2, (0, a2)), (3, (0, a3)), (4, (0, 1)), (5, (0, y122)), (7, (0, x128))]) hC dX11_foretold_152 (by decide) rfl ?_
                      obtain ⟨x205, ei206⟩ : ∃ y : Int, x128 + 1 = y := ⟨_, rfl⟩
                      replace hb135 := hb135.trans (pf_let_eq ei206)
                      refine pm_iinc (y := x205) (lv' := [(7, (0, x205)), (6, (0, y202)), (0, (3, 0)), (1, (0, a1)), (2, (0, a2)), (3, (0, a3)), (4, (0, 1)), (5, (0, y122))]) hC 7 dX11_foretold_154 (by decide) rfl ei206 rfl ?_
                      refine pm_goto (tgt := 62) hC dX11_foretold_157 (by decide) ?_
                      refine pm_lvsub [2, 3, 4, 5, 6, 7, 1, 0] (lv' := [(0, (3, 0)), (1, (0, a1)), (2, (0, a2)), (3, (0, a3)), (4, (0, 1)), (5, (0, y122)), (6, (0, y202)), (7, (0, x205))]) rfl ?_
                      exact ih139 _ (by exact ow_79h_21 hm137 b143 c144 ei206) y202 x205 V183 ⟨by exact ow_79h_0 b203, by exact ow_79h_1 b203⟩ ⟨by exact ow_79h_22 b129 ei206, by exact ow_79h_23 b143 c144 ei206⟩ hV185 hF188 (hT.trans (pf_val_inl hb135)) rfl
              refine pm_lvsub [4, 5, 6, 7, 3, 2, 1, 0] (lv' := [(0, (3, 0)), (1, (0, a1)), (2, (0, a2)), (3, (0, a3)), (4, (0, 1)), (5, (0, y122)), (6, (0, 0)), (7, (0, 0))]) rfl ?_
              exact L136 _ 0 0 V0 ⟨by decide, by decide⟩ ⟨by decide, by decide⟩ hV0 (pm_ff.rf (cs := [74, 75, 76, 77]) (fs := [(73, 0), (73, 1), (73, 2), (73, 3), (73, 4), (73, 5), (73, 6), (73, 7), (73, 10), (73, 11), (73, 12), (73, 14)]) (V := V0)) hT rfl
            · skip
              replace hT := hT.trans (if_neg (Int.not_lt.mpr c125))
              refine pm_iconst (v := (-1)) hC dX11_foretold_54 ?_
              exact pm_iret hC hR pm_nar0 ⟨(-1), rfl, ⟨by exact ow_79h_5, by exact ow_79h_6⟩, hV0, (pm_ff.rf (cs := [74, 75, 76, 77]) (fs := [(73, 0), (73, 1), (73, 2), (73, 3), (73, 4), (73, 5), (73, 6), (73, 7), (73, 10), (73, 11), (73, 12), (73, 14)]) (V := V0)), hT⟩ dX11_foretold_55
set_option maxHeartbeats 4000000 in
set_option maxRecDepth 100000 in
theorem fD_X11_isPair_0 (a1 a2 a3 a4 : Int) (h0 : 0 ≤ a1 ∧ a1 ≤ 2147483647) (h1 : 0 ≤ a2 ∧ a2 ≤ 999) (h2 : 0 ≤ a3 ∧ a3 ≤ 99) (h3 : (-99) ≤ a4 ∧ a4 ≤ 99) (h4 : a2 % 10 ≤ 8 ∧ a2 / 10 % 10 ≤ 8) : pm_K 5 yX11_isPair cX11_isPair 7 (some .boolean) (fun av V => av = [(3, 0), (0, a1), (0, a2), (0, a3), (0, a4)] ∧ pm_ok 0 90 V) (fun _ V r V' => ∃ y, r = some (0, y) ∧ (0 ≤ y ∧ y ≤ 1) ∧ pm_ok 0 90 V' ∧ pm_ff [74, 75, 76, 77] [(73, 0), (73, 1), (73, 2), (73, 3), (73, 4), (73, 5), (73, 6), (73, 7), (73, 10), (73, 11), (73, 12), (73, 14)] V V' ∧ F_X11_isPair a1 a2 a3 a4 V = (y, V')) := by
  refine pm_MT.of (by decide) ⟨Nat.le_refl _, by decide⟩ (fun av V h => by rw [h.1]; exact (by decide : pm_words [(3, 0), (0, 0), (0, 0), (0, 0), (0, 0)] ≤ 7)) ?_
  rintro X av V0 hC - hR ⟨rfl, hV0⟩
  change pm_J X 0 [(0, (3, 0)), (1, (0, a1)), (2, (0, a2)), (3, (0, a3)), (4, (0, a4))] [] 118 V0
  have hT := F_X11_isPair_eq a1 a2 a3 a4 V0
  refine pm_iload_n hC 2 dX11_isPair_0 rfl ?_
  refine pm_bipush (v := 10) hC dX11_isPair_1 (by decide) ?_
  refine pm_idiv hC ⟨by exact ow_79h_37 h1, by exact ow_79h_38 h1, by exact ow_79h_39 h1⟩ ⟨by decide, by decide, by decide⟩ dX11_isPair_3 ?_
  refine pm_bipush (v := 10) hC dX11_isPair_4 (by decide) ?_
  refine pm_irem hC ⟨by exact ow_79h_40 h1 h4, by exact ow_79h_41 h1 h4, by exact ow_79h_42 h1⟩ ⟨by decide, by decide, by decide⟩ dX11_isPair_6 ?_
  refine pm_istore (lv' := [(5, (0, ((a2 / 10) % 10))), (0, (3, 0)), (1, (0, a1)), (2, (0, a2)), (3, (0, a3)), (4, (0, a4))]) hC dX11_isPair_7 (by decide) rfl ?_
  refine pm_iload_n hC 3 dX11_isPair_9 rfl ?_
  refine pm_bipush (v := 10) hC dX11_isPair_10 (by decide) ?_
  refine pm_irem hC ⟨by exact ow_79h_37 h1, by exact ow_79h_38 h1, by exact ow_79h_39 h1⟩ ⟨by decide, by decide, by decide⟩ dX11_isPair_12 ?_
  refine pm_istore (lv' := [(6, (0, (a2 % 10))), (5, (0, ((a2 / 10) % 10))), (0, (3, 0)), (1, (0, a1)), (2, (0, a2)), (3, (0, a3)), (4, (0, a4))]) hC dX11_isPair_13 (by decide) rfl ?_
  refine pm_iload hC 1 dX11_isPair_15 rfl ?_
  refine pm_iload hC 0 dX11_isPair_17 rfl ?_
  refine pm_icmp_ne (tgt := 24) hC ⟨by exact ow_79h_43, by exact ow_79h_44 h4⟩ ⟨by exact ow_79h_45, by exact ow_79h_46 h4⟩ dX11_isPair_19 (by decide) (fun c1 => ?_) (fun c1 => ?_)
  · skip
    replace hT := hT.trans (if_pos c1)
    refine pm_aload_n hC 2 (by decide) dX11_isPair_24 rfl ?_
    refine pm_iload_n hC 4 dX11_isPair_25 rfl ?_
    refine pm_iload_n hC 5 dX11_isPair_26 rfl ?_
    refine pm_iload hC 6 dX11_isPair_27 rfl ?_
    refine pm_callV (ci := 11) (as := [(0, a2), (0, a3), (0, a4)]) (st := []) hC 0 (fD_X11_pose_0 a2 a3 a4 ⟨by exact ow_79h_37 h1, by exact ow_79h_47 h1⟩ ⟨by exact ow_79h_28 h2, by exact ow_79h_29 h2⟩ ⟨by exact ow_79h_30 h3, by exact ow_79h_31 h3⟩ (by exact ow_79h_48 h4)) lm_X11_229 li_X11_pose (by decide) (by decide) rfl rfl rfl (by decide) rfl rfl (Nat.le_of_ble_eq_true rfl) ⟨Nat.le_refl _, Or.inl rfl⟩ dX11_isPair_29 ⟨rfl, hV0⟩ (fun r2 V3 hp4 => ?_)
    obtain ⟨rfl, hV5, hF6, hE7⟩ := hp4
    replace hT := hT.trans (pf_call_eq hE7)
    change pm_J X 32 [(6, (0, (a2 % 10))), (5, (0, ((a2 / 10) % 10))), (0, (3, 0)), (1, (0, a1)), (2, (0, a2)), (3, (0, a3)), (4, (0, a4))] [] 118 V3
    have hF8 := pm_ff.tr (pm_ff.rf (cs := [74, 75, 76, 77]) (fs := [(73, 0), (73, 1), (73, 2), (73, 3), (73, 4), (73, 5), (73, 6), (73, 7), (73, 10), (73, 11), (73, 12), (73, 14)]) (V := V0)) hF6 (by decide) (by decide)
    refine pm_aload_n hC 2 (by decide) dX11_isPair_32 rfl ?_
    have e9 : V3 0 5 = 73 := hV5.one 0 5 (by decide) (by decide) rfl
    refine pm_getf (v := 73) hC 0 fl_X11_75 rfl rfl (by decide) rfl e9 dX11_isPair_33 ?_
    refine pm_iload_n hC 3 dX11_isPair_36 rfl ?_
    refine pm_bipush (v := 10) hC dX11_isPair_37 (by decide) ?_
    refine pm_irem hC ⟨by exact ow_79h_49 h0, by exact ow_79h_50 h0, by exact ow_79h_51 h0⟩ ⟨by decide, by decide, by decide⟩ dX11_isPair_39 ?_
    refine pm_callV (ci := 10) (as := [(0, (a1 % 10))]) (st := []) hC 73 (fD_X10_weigh_73 (a1 % 10) ⟨by exact ow_79h_45, by exact ow_79h_52⟩) lm_X11_294 li_X10_weigh (by decide) (by decide) rfl rfl rfl (by decide) rfl rfl (Nat.le_of_ble_eq_true rfl) ⟨Nat.le_refl _, Or.inl rfl⟩ dX11_isPair_40 ⟨rfl, hV5⟩ (fun r10 V11 hp12 => ?_)
    obtain ⟨rfl, hV13, hF14, hE15⟩ := hp12
    replace hT := hT.trans (pf_call_eq hE15)
    change pm_J X 43 [(6, (0, (a2 % 10))), (5, (0, ((a2 / 10) % 10))), (0, (3, 0)), (1, (0, a1)), (2, (0, a2)), (3, (0, a3)), (4, (0, a4))] [] 118 V11
    have hF16 := pm_ff.tr hF8 hF14 (by decide) (by decide)
    have e17 : V11 0 5 = 73 := by rw [hF14 0 5 (by decide) (by decide)]; exact e9
    refine pm_iload hC 1 dX11_isPair_43 rfl ?_
    refine pm_iload hC 0 dX11_isPair_45 rfl ?_
    refine pm_aload_n hC 2 (by decide) dX11_isPair_47 rfl ?_
    refine pm_getf (v := 73) hC 0 fl_X11_75 rfl rfl (by decide) rfl e17 dX11_isPair_48 ?_
    refine pm_callV (ci := 10) (as := []) (st := [(0, (a2 % 10)), (0, ((a2 / 10) % 10))]) hC 73 fD_X10_mostLikely_73 lm_X11_221 li_X10_mostLikely (by decide) (by decide) rfl rfl rfl (by decide) rfl rfl (Nat.le_of_ble_eq_true rfl) ⟨Nat.le_refl _, Or.inl rfl⟩ dX11_isPair_51 ⟨rfl, hV13⟩ (fun r18 V19 hp20 => ?_)
    obtain ⟨y21, rfl, b22, rfl, hE23⟩ := hp20
    replace hT := hT.trans (pf_call_eq hE23)
    change pm_J X 54 [(6, (0, (a2 % 10))), (5, (0, ((a2 / 10) % 10))), (0, (3, 0)), (1, (0, a1)), (2, (0, a2)), (3, (0, a3)), (4, (0, a4))] [(0, y21), (0, (a2 % 10)), (0, ((a2 / 10) % 10))] 118 V11
    refine pm_callS (as := [(0, ((a2 / 10) % 10)), (0, (a2 % 10)), (0, y21)]) (st := []) hC (fD_X11_kindOfSaid ((a2 / 10) % 10) (a2 % 10) y21 ⟨by exact ow_79h_43, by exact ow_79h_44 h4⟩ ⟨by exact ow_79h_45, by exact ow_79h_46 h4⟩ ⟨by exact ow_79h_53 b22, by exact ow_79h_54 b22⟩) lm_X11_351 ls_X11_kindOfSaid (by decide) (by decide) rfl rfl (Nat.le_of_ble_eq_true rfl) ⟨Nat.le_refl _, Or.inl rfl⟩ dX11_isPair_54 ⟨rfl, hV13⟩ (fun r24 V25 hp26 => ?_)
    obtain ⟨y27, rfl, b28, rfl, hE29⟩ := hp26
    replace hT := hT.trans (pf_call_eq hE29)
    change pm_J X 57 [(6, (0, (a2 % 10))), (5, (0, ((a2 / 10) % 10))), (0, (3, 0)), (1, (0, a1)), (2, (0, a2)), (3, (0, a3)), (4, (0, a4))] [(0, y27)] 118 V11
    refine pm_iload_n hC 3 dX11_isPair_57 rfl ?_
    refine pm_bipush (v := 10) hC dX11_isPair_58 (by decide) ?_
    refine pm_idiv hC ⟨by exact ow_79h_49 h0, by exact ow_79h_50 h0, by exact ow_79h_51 h0⟩ ⟨by decide, by decide, by decide⟩ dX11_isPair_60 ?_
    refine pm_icmp_ne (tgt := 68) hC ⟨by exact ow_79h_55 b28, by exact ow_79h_56 b28⟩ ⟨by exact ow_79h_57 h0, by exact ow_79h_58 h0⟩ dX11_isPair_61 (by decide) (fun c30 => ?_) (fun c30 => ?_)
    · skip
      replace hT := hT.trans (if_pos c30)
      refine pm_iconst (v := 0) hC dX11_isPair_68 ?_
      exact pm_iret hC hR (pm_narZ (by exact ow_79h_59)) ⟨0, rfl, ⟨by exact ow_79h_60, by exact ow_79h_61⟩, hV13, hF16, hT⟩ dX11_isPair_69
    · skip
      replace hT := hT.trans (if_neg (fun q => q c30))
      refine pm_iconst (v := 1) hC dX11_isPair_64 ?_
      refine pm_goto (tgt := 69) hC dX11_isPair_65 (by decide) ?_
      exact pm_iret hC hR (pm_narZ (by exact ow_79h_62)) ⟨1, rfl, ⟨by exact ow_79h_61, by exact ow_79h_63⟩, hV13, hF16, hT⟩ dX11_isPair_69
  · skip
    replace hT := hT.trans (if_neg (fun q => q c1))
    refine pm_iconst (v := 0) hC dX11_isPair_22 ?_
    exact pm_iret hC hR (pm_narZ (by exact ow_79h_59)) ⟨0, rfl, ⟨by exact ow_79h_60, by exact ow_79h_61⟩, hV0, (pm_ff.rf (cs := [74, 75, 76, 77]) (fs := [(73, 0), (73, 1), (73, 2), (73, 3), (73, 4), (73, 5), (73, 6), (73, 7), (73, 10), (73, 11), (73, 12), (73, 14)]) (V := V0)), hT⟩ dX11_isPair_23
set_option maxHeartbeats 4000000 in
set_option maxRecDepth 100000 in
theorem fD_X11_pairs_0 (a1 a2 a3 a4 a5 : Int) (h0 : (-2147483648) ≤ a1 ∧ a1 ≤ 2147483647) (h1 : (-2147483648) ≤ a2 ∧ a2 ≤ 2147483647) (h2 : (-2147483648) ≤ a3 ∧ a3 ≤ 2147483647) (h3 : (-2147483648) ≤ a4 ∧ a4 ≤ 2147483647) (h4 : (-2147483648) ≤ a5 ∧ a5 ≤ 2147483647) : pm_K 6 yX11_pairs cX11_pairs 10 (some .int) (fun av V => av = [(3, 0), (0, a1), (0, a2), (0, a3), (0, a4), (0, a5)] ∧ pm_ok 0 90 V) (fun _ V r V' => ∃ y, r = some (0, y) ∧ ((-1) ≤ y ∧ y ≤ 88) ∧ pm_ok 0 90 V' ∧ pm_ff [74, 75, 76, 77] [(73, 0), (73, 1), (73, 2), (73, 3), (73, 4), (73, 5), (73, 6), (73, 7), (73, 10), (73, 11), (73, 12), (73, 14)] V V' ∧ F_X11_pairs a1 a2 a3 a4 a5 V = (y, V')) := by
  refine pm_MT.of (by decide) ⟨Nat.le_refl _, by decide⟩ (fun av V h => by rw [h.1]; exact (by decide : pm_words [(3, 0), (0, 0), (0, 0), (0, 0), (0, 0), (0, 0)] ≤ 10)) ?_
  rintro X av V0 hC - hR ⟨rfl, hV0⟩
  change pm_J X 0 [(0, (3, 0)), (1, (0, a1)), (2, (0, a2)), (3, (0, a3)), (4, (0, a4)), (5, (0, a5))] [] 118 V0
  have hT := F_X11_pairs_eq a1 a2 a3 a4 a5 V0
  refine pm_iload_n hC 1 dX11_pairs_0 rfl ?_
  refine pm_if_lt (tgt := 34) hC ⟨by exact ow_79h_0 h0, by exact ow_79h_1 h0⟩ dX11_pairs_1 (by decide) (fun c1 => ?_) (fun c1 => ?_)
  · skip
    replace hT := hT.trans (if_pos c1)
    refine pm_iconst (v := 0) hC dX11_pairs_34 ?_
    refine pm_istore (lv' := [(6, (0, 0)), (0, (3, 0)), (1, (0, a1)), (2, (0, a2)), (3, (0, a3)), (4, (0, a4)), (5, (0, a5))]) hC dX11_pairs_35 (by decide) rfl ?_
    refine pm_iload hC 0 dX11_pairs_37 rfl ?_
    refine pm_if_eq (tgt := 65) hC ⟨by decide, by decide⟩ dX11_pairs_39 (by decide) (fun c2 => ?_) (fun c2 => ?_)
    · skip
      refine pm_iconst (v := (-1)) hC dX11_pairs_65 ?_
      exact pm_iret hC hR pm_nar0 ⟨(-1), rfl, ⟨by exact ow_79h_64, by exact ow_79h_65⟩, hV0, (pm_ff.rf (cs := [74, 75, 76, 77]) (fs := [(73, 0), (73, 1), (73, 2), (73, 3), (73, 4), (73, 5), (73, 6), (73, 7), (73, 10), (73, 11), (73, 12), (73, 14)]) (V := V0)), hT⟩ dX11_pairs_66
    · skip
      exfalso; exact ow_79h_7 c2
  · skip
    replace hT := hT.trans (if_neg (Int.not_lt.mpr c1))
    refine pm_iload_n hC 1 dX11_pairs_4 rfl ?_
    refine pm_bipush (v := 10) hC dX11_pairs_5 (by decide) ?_
    refine pm_idiv hC ⟨by exact ow_79h_66 c1, by exact ow_79h_67 c1, by exact ow_79h_1 h0⟩ ⟨by decide, by decide, by decide⟩ dX11_pairs_7 ?_
    refine pm_callS (as := [(0, (a1 / 10))]) (st := []) hC (fD_X11_isKind (a1 / 10) ⟨by exact ow_79h_68 c1, by exact ow_79h_69 h0⟩) lm_X11_215 ls_X11_isKind (by decide) (by decide) rfl rfl (Nat.le_of_ble_eq_true rfl) ⟨Nat.le_refl _, Or.inl rfl⟩ dX11_pairs_8 ⟨rfl, hV0⟩ (fun r3 V4 hp5 => ?_)
    obtain ⟨y6, rfl, b7, rfl, hE8⟩ := hp5
    replace hT := hT.trans (pf_call_eq hE8)
    change pm_J X 11 [(0, (3, 0)), (1, (0, a1)), (2, (0, a2)), (3, (0, a3)), (4, (0, a4)), (5, (0, a5))] [(0, y6)] 118 V0
    refine pm_if_eq (tgt := 34) hC ⟨by exact ow_79h_70 b7, by exact ow_79h_71 b7⟩ dX11_pairs_11 (by decide) (fun c9 => ?_) (fun c9 => ?_)
    · skip
      replace hT := hT.trans (if_pos c9)
      refine pm_iconst (v := 0) hC dX11_pairs_34 ?_
      refine pm_istore (lv' := [(6, (0, 0)), (0, (3, 0)), (1, (0, a1)), (2, (0, a2)), (3, (0, a3)), (4, (0, a4)), (5, (0, a5))]) hC dX11_pairs_35 (by decide) rfl ?_
      refine pm_iload hC 0 dX11_pairs_37 rfl ?_
      refine pm_if_eq (tgt := 65) hC ⟨by decide, by decide⟩ dX11_pairs_39 (by decide) (fun c10 => ?_) (fun c10 => ?_)
      · skip
        refine pm_iconst (v := (-1)) hC dX11_pairs_65 ?_
        exact pm_iret hC hR pm_nar0 ⟨(-1), rfl, ⟨by exact ow_79h_64, by exact ow_79h_65⟩, hV0, (pm_ff.rf (cs := [74, 75, 76, 77]) (fs := [(73, 0), (73, 1), (73, 2), (73, 3), (73, 4), (73, 5), (73, 6), (73, 7), (73, 10), (73, 11), (73, 12), (73, 14)]) (V := V0)), hT⟩ dX11_pairs_66
      · skip
        exfalso; exact ow_79h_7 c10
    · skip
      replace hT := hT.trans (if_neg c9)
      refine pm_iload_n hC 1 dX11_pairs_14 rfl ?_
      refine pm_bipush (v := 10) hC dX11_pairs_15 (by decide) ?_
      refine pm_irem hC ⟨by exact ow_79h_66 c1, by exact ow_79h_67 c1, by exact ow_79h_1 h0⟩ ⟨by decide, by decide, by decide⟩ dX11_pairs_17 ?_
      refine pm_callS (as := [(0, (a1 % 10))]) (st := []) hC (fD_X11_isLaw (a1 % 10) ⟨by exact ow_79h_45, by exact ow_79h_52⟩) lm_X11_262 ls_X11_isLaw (by decide) (by decide) rfl rfl (Nat.le_of_ble_eq_true rfl) ⟨Nat.le_refl _, Or.inl rfl⟩ dX11_pairs_18 ⟨rfl, hV0⟩ (fun r11 V12 hp13 => ?_)
      obtain ⟨y14, rfl, b15, rfl, hE16⟩ := hp13
      replace hT := hT.trans (pf_call_eq hE16)
      change pm_J X 21 [(0, (3, 0)), (1, (0, a1)), (2, (0, a2)), (3, (0, a3)), (4, (0, a4)), (5, (0, a5))] [(0, y14)] 118 V0
      refine pm_if_eq (tgt := 34) hC ⟨by exact ow_79h_72 b15, by exact ow_79h_73 b15⟩ dX11_pairs_21 (by decide) (fun c17 => ?_) (fun c17 => ?_)
      · skip
        replace hT := hT.trans (if_pos c17)
        refine pm_iconst (v := 0) hC dX11_pairs_34 ?_
        refine pm_istore (lv' := [(6, (0, 0)), (0, (3, 0)), (1, (0, a1)), (2, (0, a2)), (3, (0, a3)), (4, (0, a4)), (5, (0, a5))]) hC dX11_pairs_35 (by decide) rfl ?_
        refine pm_iload hC 0 dX11_pairs_37 rfl ?_
        refine pm_if_eq (tgt := 65) hC ⟨by decide, by decide⟩ dX11_pairs_39 (by decide) (fun c18 => ?_) (fun c18 => ?_)
        · skip
          refine pm_iconst (v := (-1)) hC dX11_pairs_65 ?_
          exact pm_iret hC hR pm_nar0 ⟨(-1), rfl, ⟨by exact ow_79h_64, by exact ow_79h_65⟩, hV0, (pm_ff.rf (cs := [74, 75, 76, 77]) (fs := [(73, 0), (73, 1), (73, 2), (73, 3), (73, 4), (73, 5), (73, 6), (73, 7), (73, 10), (73, 11), (73, 12), (73, 14)]) (V := V0)), hT⟩ dX11_pairs_66
        · skip
          exfalso; exact ow_79h_7 c18
      · skip
        replace hT := hT.trans (if_neg c17)
        refine pm_iload hC 5 dX11_pairs_24 rfl ?_
        refine pm_iconst (v := (-1)) hC dX11_pairs_26 ?_
        refine pm_icmp_lt (tgt := 34) hC ⟨by exact ow_79h_0 h4, by exact ow_79h_1 h4⟩ ⟨by decide, by decide⟩ dX11_pairs_27 (by decide) (fun c19 => ?_) (fun c19 => ?_)
        · skip
          replace hT := hT.trans (if_pos c19)
          refine pm_iconst (v := 0) hC dX11_pairs_34 ?_
          refine pm_istore (lv' := [(6, (0, 0)), (0, (3, 0)), (1, (0, a1)), (2, (0, a2)), (3, (0, a3)), (4, (0, a4)), (5, (0, a5))]) hC dX11_pairs_35 (by decide) rfl ?_
          refine pm_iload hC 0 dX11_pairs_37 rfl ?_
          refine pm_if_eq (tgt := 65) hC ⟨by decide, by decide⟩ dX11_pairs_39 (by decide) (fun c20 => ?_) (fun c20 => ?_)
          · skip
            refine pm_iconst (v := (-1)) hC dX11_pairs_65 ?_
            exact pm_iret hC hR pm_nar0 ⟨(-1), rfl, ⟨by exact ow_79h_64, by exact ow_79h_65⟩, hV0, (pm_ff.rf (cs := [74, 75, 76, 77]) (fs := [(73, 0), (73, 1), (73, 2), (73, 3), (73, 4), (73, 5), (73, 6), (73, 7), (73, 10), (73, 11), (73, 12), (73, 14)]) (V := V0)), hT⟩ dX11_pairs_66
          · skip
            exfalso; exact ow_79h_7 c20
        · skip
          replace hT := hT.trans (if_neg (Int.not_lt.mpr c19))
          refine pm_iconst (v := 1) hC dX11_pairs_30 ?_
          refine pm_goto (tgt := 35) hC dX11_pairs_31 (by decide) ?_
          refine pm_istore (lv' := [(6, (0, 1)), (0, (3, 0)), (1, (0, a1)), (2, (0, a2)), (3, (0, a3)), (4, (0, a4)), (5, (0, a5))]) hC dX11_pairs_35 (by decide) rfl ?_
          refine pm_iload hC 0 dX11_pairs_37 rfl ?_
          refine pm_if_eq (tgt := 65) hC ⟨by decide, by decide⟩ dX11_pairs_39 (by decide) (fun c21 => ?_) (fun c21 => ?_)
          · skip
            exfalso; exact ow_79h_12 c21
          · skip
            refine pm_aload_n hC 1 (by decide) dX11_pairs_42 rfl ?_
            refine pm_iload_n hC 3 dX11_pairs_43 rfl ?_
            refine pm_callV (ci := 11) (as := [(0, a2)]) (st := []) hC 0 (fD_X11_isPerson_0 a2 ⟨by exact ow_79h_0 h1, by exact ow_79h_1 h1⟩) lm_X11_183 li_X11_isPerson (by decide) (by decide) rfl rfl rfl (by decide) rfl rfl (Nat.le_of_ble_eq_true rfl) ⟨Nat.le_refl _, Or.inl rfl⟩ dX11_pairs_44 ⟨rfl, hV0⟩ (fun r22 V23 hp24 => ?_)
            obtain ⟨y25, rfl, b26, rfl, hE27⟩ := hp24
            replace hT := hT.trans (pf_call_eq hE27)
            change pm_J X 47 [(6, (0, 1)), (0, (3, 0)), (1, (0, a1)), (2, (0, a2)), (3, (0, a3)), (4, (0, a4)), (5, (0, a5))] [(0, y25)] 118 V0
            refine pm_if_eq (tgt := 65) hC ⟨by exact ow_79h_74 b26, by exact ow_79h_75 b26⟩ dX11_pairs_47 (by decide) (fun c28 => ?_) (fun c28 => ?_)
            · skip
              replace hT := hT.trans (if_pos c28)
              refine pm_iconst (v := (-1)) hC dX11_pairs_65 ?_
              exact pm_iret hC hR pm_nar0 ⟨(-1), rfl, ⟨by exact ow_79h_64, by exact ow_79h_65⟩, hV0, (pm_ff.rf (cs := [74, 75, 76, 77]) (fs := [(73, 0), (73, 1), (73, 2), (73, 3), (73, 4), (73, 5), (73, 6), (73, 7), (73, 10), (73, 11), (73, 12), (73, 14)]) (V := V0)), hT⟩ dX11_pairs_66
            · skip
              replace hT := hT.trans (if_neg c28)
              refine pm_iload_n hC 4 dX11_pairs_50 rfl ?_
              refine pm_callS (as := [(0, a3)]) (st := []) hC (fD_X11_isSetting a3 ⟨by exact ow_79h_0 h2, by exact ow_79h_1 h2⟩) lm_X11_297 ls_X11_isSetting (by decide) (by decide) rfl rfl (Nat.le_of_ble_eq_true rfl) ⟨Nat.le_refl _, Or.inl rfl⟩ dX11_pairs_51 ⟨rfl, hV0⟩ (fun r29 V30 hp31 => ?_)
              obtain ⟨y32, rfl, b33, rfl, hE34⟩ := hp31
              replace hT := hT.trans (pf_call_eq hE34)
              change pm_J X 54 [(6, (0, 1)), (0, (3, 0)), (1, (0, a1)), (2, (0, a2)), (3, (0, a3)), (4, (0, a4)), (5, (0, a5))] [(0, y32)] 118 V0
              refine pm_if_eq (tgt := 65) hC ⟨by exact ow_79h_76 b33, by exact ow_79h_77 b33⟩ dX11_pairs_54 (by decide) (fun c35 => ?_) (fun c35 => ?_)
              · skip
                replace hT := hT.trans (if_pos c35)
                refine pm_iconst (v := (-1)) hC dX11_pairs_65 ?_
                exact pm_iret hC hR pm_nar0 ⟨(-1), rfl, ⟨by exact ow_79h_64, by exact ow_79h_65⟩, hV0, (pm_ff.rf (cs := [74, 75, 76, 77]) (fs := [(73, 0), (73, 1), (73, 2), (73, 3), (73, 4), (73, 5), (73, 6), (73, 7), (73, 10), (73, 11), (73, 12), (73, 14)]) (V := V0)), hT⟩ dX11_pairs_66
              · skip
                replace hT := hT.trans (if_neg c35)
                refine pm_iload hC 5 dX11_pairs_57 rfl ?_
                refine pm_callS (as := [(0, a4)]) (st := []) hC (fD_X11_isLate a4 ⟨by exact ow_79h_0 h3, by exact ow_79h_1 h3⟩) lm_X11_300 ls_X11_isLate (by decide) (by decide) rfl rfl (Nat.le_of_ble_eq_true rfl) ⟨Nat.le_refl _, Or.inl rfl⟩ dX11_pairs_59 ⟨rfl, hV0⟩ (fun r36 V37 hp38 => ?_)
                obtain ⟨y39, rfl, b40, rfl, hE41⟩ := hp38
                replace hT := hT.trans (pf_call_eq hE41)
                change pm_J X 62 [(6, (0, 1)), (0, (3, 0)), (1, (0, a1)), (2, (0, a2)), (3, (0, a3)), (4, (0, a4)), (5, (0, a5))] [(0, y39)] 118 V0
                refine pm_if_ne (tgt := 67) hC ⟨by exact ow_79h_78 b40, by exact ow_79h_79 b40⟩ dX11_pairs_62 (by decide) (fun c42 => ?_) (fun c42 => ?_)
                · skip
                  replace hT := hT.trans (if_pos c42)
                  refine pm_iconst (v := 0) hC dX11_pairs_67 ?_
                  refine pm_istore (lv' := [(7, (0, 0)), (6, (0, 1)), (0, (3, 0)), (1, (0, a1)), (2, (0, a2)), (3, (0, a3)), (4, (0, a4)), (5, (0, a5))]) hC dX11_pairs_68 (by decide) rfl ?_
                  refine pm_iconst (v := 0) hC dX11_pairs_70 ?_
                  refine pm_istore (lv' := [(8, (0, 0)), (7, (0, 0)), (6, (0, 1)), (0, (3, 0)), (1, (0, a1)), (2, (0, a2)), (3, (0, a3)), (4, (0, a4)), (5, (0, a5))]) hC dX11_pairs_71 (by decide) rfl ?_
                  obtain ⟨B51, hB52, hT⟩ := pf_loop hT
                  have L54 : ∀ (N56 : Nat) (x43 : Int) (x45 : Int) (V48 : pm_M), (0 ≤ x43 ∧ x43 ≤ 81) → (0 ≤ x45 ∧ x45 ≤ 9) → (x43 ≤ 9 * x45) → pm_ok 0 90 V48 → pm_ff [74, 75, 76, 77] [(73, 0), (73, 1), (73, 2), (73, 3), (73, 4), (73, 5), (73, 6), (73, 7), (73, 10), (73, 11), (73, 12), (73, 14)] V0 V48 → F_X11_pairs a1 a2 a3 a4 a5 V0 = pf_val ((0 : Int), V0) B51 (x43, x45, V48) → (Int.toNat (9 - x45)) = N56 → pm_J X 73 [(0, (3, 0)), (1, (0, a1)), (2, (0, a2)), (3, (0, a3)), (4, (0, a4)), (5, (0, a5)), (6, (0, 1)), (7, (0, x43)), (8, (0, x45))] [] 118 V48 := by
                    intro N56
                    induction N56 using Nat.strongRecOn with
                    | _ N56 ih57 =>
                    intro x43 x45 V48 b44 b46 b47 hV49 hF50 hT hm55
                    have hb53 := congrFun hB52 (x43, x45, V48)
                    refine pm_iload hC 8 dX11_pairs_73 rfl ?_
                    refine pm_aload_n hC 0 (by decide) dX11_pairs_75 rfl ?_
                    rcases hV49.get2 0 8 (lo := 45) (hi := 51) (by decide) (by decide) rfl with e58 | e58
                    · skip
                      replace hb53 := hb53.trans (if_pos e58)
                      refine pm_getf (v := 45) hC 0 fl_X11_35 rfl rfl (by decide) rfl e58 dX11_pairs_76 ?_
                      obtain ⟨y59, e60⟩ : ∃ y, V48 45 0 = y := ⟨_, rfl⟩
                      have b61 := hV49.get 45 0 (lo := 0) (hi := 9) (by decide) (by decide) rfl
                      rw [e60] at b61
                      replace hb53 := hb53.trans (pf_let_eq e60)
                      refine pm_getf (v := y59) hC 45 fl_X11_136 rfl rfl (by decide) rfl e60 dX11_pairs_79 ?_
                      refine pm_icmp_ge (tgt := 155) hC ⟨by exact ow_79h_80 b44 b47, by exact ow_79h_81 b46⟩ ⟨by exact ow_79h_82 b61, by exact ow_79h_81 b61⟩ dX11_pairs_82 (by decide) (fun c62 => ?_) (fun c62 => ?_)
                      · skip
                        replace hb53 := hb53.trans (if_pos c62)
                        refine pm_iload hC 5 dX11_pairs_155 rfl ?_
                        refine pm_iconst (v := (-1)) hC dX11_pairs_157 ?_
                        refine pm_icmp_ne (tgt := 166) hC ⟨by exact ow_79h_83 c19, by exact ow_79h_1 h4⟩ ⟨by decide, by decide⟩ dX11_pairs_158 (by decide) (fun c63 => ?_) (fun c63 => ?_)
                        · skip
                          replace hb53 := hb53.trans (if_pos c63)
                          refine pm_iconst (v := (-1)) hC dX11_pairs_166 ?_
                          replace hT := hT.trans (pf_val_inr hb53)
                          exact pm_iret hC hR pm_nar0 ⟨(-1), rfl, ⟨by exact ow_79h_64, by exact ow_79h_65⟩, hV49, hF50, hT⟩ dX11_pairs_167
                        · skip
                          replace hb53 := hb53.trans (if_neg (fun q => q c63))
                          refine pm_iload hC 7 dX11_pairs_161 rfl ?_
                          refine pm_goto (tgt := 167) hC dX11_pairs_163 (by decide) ?_
                          replace hT := hT.trans (pf_val_inr hb53)
                          exact pm_iret hC hR pm_nar0 ⟨x43, rfl, ⟨by exact ow_79h_84 b44, by exact ow_79h_85 b44⟩, hV49, hF50, hT⟩ dX11_pairs_167
                      · skip
                        replace hb53 := hb53.trans (if_neg (Int.not_le.mpr c62))
                        refine pm_iconst (v := 0) hC dX11_pairs_85 ?_
                        refine pm_istore (lv' := [(9, (0, 0)), (0, (3, 0)), (1, (0, a1)), (2, (0, a2)), (3, (0, a3)), (4, (0, a4)), (5, (0, a5)), (6, (0, 1)), (7, (0, x43)), (8, (0, x45))]) hC dX11_pairs_86 (by decide) rfl ?_
                        obtain ⟨B74, hB75, hb53⟩ := pf_loop hb53
                        have L77 : ∀ (N79 : Nat) (x64 : Int) (x66 : Int) (V69 : pm_M), (0 ≤ x64 ∧ x64 ≤ 81) → (0 ≤ x66 ∧ x66 ≤ 9) → (x64 ≤ 9 * x45 + x66) → pm_ok 0 90 V69 → pm_ff [74, 75, 76, 77] [(73, 0), (73, 1), (73, 2), (73, 3), (73, 4), (73, 5), (73, 6), (73, 7), (73, 10), (73, 11), (73, 12), (73, 14)] V0 V69 → V69 0 8 = 45 → V69 45 0 = y59 → B51 (x43, x45, V48) = pf_val (.inr ((0 : Int), V0)) B74 (x64, x66, V69) → (Int.toNat (9 - x66)) = N79 → pm_J X 88 [(0, (3, 0)), (1, (0, a1)), (2, (0, a2)), (3, (0, a3)), (4, (0, a4)), (5, (0, a5)), (6, (0, 1)), (7, (0, x64)), (8, (0, x45)), (9, (0, x66))] [] 118 V69 := by
                          intro N79
                          induction N79 using Nat.strongRecOn with
                          | _ N79 ih80 =>
                          intro x64 x66 V69 b65 b67 b68 hV70 hF71 e72 e73 hb53 hm78
                          have hb76 := congrFun hB75 (x64, x66, V69)
                          refine pm_iload hC 9 dX11_pairs_88 rfl ?_
                          refine pm_aload_n hC 0 (by decide) dX11_pairs_90 rfl ?_
                          refine pm_getf (v := 45) hC 0 fl_X11_35 rfl rfl (by decide) rfl e72 dX11_pairs_91 ?_
                          refine pm_getf (v := y59) hC 45 fl_X11_136 rfl rfl (by decide) rfl e73 dX11_pairs_94 ?_
                          refine pm_icmp_ge (tgt := 149) hC ⟨by exact ow_79h_82 b67, by exact ow_79h_81 b67⟩ ⟨by exact ow_79h_82 b61, by exact ow_79h_81 b61⟩ dX11_pairs_97 (by decide) (fun c81 => ?_) (fun c81 => ?_)
                          · skip
                            replace hb76 := hb76.trans (if_pos c81)
                            obtain ⟨x82, ei83⟩ : ∃ y : Int, x45 + 1 = y := ⟨_, rfl⟩
                            replace hb76 := hb76.trans (pf_let_eq ei83)
                            refine pm_iinc (y := x82) (lv' := [(8, (0, x82)), (0, (3, 0)), (1, (0, a1)), (2, (0, a2)), (3, (0, a3)), (4, (0, a4)), (5, (0, a5)), (6, (0, 1)), (7, (0, x64)), (9, (0, x66))]) hC 8 dX11_pairs_149 (by decide) rfl ei83 rfl ?_
                            refine pm_goto (tgt := 73) hC dX11_pairs_152 (by decide) ?_
                            replace hb53 := hb53.trans (pf_val_inr hb76)
                            refine pm_lvsub [1, 2, 3, 4, 5, 6, 7, 8, 0] (lv' := [(0, (3, 0)), (1, (0, a1)), (2, (0, a2)), (3, (0, a3)), (4, (0, a4)), (5, (0, a5)), (6, (0, 1)), (7, (0, x64)), (8, (0, x82))]) rfl ?_
                            exact ih57 _ (by exact ow_79h_86 hm55 b61 c62 ei83) x64 x82 V69 ⟨by exact ow_79h_87 b65, by exact ow_79h_88 b65⟩ ⟨by exact ow_79h_89 b44 b47 ei83, by exact ow_79h_90 b61 c62 ei83⟩ (by exact ow_79h_91 b67 b68 ei83) hV70 hF71 (hT.trans (pf_val_inl hb53)) rfl
                          · skip
                            replace hb76 := hb76.trans (if_neg (Int.not_le.mpr c81))
                            refine pm_aload_n hC 0 (by decide) dX11_pairs_100 rfl ?_
                            refine pm_iload_n hC 1 dX11_pairs_101 rfl ?_
                            refine pm_iload_n hC 2 dX11_pairs_102 rfl ?_
                            refine pm_bipush (v := 100) hC dX11_pairs_103 (by decide) ?_
                            refine pm_imul hC dX11_pairs_105 ?_
                            refine pm_iload hC 8 dX11_pairs_106 rfl ?_
                            refine pm_bipush (v := 10) hC dX11_pairs_108 (by decide) ?_
                            refine pm_imul hC dX11_pairs_110 ?_
                            refine pm_iadd hC dX11_pairs_111 ?_
                            refine pm_iload hC 9 dX11_pairs_112 rfl ?_
                            refine pm_iadd hC dX11_pairs_114 ?_
                            refine pm_iload_n hC 3 dX11_pairs_115 rfl ?_
                            refine pm_iload hC 4 dX11_pairs_116 rfl ?_
                            refine pm_callV (ci := 11) (as := [(0, a1), (0, (((a2 * 100) + (x45 * 10)) + x66)), (0, a3), (0, a4)]) (st := []) hC 0 (fD_X11_isPair_0 a1 (((a2 * 100) + (x45 * 10)) + x66) a3 a4 ⟨by exact ow_79h_66 c1, by exact ow_79h_1 h0⟩ ⟨by exact ow_79h_92 b26 c28 b44 b47 b65 b68, by exact ow_79h_93 b26 c28 b61 c62 c81⟩ ⟨by exact ow_79h_94 b33 c35, by exact ow_79h_95 b33 c35⟩ ⟨by exact ow_79h_96 b40 c42, by exact ow_79h_97 b40 c42⟩ (by omega)) lm_X11_303 li_X11_isPair (by decide) (by decide) rfl rfl rfl (by decide) rfl rfl (Nat.le_of_ble_eq_true rfl) ⟨Nat.le_refl _, Or.inl rfl⟩ dX11_pairs_118 ⟨rfl, hV70⟩ (fun r84 V85 hp86 => ?_)
                            obtain ⟨y87, rfl, b88, hV89, hF90, hE91⟩ := hp86
                            replace hb76 := hb76.trans (pf_call_eq hE91)
                            change pm_J X 121 [(0, (3, 0)), (1, (0, a1)), (2, (0, a2)), (3, (0, a3)), (4, (0, a4)), (5, (0, a5)), (6, (0, 1)), (7, (0, x64)), (8, (0, x45)), (9, (0, x66))] [(0, y87)] 118 V85
                            have hF92 := pm_ff.tr hF71 hF90 (by decide) (by decide)
                            have e93 : V85 0 8 = 45 := by rw [hF90 0 8 (by decide) (by decide)]; exact e72
                            have e94 : V85 45 0 = y59 := by rw [hF90 45 0 (by decide) (by decide)]; exact e73
                            refine pm_if_eq (tgt := 143) hC ⟨by exact ow_79h_19 b88, by exact ow_79h_20 b88⟩ dX11_pairs_121 (by decide) (fun c95 => ?_) (fun c95 => ?_)
                            · skip
                              replace hb76 := hb76.trans (if_pos c95)
                              obtain ⟨x96, ei97⟩ : ∃ y : Int, x66 + 1 = y := ⟨_, rfl⟩
                              replace hb76 := hb76.trans (pf_let_eq ei97)
                              refine pm_iinc (y := x96) (lv' := [(9, (0, x96)), (0, (3, 0)), (1, (0, a1)), (2, (0, a2)), (3, (0, a3)), (4, (0, a4)), (5, (0, a5)), (6, (0, 1)), (7, (0, x64)), (8, (0, x45))]) hC 9 dX11_pairs_143 (by decide) rfl ei97 rfl ?_
                              refine pm_goto (tgt := 88) hC dX11_pairs_146 (by decide) ?_
                              refine pm_lvsub [1, 2, 3, 4, 5, 6, 7, 8, 9, 0] (lv' := [(0, (3, 0)), (1, (0, a1)), (2, (0, a2)), (3, (0, a3)), (4, (0, a4)), (5, (0, a5)), (6, (0, 1)), (7, (0, x64)), (8, (0, x45)), (9, (0, x96))]) rfl ?_
                              exact ih80 _ (by exact ow_79h_98 b61 hm78 c81 ei97) x64 x96 V85 ⟨by exact ow_79h_87 b65, by exact ow_79h_88 b65⟩ ⟨by exact ow_79h_99 b67 ei97, by exact ow_79h_90 b61 c81 ei97⟩ (by exact ow_79h_100 b68 ei97) hV89 hF92 e93 e94 (hb53.trans (pf_val_inl hb76)) rfl
                            · skip
                              replace hb76 := hb76.trans (if_neg c95)
                              refine pm_iload hC 7 dX11_pairs_124 rfl ?_
                              refine pm_iload hC 5 dX11_pairs_126 rfl ?_
                              refine pm_icmp_ne (tgt := 140) hC ⟨by exact ow_79h_101 b65, by exact ow_79h_102 b65⟩ ⟨by exact ow_79h_83 c19, by exact ow_79h_1 h4⟩ dX11_pairs_128 (by decide) (fun c98 => ?_) (fun c98 => ?_)
                              · skip
                                replace hb76 := hb76.trans (if_pos c98)
                                obtain ⟨x99, ei100⟩ : ∃ y : Int, x64 + 1 = y := ⟨_, rfl⟩
                                replace hb76 := hb76.trans (pf_let_eq ei100)
                                refine pm_iinc (y := x99) (lv' := [(7, (0, x99)), (0, (3, 0)), (1, (0, a1)), (2, (0, a2)), (3, (0, a3)), (4, (0, a4)), (5, (0, a5)), (6, (0, 1)), (8, (0, x45)), (9, (0, x66))]) hC 7 dX11_pairs_140 (by decide) rfl ei100 rfl ?_
                                obtain ⟨x101, ei102⟩ : ∃ y : Int, x66 + 1 = y := ⟨_, rfl⟩
                                replace hb76 := hb76.trans (pf_let_eq ei102)
                                refine pm_iinc (y := x101) (lv' := [(9, (0, x101)), (7, (0, x99)), (0, (3, 0)), (1, (0, a1)), (2, (0, a2)), (3, (0, a3)), (4, (0, a4)), (5, (0, a5)), (6, (0, 1)), (8, (0, x45))]) hC 9 dX11_pairs_143 (by decide) rfl ei102 rfl ?_
                                refine pm_goto (tgt := 88) hC dX11_pairs_146 (by decide) ?_
                                refine pm_lvsub [2, 3, 4, 5, 6, 7, 8, 1, 9, 0] (lv' := [(0, (3, 0)), (1, (0, a1)), (2, (0, a2)), (3, (0, a3)), (4, (0, a4)), (5, (0, a5)), (6, (0, 1)), (7, (0, x99)), (8, (0, x45)), (9, (0, x101))]) rfl ?_
                                exact ih80 _ (by exact ow_79h_98 b61 hm78 c81 ei102) x99 x101 V85 ⟨by exact ow_79h_103 b65 ei100, by exact ow_79h_104 b61 c62 b68 c81 ei100⟩ ⟨by exact ow_79h_99 b67 ei102, by exact ow_79h_90 b61 c81 ei102⟩ (by exact ow_79h_105 b68 ei100 ei102) hV89 hF92 e93 e94 (hb53.trans (pf_val_inl hb76)) rfl
                              · skip
                                replace hb76 := hb76.trans (if_neg (fun q => q c98))
                                refine pm_iload hC 8 dX11_pairs_131 rfl ?_
                                refine pm_bipush (v := 10) hC dX11_pairs_133 (by decide) ?_
                                refine pm_imul hC dX11_pairs_135 ?_
                                refine pm_iload hC 9 dX11_pairs_136 rfl ?_
                                refine pm_iadd hC dX11_pairs_138 ?_
                                replace hb53 := hb53.trans (pf_val_inr hb76)
                                replace hT := hT.trans (pf_val_inr hb53)
                                exact pm_iret hC hR pm_nar0 ⟨((x45 * 10) + x66), rfl, ⟨by exact ow_79h_106 b44 b47 b65 b68, by exact ow_79h_107 b61 c62 c81⟩, hV89, hF92, hT⟩ dX11_pairs_139
                        refine pm_lvsub [1, 2, 3, 4, 5, 6, 7, 8, 9, 0] (lv' := [(0, (3, 0)), (1, (0, a1)), (2, (0, a2)), (3, (0, a3)), (4, (0, a4)), (5, (0, a5)), (6, (0, 1)), (7, (0, x43)), (8, (0, x45)), (9, (0, 0))]) rfl ?_
                        exact L77 _ x43 0 V48 ⟨by exact ow_79h_87 b44, by exact ow_79h_88 b44⟩ ⟨by decide, by decide⟩ (by exact ow_79h_108 b47) hV49 hF50 e58 e60 hb53 rfl
                    · skip
                      replace hb53 := hb53.trans (if_neg (by rw [e58]; decide))
                      refine pm_getf (v := 51) hC 0 fl_X11_35 rfl rfl (by decide) rfl e58 dX11_pairs_76 ?_
                      obtain ⟨y103, e104⟩ : ∃ y, V48 51 0 = y := ⟨_, rfl⟩
                      have b105 := hV49.get 51 0 (lo := 0) (hi := 9) (by decide) (by decide) rfl
                      rw [e104] at b105
                      replace hb53 := hb53.trans (pf_let_eq e104)
                      refine pm_getf (v := y103) hC 51 fl_X11_136 rfl rfl (by decide) rfl e104 dX11_pairs_79 ?_
                      refine pm_icmp_ge (tgt := 155) hC ⟨by exact ow_79h_80 b44 b47, by exact ow_79h_81 b46⟩ ⟨by exact ow_79h_82 b105, by exact ow_79h_81 b105⟩ dX11_pairs_82 (by decide) (fun c106 => ?_) (fun c106 => ?_)
                      · skip
                        replace hb53 := hb53.trans (if_pos c106)
                        refine pm_iload hC 5 dX11_pairs_155 rfl ?_
                        refine pm_iconst (v := (-1)) hC dX11_pairs_157 ?_
                        refine pm_icmp_ne (tgt := 166) hC ⟨by exact ow_79h_83 c19, by exact ow_79h_1 h4⟩ ⟨by decide, by decide⟩ dX11_pairs_158 (by decide) (fun c107 => ?_) (fun c107 => ?_)
                        · skip
                          replace hb53 := hb53.trans (if_pos c107)
                          refine pm_iconst (v := (-1)) hC dX11_pairs_166 ?_
                          replace hT := hT.trans (pf_val_inr hb53)
                          exact pm_iret hC hR pm_nar0 ⟨(-1), rfl, ⟨by exact ow_79h_64, by exact ow_79h_65⟩, hV49, hF50, hT⟩ dX11_pairs_167
                        · skip
                          replace hb53 := hb53.trans (if_neg (fun q => q c107))
                          refine pm_iload hC 7 dX11_pairs_161 rfl ?_
                          refine pm_goto (tgt := 167) hC dX11_pairs_163 (by decide) ?_
                          replace hT := hT.trans (pf_val_inr hb53)
                          exact pm_iret hC hR pm_nar0 ⟨x43, rfl, ⟨by exact ow_79h_84 b44, by exact ow_79h_85 b44⟩, hV49, hF50, hT⟩ dX11_pairs_167
                      · skip
                        replace hb53 := hb53.trans (if_neg (Int.not_le.mpr c106))
                        refine pm_iconst (v := 0) hC dX11_pairs_85 ?_
                        refine pm_istore (lv' := [(9, (0, 0)), (0, (3, 0)), (1, (0, a1)), (2, (0, a2)), (3, (0, a3)), (4, (0, a4)), (5, (0, a5)), (6, (0, 1)), (7, (0, x43)), (8, (0, x45))]) hC dX11_pairs_86 (by decide) rfl ?_
                        obtain ⟨B118, hB119, hb53⟩ := pf_loop hb53
                        have L121 : ∀ (N123 : Nat) (x108 : Int) (x110 : Int) (V113 : pm_M), (0 ≤ x108 ∧ x108 ≤ 81) → (0 ≤ x110 ∧ x110 ≤ 9) → (x108 ≤ 9 * x45 + x110) → pm_ok 0 90 V113 → pm_ff [74, 75, 76, 77] [(73, 0), (73, 1), (73, 2), (73, 3), (73, 4), (73, 5), (73, 6), (73, 7), (73, 10), (73, 11), (73, 12), (73, 14)] V0 V113 → V113 0 8 = 51 → V113 51 0 = y103 → B51 (x43, x45, V48) = pf_val (.inr ((0 : Int), V0)) B118 (x108, x110, V113) → (Int.toNat (9 - x110)) = N123 → pm_J X 88 [(0, (3, 0)), (1, (0, a1)), (2, (0, a2)), (3, (0, a3)), (4, (0, a4)), (5, (0, a5)), (6, (0, 1)), (7, (0, x108)), (8, (0, x45)), (9, (0, x110))] [] 118 V113 := by
                          intro N123
                          induction N123 using Nat.strongRecOn with
                          | _ N123 ih124 =>
                          intro x108 x110 V113 b109 b111 b112 hV114 hF115 e116 e117 hb53 hm122
                          have hb120 := congrFun hB119 (x108, x110, V113)
                          refine pm_iload hC 9 dX11_pairs_88 rfl ?_
                          refine pm_aload_n hC 0 (by decide) dX11_pairs_90 rfl ?_
                          refine pm_getf (v := 51) hC 0 fl_X11_35 rfl rfl (by decide) rfl e116 dX11_pairs_91 ?_
                          refine pm_getf (v := y103) hC 51 fl_X11_136 rfl rfl (by decide) rfl e117 dX11_pairs_94 ?_
                          refine pm_icmp_ge (tgt := 149) hC ⟨by exact ow_79h_82 b111, by exact ow_79h_81 b111⟩ ⟨by exact ow_79h_82 b105, by exact ow_79h_81 b105⟩ dX11_pairs_97 (by decide) (fun c125 => ?_) (fun c125 => ?_)
                          · skip
                            replace hb120 := hb120.trans (if_pos c125)
                            obtain ⟨x126, ei127⟩ : ∃ y : Int, x45 + 1 = y := ⟨_, rfl⟩
                            replace hb120 := hb120.trans (pf_let_eq ei127)
                            refine pm_iinc (y := x126) (lv' := [(8, (0, x126)), (0, (3, 0)), (1, (0, a1)), (2, (0, a2)), (3, (0, a3)), (4, (0, a4)), (5, (0, a5)), (6, (0, 1)), (7, (0, x108)), (9, (0, x110))]) hC 8 dX11_pairs_149 (by decide) rfl ei127 rfl ?_
                            refine pm_goto (tgt := 73) hC dX11_pairs_152 (by decide) ?_
                            replace hb53 := hb53.trans (pf_val_inr hb120)
                            refine pm_lvsub [1, 2, 3, 4, 5, 6, 7, 8, 0] (lv' := [(0, (3, 0)), (1, (0, a1)), (2, (0, a2)), (3, (0, a3)), (4, (0, a4)), (5, (0, a5)), (6, (0, 1)), (7, (0, x108)), (8, (0, x126))]) rfl ?_
                            exact ih57 _ (by exact ow_79h_86 hm55 b105 c106 ei127) x108 x126 V113 ⟨by exact ow_79h_87 b109, by exact ow_79h_88 b109⟩ ⟨by exact ow_79h_89 b44 b47 ei127, by exact ow_79h_90 b105 c106 ei127⟩ (by exact ow_79h_91 b111 b112 ei127) hV114 hF115 (hT.trans (pf_val_inl hb53)) rfl
                          · skip
                            replace hb120 := hb120.trans (if_neg (Int.not_le.mpr c125))
                            refine pm_aload_n hC 0 (by decide) dX11_pairs_100 rfl ?_
                            refine pm_iload_n hC 1 dX11_pairs_101 rfl ?_
                            refine pm_iload_n hC 2 dX11_pairs_102 rfl ?_
                            refine pm_bipush (v := 100) hC dX11_pairs_103 (by decide) ?_
                            refine pm_imul hC dX11_pairs_105 ?_
                            refine pm_iload hC 8 dX11_pairs_106 rfl ?_
                            refine pm_bipush (v := 10) hC dX11_pairs_108 (by decide) ?_
                            refine pm_imul hC dX11_pairs_110 ?_
                            refine pm_iadd hC dX11_pairs_111 ?_
                            refine pm_iload hC 9 dX11_pairs_112 rfl ?_
                            refine pm_iadd hC dX11_pairs_114 ?_
                            refine pm_iload_n hC 3 dX11_pairs_115 rfl ?_
                            refine pm_iload hC 4 dX11_pairs_116 rfl ?_
                            refine pm_callV (ci := 11) (as := [(0, a1), (0, (((a2 * 100) + (x45 * 10)) + x110)), (0, a3), (0, a4)]) (st := []) hC 0 (fD_X11_isPair_0 a1 (((a2 * 100) + (x45 * 10)) + x110) a3 a4 ⟨by exact ow_79h_66 c1, by exact ow_79h_1 h0⟩ ⟨by exact ow_79h_92 b26 c28 b44 b47 b109 b112, by exact ow_79h_93 b26 c28 b105 c106 c125⟩ ⟨by exact ow_79h_94 b33 c35, by exact ow_79h_95 b33 c35⟩ ⟨by exact ow_79h_96 b40 c42, by exact ow_79h_97 b40 c42⟩ (by omega)) lm_X11_303 li_X11_isPair (by decide) (by decide) rfl rfl rfl (by decide) rfl rfl (Nat.le_of_ble_eq_true rfl) ⟨Nat.le_refl _, Or.inl rfl⟩ dX11_pairs_118 ⟨rfl, hV114⟩ (fun r128 V129 hp130 => ?_)
                            obtain ⟨y131, rfl, b132, hV133, hF134, hE135⟩ := hp130
                            replace hb120 := hb120.trans (pf_call_eq hE135)
                            change pm_J X 121 [(0, (3, 0)), (1, (0, a1)), (2, (0, a2)), (3, (0, a3)), (4, (0, a4)), (5, (0, a5)), (6, (0, 1)), (7, (0, x108)), (8, (0, x45)), (9, (0, x110))] [(0, y131)] 118 V129
                            have hF136 := pm_ff.tr hF115 hF134 (by decide) (by decide)
                            have e137 : V129 0 8 = 51 := by rw [hF134 0 8 (by decide) (by decide)]; exact e116
                            have e138 : V129 51 0 = y103 := by rw [hF134 51 0 (by decide) (by decide)]; exact e117
                            refine pm_if_eq (tgt := 143) hC ⟨by exact ow_79h_19 b132, by exact ow_79h_20 b132⟩ dX11_pairs_121 (by decide) (fun c139 => ?_) (fun c139 => ?_)
                            · skip
                              replace hb120 := hb120.trans (if_pos c139)
                              obtain ⟨x140, ei141⟩ : ∃ y : Int, x110 + 1 = y := ⟨_, rfl⟩
                              replace hb120 := hb120.trans (pf_let_eq ei141)
                              refine pm_iinc (y := x140) (lv' := [(9, (0, x140)), (0, (3, 0)), (1, (0, a1)), (2, (0, a2)), (3, (0, a3)), (4, (0, a4)), (5, (0, a5)), (6, (0, 1)), (7, (0, x108)), (8, (0, x45))]) hC 9 dX11_pairs_143 (by decide) rfl ei141 rfl ?_
                              refine pm_goto (tgt := 88) hC dX11_pairs_146 (by decide) ?_
                              refine pm_lvsub [1, 2, 3, 4, 5, 6, 7, 8, 9, 0] (lv' := [(0, (3, 0)), (1, (0, a1)), (2, (0, a2)), (3, (0, a3)), (4, (0, a4)), (5, (0, a5)), (6, (0, 1)), (7, (0, x108)), (8, (0, x45)), (9, (0, x140))]) rfl ?_
                              exact ih124 _ (by exact ow_79h_98 b105 hm122 c125 ei141) x108 x140 V129 ⟨by exact ow_79h_87 b109, by exact ow_79h_88 b109⟩ ⟨by exact ow_79h_99 b111 ei141, by exact ow_79h_90 b105 c125 ei141⟩ (by exact ow_79h_100 b112 ei141) hV133 hF136 e137 e138 (hb53.trans (pf_val_inl hb120)) rfl
                            · skip
                              replace hb120 := hb120.trans (if_neg c139)
                              refine pm_iload hC 7 dX11_pairs_124 rfl ?_
                              refine pm_iload hC 5 dX11_pairs_126 rfl ?_
                              refine pm_icmp_ne (tgt := 140) hC ⟨by exact ow_79h_101 b109, by exact ow_79h_102 b109⟩ ⟨by exact ow_79h_83 c19, by exact ow_79h_1 h4⟩ dX11_pairs_128 (by decide) (fun c142 => ?_) (fun c142 => ?_)
                              · skip
                                replace hb120 := hb120.trans (if_pos c142)
                                obtain ⟨x143, ei144⟩ : ∃ y : Int, x108 + 1 = y := ⟨_, rfl⟩
                                replace hb120 := hb120.trans (pf_let_eq ei144)
                                refine pm_iinc (y := x143) (lv' := [(7, (0, x143)), (0, (3, 0)), (1, (0, a1)), (2, (0, a2)), (3, (0, a3)), (4, (0, a4)), (5, (0, a5)), (6, (0, 1)), (8, (0, x45)), (9, (0, x110))]) hC 7 dX11_pairs_140 (by decide) rfl ei144 rfl ?_
                                obtain ⟨x145, ei146⟩ : ∃ y : Int, x110 + 1 = y := ⟨_, rfl⟩
                                replace hb120 := hb120.trans (pf_let_eq ei146)
                                refine pm_iinc (y := x145) (lv' := [(9, (0, x145)), (7, (0, x143)), (0, (3, 0)), (1, (0, a1)), (2, (0, a2)), (3, (0, a3)), (4, (0, a4)), (5, (0, a5)), (6, (0, 1)), (8, (0, x45))]) hC 9 dX11_pairs_143 (by decide) rfl ei146 rfl ?_
                                refine pm_goto (tgt := 88) hC dX11_pairs_146 (by decide) ?_
                                refine pm_lvsub [2, 3, 4, 5, 6, 7, 8, 1, 9, 0] (lv' := [(0, (3, 0)), (1, (0, a1)), (2, (0, a2)), (3, (0, a3)), (4, (0, a4)), (5, (0, a5)), (6, (0, 1)), (7, (0, x143)), (8, (0, x45)), (9, (0, x145))]) rfl ?_
                                exact ih124 _ (by exact ow_79h_98 b105 hm122 c125 ei146) x143 x145 V129 ⟨by exact ow_79h_103 b109 ei144, by exact ow_79h_104 b105 c106 b112 c125 ei144⟩ ⟨by exact ow_79h_99 b111 ei146, by exact ow_79h_90 b105 c125 ei146⟩ (by exact ow_79h_105 b112 ei144 ei146) hV133 hF136 e137 e138 (hb53.trans (pf_val_inl hb120)) rfl
                              · skip
                                replace hb120 := hb120.trans (if_neg (fun q => q c142))
                                refine pm_iload hC 8 dX11_pairs_131 rfl ?_
                                refine pm_bipush (v := 10) hC dX11_pairs_133 (by decide) ?_
                                refine pm_imul hC dX11_pairs_135 ?_
                                refine pm_iload hC 9 dX11_pairs_136 rfl ?_
                                refine pm_iadd hC dX11_pairs_138 ?_
                                replace hb53 := hb53.trans (pf_val_inr hb120)
                                replace hT := hT.trans (pf_val_inr hb53)
                                exact pm_iret hC hR pm_nar0 ⟨((x45 * 10) + x110), rfl, ⟨by exact ow_79h_106 b44 b47 b109 b112, by exact ow_79h_107 b105 c106 c125⟩, hV133, hF136, hT⟩ dX11_pairs_139
                        refine pm_lvsub [1, 2, 3, 4, 5, 6, 7, 8, 9, 0] (lv' := [(0, (3, 0)), (1, (0, a1)), (2, (0, a2)), (3, (0, a3)), (4, (0, a4)), (5, (0, a5)), (6, (0, 1)), (7, (0, x43)), (8, (0, x45)), (9, (0, 0))]) rfl ?_
                        exact L121 _ x43 0 V48 ⟨by exact ow_79h_87 b44, by exact ow_79h_88 b44⟩ ⟨by decide, by decide⟩ (by exact ow_79h_108 b47) hV49 hF50 e58 e104 hb53 rfl
                  refine pm_lvsub [3, 4, 5, 6, 7, 8, 2, 1, 0] (lv' := [(0, (3, 0)), (1, (0, a1)), (2, (0, a2)), (3, (0, a3)), (4, (0, a4)), (5, (0, a5)), (6, (0, 1)), (7, (0, 0)), (8, (0, 0))]) rfl ?_
                  exact L54 _ 0 0 V0 ⟨by decide, by decide⟩ ⟨by decide, by decide⟩ (by exact ow_79h_109) hV0 (pm_ff.rf (cs := [74, 75, 76, 77]) (fs := [(73, 0), (73, 1), (73, 2), (73, 3), (73, 4), (73, 5), (73, 6), (73, 7), (73, 10), (73, 11), (73, 12), (73, 14)]) (V := V0)) hT rfl
                · skip
                  replace hT := hT.trans (if_neg (fun q => q c42))
                  refine pm_iconst (v := (-1)) hC dX11_pairs_65 ?_
                  exact pm_iret hC hR pm_nar0 ⟨(-1), rfl, ⟨by exact ow_79h_64, by exact ow_79h_65⟩, hV0, (pm_ff.rf (cs := [74, 75, 76, 77]) (fs := [(73, 0), (73, 1), (73, 2), (73, 3), (73, 4), (73, 5), (73, 6), (73, 7), (73, 10), (73, 11), (73, 12), (73, 14)]) (V := V0)), hT⟩ dX11_pairs_66
set_option maxHeartbeats 4000000 in
set_option maxRecDepth 100000 in
theorem fD_X11_hump_0 (a1 a2 a3 : Int) (h0 : (-2147483648) ≤ a1 ∧ a1 ≤ 2147483647) (h1 : (-2147483648) ≤ a2 ∧ a2 ≤ 2147483647) (h2 : (-2147483648) ≤ a3 ∧ a3 ≤ 2147483647) : pm_K 5 yX11_hump cX11_hump 7 (some .int) (fun av V => av = [(3, 0), (0, a1), (0, a2), (0, a3)] ∧ pm_ok 0 90 V) (fun _ V r V' => ∃ y, r = some (0, y) ∧ ((-1) ≤ y ∧ y ≤ 99) ∧ pm_ok 0 90 V' ∧ pm_ff [74, 75, 76, 77] [(73, 0), (73, 1), (73, 2), (73, 3), (73, 4), (73, 5), (73, 6), (73, 7), (73, 10), (73, 11), (73, 12), (73, 14)] V V' ∧ F_X11_hump a1 a2 a3 V = (y, V')) := by
  refine pm_MT.of (by decide) ⟨Nat.le_refl _, by decide⟩ (fun av V h => by rw [h.1]; exact (by decide : pm_words [(3, 0), (0, 0), (0, 0), (0, 0)] ≤ 7)) ?_
  rintro X av V0 hC - hR ⟨rfl, hV0⟩
  change pm_J X 0 [(0, (3, 0)), (1, (0, a1)), (2, (0, a2)), (3, (0, a3))] [] 118 V0
  have hT := F_X11_hump_eq a1 a2 a3 V0
  refine pm_iload_n hC 3 dX11_hump_0 rfl ?_
  refine pm_if_lt (tgt := 19) hC ⟨by exact ow_79h_0 h2, by exact ow_79h_1 h2⟩ dX11_hump_1 (by decide) (fun c1 => ?_) (fun c1 => ?_)
  · skip
    replace hT := hT.trans (if_pos c1)
    refine pm_iconst (v := (-1)) hC dX11_hump_19 ?_
    exact pm_iret hC hR pm_nar0 ⟨(-1), rfl, ⟨by exact ow_79h_64, by exact ow_79h_110⟩, hV0, (pm_ff.rf (cs := [74, 75, 76, 77]) (fs := [(73, 0), (73, 1), (73, 2), (73, 3), (73, 4), (73, 5), (73, 6), (73, 7), (73, 10), (73, 11), (73, 12), (73, 14)]) (V := V0)), hT⟩ dX11_hump_20
  · skip
    replace hT := hT.trans (if_neg (Int.not_lt.mpr c1))
    refine pm_iload_n hC 3 dX11_hump_4 rfl ?_
    refine pm_iconst (v := 1) hC dX11_hump_5 ?_
    refine pm_icmp_gt (tgt := 19) hC ⟨by exact ow_79h_67 c1, by exact ow_79h_1 h2⟩ ⟨by decide, by decide⟩ dX11_hump_6 (by decide) (fun c2 => ?_) (fun c2 => ?_)
    · skip
      replace hT := hT.trans (if_pos c2)
      refine pm_iconst (v := (-1)) hC dX11_hump_19 ?_
      exact pm_iret hC hR pm_nar0 ⟨(-1), rfl, ⟨by exact ow_79h_64, by exact ow_79h_110⟩, hV0, (pm_ff.rf (cs := [74, 75, 76, 77]) (fs := [(73, 0), (73, 1), (73, 2), (73, 3), (73, 4), (73, 5), (73, 6), (73, 7), (73, 10), (73, 11), (73, 12), (73, 14)]) (V := V0)), hT⟩ dX11_hump_20
    · skip
      replace hT := hT.trans (if_neg (Int.not_lt.mpr c2))
      refine pm_aload_n hC 0 (by decide) dX11_hump_9 rfl ?_
      refine pm_iload_n hC 1 dX11_hump_10 rfl ?_
      refine pm_iload_n hC 2 dX11_hump_11 rfl ?_
      refine pm_iconst (v := 0) hC dX11_hump_12 ?_
      refine pm_callV (ci := 11) (as := [(0, a1), (0, a2), (0, 0)]) (st := []) hC 0 (fD_X11_isTrial_0 a1 a2 0 ⟨by exact ow_79h_0 h0, by exact ow_79h_1 h0⟩ ⟨by exact ow_79h_0 h1, by exact ow_79h_1 h1⟩ ⟨by decide, by decide⟩) lm_X11_225 li_X11_isTrial (by decide) (by decide) rfl rfl rfl (by decide) rfl rfl (Nat.le_of_ble_eq_true rfl) ⟨Nat.le_refl _, Or.inl rfl⟩ dX11_hump_13 ⟨rfl, hV0⟩ (fun r3 V4 hp5 => ?_)
      obtain ⟨y6, rfl, b7, rfl, hE8⟩ := hp5
      replace hT := hT.trans (pf_call_eq hE8)
      change pm_J X 16 [(0, (3, 0)), (1, (0, a1)), (2, (0, a2)), (3, (0, a3))] [(0, y6)] 118 V0
      refine pm_if_ne (tgt := 21) hC ⟨by exact ow_79h_111 b7, by exact ow_79h_112 b7⟩ dX11_hump_16 (by decide) (fun c9 => ?_) (fun c9 => ?_)
      · skip
        replace hT := hT.trans (if_pos c9)
        refine pm_aload_n hC 0 (by decide) dX11_hump_21 rfl ?_
        refine pm_iload_n hC 1 dX11_hump_22 rfl ?_
        refine pm_iload_n hC 2 dX11_hump_23 rfl ?_
        refine pm_iconst (v := 0) hC dX11_hump_24 ?_
        refine pm_callV (ci := 11) (as := [(0, a1), (0, a2), (0, 0)]) (st := []) hC 0 (fD_X11_pose_0 a1 a2 0 ⟨by exact ow_79h_113 b7 c9, by exact ow_79h_114 b7 c9⟩ ⟨by exact ow_79h_115 b7 c9, by exact ow_79h_116 b7 c9⟩ ⟨by decide, by decide⟩ (by exact ow_79h_117 b7 c9)) lm_X11_229 li_X11_pose (by decide) (by decide) rfl rfl rfl (by decide) rfl rfl (Nat.le_of_ble_eq_true rfl) ⟨Nat.le_refl _, Or.inl rfl⟩ dX11_hump_25 ⟨rfl, hV0⟩ (fun r10 V11 hp12 => ?_)
        obtain ⟨rfl, hV13, hF14, hE15⟩ := hp12
        replace hT := hT.trans (pf_call_eq hE15)
        change pm_J X 28 [(0, (3, 0)), (1, (0, a1)), (2, (0, a2)), (3, (0, a3))] [] 118 V11
        have hF16 := pm_ff.tr (pm_ff.rf (cs := [74, 75, 76, 77]) (fs := [(73, 0), (73, 1), (73, 2), (73, 3), (73, 4), (73, 5), (73, 6), (73, 7), (73, 10), (73, 11), (73, 12), (73, 14)]) (V := V0)) hF14 (by decide) (by decide)
        refine pm_aload_n hC 0 (by decide) dX11_hump_28 rfl ?_
        have e17 : V11 0 5 = 73 := hV13.one 0 5 (by decide) (by decide) rfl
        refine pm_getf (v := 73) hC 0 fl_X11_75 rfl rfl (by decide) rfl e17 dX11_hump_29 ?_
        refine pm_iconst (v := 4) hC dX11_hump_32 ?_
        refine pm_callV (ci := 10) (as := [(0, 4)]) (st := []) hC 73 (fD_X10_weigh_73 4 ⟨by decide, by decide⟩) lm_X11_294 li_X10_weigh (by decide) (by decide) rfl rfl rfl (by decide) rfl rfl (Nat.le_of_ble_eq_true rfl) ⟨Nat.le_refl _, Or.inl rfl⟩ dX11_hump_33 ⟨rfl, hV13⟩ (fun r18 V19 hp20 => ?_)
        obtain ⟨rfl, hV21, hF22, hE23⟩ := hp20
        replace hT := hT.trans (pf_call_eq hE23)
        change pm_J X 36 [(0, (3, 0)), (1, (0, a1)), (2, (0, a2)), (3, (0, a3))] [] 118 V19
        have hF24 := pm_ff.tr hF16 hF22 (by decide) (by decide)
        have e25 : V19 0 5 = 73 := by rw [hF22 0 5 (by decide) (by decide)]; exact e17
        refine pm_aload_n hC 0 (by decide) dX11_hump_36 rfl ?_
        refine pm_getf (v := 73) hC 0 fl_X11_75 rfl rfl (by decide) rfl e25 dX11_hump_37 ?_
        refine pm_iconst (v := 3) hC dX11_hump_40 ?_
        refine pm_callV (ci := 10) (as := [(0, 3)]) (st := []) hC 73 (fD_X10_chanceOfKind_73 3 ⟨by decide, by decide⟩) lm_X11_218 li_X10_chanceOfKind (by decide) (by decide) rfl rfl rfl (by decide) rfl rfl (Nat.le_of_ble_eq_true rfl) ⟨Nat.le_refl _, Or.inl rfl⟩ dX11_hump_41 ⟨rfl, hV21⟩ (fun r26 V27 hp28 => ?_)
        obtain ⟨y29, rfl, b30, rfl, hE31⟩ := hp28
        replace hT := hT.trans (pf_call_eq hE31)
        change pm_J X 44 [(0, (3, 0)), (1, (0, a1)), (2, (0, a2)), (3, (0, a3))] [(0, y29)] 118 V19
        refine pm_istore (lv' := [(4, (0, y29)), (0, (3, 0)), (1, (0, a1)), (2, (0, a2)), (3, (0, a3))]) hC dX11_hump_44 (by decide) rfl ?_
        refine pm_iload hC 0 dX11_hump_46 rfl ?_
        refine pm_if_ne (tgt := 53) hC ⟨by exact ow_79h_0 b30, by exact ow_79h_1 b30⟩ dX11_hump_48 (by decide) (fun c32 => ?_) (fun c32 => ?_)
        · skip
          replace hT := hT.trans (if_pos c32)
          refine pm_aload_n hC 1 (by decide) dX11_hump_53 rfl ?_
          have e33 : V19 0 3 = 4 := hV21.one 0 3 (by decide) (by decide) rfl
          refine pm_getf (v := 4) hC 0 fl_X11_24 rfl rfl (by decide) rfl e33 dX11_hump_54 ?_
          have e34 : V19 4 4 = 7 := hV21.one 4 4 (by decide) (by decide) rfl
          refine pm_getf (v := 7) hC 4 fl_X11_192 rfl rfl (by decide) rfl e34 dX11_hump_57 ?_
          refine pm_iload_n hC 2 dX11_hump_60 rfl ?_
          refine pm_bipush (v := 100) hC dX11_hump_61 (by decide) ?_
          refine pm_idiv hC ⟨by exact ow_79h_113 b7 c9, by exact ow_79h_0 h0, by exact ow_79h_1 h0⟩ ⟨by decide, by decide, by decide⟩ dX11_hump_63 ?_
          obtain ⟨y35, e36⟩ : ∃ y, V19 7 ((a1 / 100) : Int).toNat = y := ⟨_, rfl⟩
          replace hT := hT.trans (pf_let_eq e36)
          have b37 := hV21.get 7 ((a1 / 100) : Int).toNat (lo := 0) (hi := 16) (by decide) (show _ < 10 by exact ow_79h_118 b7 c9) rfl
          rw [e36] at b37
          refine pm_iaload (len := 10) (v := y35) hC 7 rfl rfl (by decide) ⟨by exact ow_79h_119 b7 c9, by exact ow_79h_120 b7 c9⟩ (by decide) e36 dX11_hump_64 ?_
          refine pm_istore (lv' := [(5, (0, y35)), (4, (0, y29)), (0, (3, 0)), (1, (0, a1)), (2, (0, a2)), (3, (0, a3))]) hC dX11_hump_65 (by decide) rfl ?_
          refine pm_iconst (v := 1) hC dX11_hump_67 ?_
          refine pm_istore (lv' := [(6, (0, 1)), (5, (0, y35)), (4, (0, y29)), (0, (3, 0)), (1, (0, a1)), (2, (0, a2)), (3, (0, a3))]) hC dX11_hump_68 (by decide) rfl ?_
          obtain ⟨B46, hB47, hT⟩ := pf_loop hT
          have L49 : ∀ (N51 : Nat) (x38 : Int) (V40 : pm_M), (1 ≤ x38 ∧ x38 ≤ 499) → pm_ok 0 90 V40 → pm_ff [74, 75, 76, 77] [(73, 0), (73, 1), (73, 2), (73, 3), (73, 4), (73, 5), (73, 6), (73, 7), (73, 10), (73, 11), (73, 12), (73, 14)] V0 V40 → V40 0 5 = 73 → V40 0 3 = 4 → V40 4 4 = 7 → F_X11_hump a1 a2 a3 V0 = pf_val ((0 : Int), V0) B46 (x38, V40) → (Int.toNat (499 - x38)) = N51 → pm_J X 70 [(0, (3, 0)), (1, (0, a1)), (2, (0, a2)), (3, (0, a3)), (4, (0, y29)), (5, (0, y35)), (6, (0, x38))] [] 118 V40 := by
            intro N51
            induction N51 using Nat.strongRecOn with
            | _ N51 ih52 =>
            intro x38 V40 b39 hV41 hF42 e43 e44 e45 hT hm50
            have hb48 := congrFun hB47 (x38, V40)
            refine pm_iload hC 6 dX11_hump_70 rfl ?_
            refine pm_bipush (v := 99) hC dX11_hump_72 (by decide) ?_
            refine pm_icmp_gt (tgt := 132) hC ⟨by exact ow_79h_121 b39, by exact ow_79h_122 b39⟩ ⟨by decide, by decide⟩ dX11_hump_74 (by decide) (fun c53 => ?_) (fun c53 => ?_)
            · skip
              replace hb48 := hb48.trans (if_pos c53)
              refine pm_bipush (v := 99) hC dX11_hump_132 (by decide) ?_
              replace hT := hT.trans (pf_val_inr hb48)
              exact pm_iret hC hR pm_nar0 ⟨99, rfl, ⟨by exact ow_79h_110, by exact ow_79h_123⟩, hV41, hF42, hT⟩ dX11_hump_134
            · skip
              replace hb48 := hb48.trans (if_neg (Int.not_lt.mpr c53))
              refine pm_aload_n hC 0 (by decide) dX11_hump_77 rfl ?_
              refine pm_getf (v := 73) hC 0 fl_X11_75 rfl rfl (by decide) rfl e43 dX11_hump_78 ?_
              refine pm_iload hC 5 dX11_hump_81 rfl ?_
              refine pm_iload_n hC 3 dX11_hump_83 rfl ?_
              refine pm_if_ne (tgt := 92) hC ⟨by exact ow_79h_67 c1, by exact ow_79h_124 c2⟩ dX11_hump_84 (by decide) (fun c54 => ?_) (fun c54 => ?_)
              · skip
                replace hb48 := hb48.trans (if_pos c54)
                refine pm_iload hC 6 dX11_hump_92 rfl ?_
                refine pm_ineg hC dX11_hump_94 ?_
                refine pm_callV (ci := 10) (as := [(0, y35), (0, (-x38))]) (st := []) hC 73 (fD_X10_trustAt_73 y35 (-x38) ⟨by exact ow_79h_125 b37, by exact ow_79h_126 b37⟩ ⟨by exact ow_79h_127 c53, by exact ow_79h_128 b39⟩) lm_X11_306 li_X10_trustAt (by decide) (by decide) rfl rfl rfl (by decide) rfl rfl (Nat.le_of_ble_eq_true rfl) ⟨Nat.le_refl _, Or.inl rfl⟩ dX11_hump_95 ⟨rfl, hV41⟩ (fun r55 V56 hp57 => ?_)
                obtain ⟨rfl, hV58, hF59, hE60⟩ := hp57
                replace hb48 := hb48.trans (pf_call_eq hE60)
                change pm_J X 98 [(0, (3, 0)), (1, (0, a1)), (2, (0, a2)), (3, (0, a3)), (4, (0, y29)), (5, (0, y35)), (6, (0, x38))] [] 118 V56
                have hF61 := pm_ff.tr hF42 hF59 (by decide) (by decide)
                have e62 : V56 0 5 = 73 := by rw [hF59 0 5 (by decide) (by decide)]; exact e43
                have e63 : V56 0 3 = 4 := by rw [hF59 0 3 (by decide) (by decide)]; exact e44
                have e64 : V56 4 4 = 7 := by rw [hF59 4 4 (by decide) (by decide)]; exact e45
                refine pm_aload_n hC 0 (by decide) dX11_hump_98 rfl ?_
                refine pm_getf (v := 73) hC 0 fl_X11_75 rfl rfl (by decide) rfl e62 dX11_hump_99 ?_
                refine pm_iconst (v := 4) hC dX11_hump_102 ?_
                refine pm_callV (ci := 10) (as := [(0, 4)]) (st := []) hC 73 (fD_X10_weigh_73 4 ⟨by decide, by decide⟩) lm_X11_294 li_X10_weigh (by decide) (by decide) rfl rfl rfl (by decide) rfl rfl (Nat.le_of_ble_eq_true rfl) ⟨Nat.le_refl _, Or.inl rfl⟩ dX11_hump_103 ⟨rfl, hV58⟩ (fun r65 V66 hp67 => ?_)
                obtain ⟨rfl, hV68, hF69, hE70⟩ := hp67
                replace hb48 := hb48.trans (pf_call_eq hE70)
                change pm_J X 106 [(0, (3, 0)), (1, (0, a1)), (2, (0, a2)), (3, (0, a3)), (4, (0, y29)), (5, (0, y35)), (6, (0, x38))] [] 118 V66
                have hF71 := pm_ff.tr hF61 hF69 (by decide) (by decide)
                have e72 : V66 0 5 = 73 := by rw [hF69 0 5 (by decide) (by decide)]; exact e62
                have e73 : V66 0 3 = 4 := by rw [hF69 0 3 (by decide) (by decide)]; exact e63
                have e74 : V66 4 4 = 7 := by rw [hF69 4 4 (by decide) (by decide)]; exact e64
                refine pm_iconst (v := 2) hC dX11_hump_106 ?_
                refine pm_aload_n hC 0 (by decide) dX11_hump_107 rfl ?_
                refine pm_getf (v := 73) hC 0 fl_X11_75 rfl rfl (by decide) rfl e72 dX11_hump_108 ?_
                refine pm_iconst (v := 3) hC dX11_hump_111 ?_
                refine pm_callV (ci := 10) (as := [(0, 3)]) (st := [(0, 2)]) hC 73 (fD_X10_chanceOfKind_73 3 ⟨by decide, by decide⟩) lm_X11_218 li_X10_chanceOfKind (by decide) (by decide) rfl rfl rfl (by decide) rfl rfl (Nat.le_of_ble_eq_true rfl) ⟨Nat.le_refl _, Or.inl rfl⟩ dX11_hump_112 ⟨rfl, hV68⟩ (fun r75 V76 hp77 => ?_)
                obtain ⟨y78, rfl, b79, rfl, hE80⟩ := hp77
                replace hb48 := hb48.trans (pf_call_eq hE80)
                change pm_J X 115 [(0, (3, 0)), (1, (0, a1)), (2, (0, a2)), (3, (0, a3)), (4, (0, y29)), (5, (0, y35)), (6, (0, x38))] [(0, y78), (0, 2)] 118 V66
                refine pm_imul hC dX11_hump_115 ?_
                refine pm_wr hC (fun y81 hw83 b82 => ?_)
                replace hb48 := hb48.trans (pf_let_eq hw83)
                have b82 := And.intro b82.1 b82.2
                refine pm_iload hC 4 dX11_hump_116 rfl ?_
                refine pm_icmp_ge (tgt := 126) hC ⟨by exact ow_79h_0 b82, by exact ow_79h_1 b82⟩ ⟨by exact ow_79h_0 b30, by exact ow_79h_1 b30⟩ dX11_hump_118 (by decide) (fun c84 => ?_) (fun c84 => ?_)
                · skip
                  replace hb48 := hb48.trans (if_pos c84)
                  obtain ⟨x85, ei86⟩ : ∃ y : Int, x38 + 1 = y := ⟨_, rfl⟩
                  replace hb48 := hb48.trans (pf_let_eq ei86)
                  refine pm_iinc (y := x85) (lv' := [(6, (0, x85)), (0, (3, 0)), (1, (0, a1)), (2, (0, a2)), (3, (0, a3)), (4, (0, y29)), (5, (0, y35))]) hC 6 dX11_hump_126 (by decide) rfl ei86 rfl ?_
                  refine pm_goto (tgt := 70) hC dX11_hump_129 (by decide) ?_
                  refine pm_lvsub [1, 2, 3, 4, 5, 6, 0] (lv' := [(0, (3, 0)), (1, (0, a1)), (2, (0, a2)), (3, (0, a3)), (4, (0, y29)), (5, (0, y35)), (6, (0, x85))]) rfl ?_
                  exact ih52 _ (by exact ow_79h_129 hm50 c53 ei86) x85 V66 ⟨by exact ow_79h_130 b39 ei86, by exact ow_79h_131 c53 ei86⟩ hV68 hF71 e72 e73 e74 (hT.trans (pf_val_inl hb48)) rfl
                · skip
                  replace hb48 := hb48.trans (if_neg (Int.not_le.mpr c84))
                  refine pm_iload hC 6 dX11_hump_121 rfl ?_
                  refine pm_iconst (v := 1) hC dX11_hump_123 ?_
                  refine pm_isub hC dX11_hump_124 ?_
                  replace hT := hT.trans (pf_val_inr hb48)
                  exact pm_iret hC hR pm_nar0 ⟨(x38 - 1), rfl, ⟨by exact ow_79h_132 b39, by exact ow_79h_133 c53⟩, hV68, hF71, hT⟩ dX11_hump_125
              · skip
                replace hb48 := hb48.trans (if_neg (fun q => q c54))
                refine pm_iload hC 6 dX11_hump_87 rfl ?_
                refine pm_goto (tgt := 95) hC dX11_hump_89 (by decide) ?_
                refine pm_callV (ci := 10) (as := [(0, y35), (0, x38)]) (st := []) hC 73 (fD_X10_trustAt_73 y35 x38 ⟨by exact ow_79h_125 b37, by exact ow_79h_126 b37⟩ ⟨by exact ow_79h_134 b39, by exact ow_79h_135 c53⟩) lm_X11_306 li_X10_trustAt (by decide) (by decide) rfl rfl rfl (by decide) rfl rfl (Nat.le_of_ble_eq_true rfl) ⟨Nat.le_refl _, Or.inl rfl⟩ dX11_hump_95 ⟨rfl, hV41⟩ (fun r87 V88 hp89 => ?_)
                obtain ⟨rfl, hV90, hF91, hE92⟩ := hp89
                replace hb48 := hb48.trans (pf_call_eq hE92)
                change pm_J X 98 [(0, (3, 0)), (1, (0, a1)), (2, (0, a2)), (3, (0, a3)), (4, (0, y29)), (5, (0, y35)), (6, (0, x38))] [] 118 V88
                have hF93 := pm_ff.tr hF42 hF91 (by decide) (by decide)
                have e94 : V88 0 5 = 73 := by rw [hF91 0 5 (by decide) (by decide)]; exact e43
                have e95 : V88 0 3 = 4 := by rw [hF91 0 3 (by decide) (by decide)]; exact e44
                have e96 : V88 4 4 = 7 := by rw [hF91 4 4 (by decide) (by decide)]; exact e45
                refine pm_aload_n hC 0 (by decide) dX11_hump_98 rfl ?_
                refine pm_getf (v := 73) hC 0 fl_X11_75 rfl rfl (by decide) rfl e94 dX11_hump_99 ?_
                refine pm_iconst (v := 4) hC dX11_hump_102 ?_
                refine pm_callV (ci := 10) (as := [(0, 4)]) (st := []) hC 73 (fD_X10_weigh_73 4 ⟨by decide, by decide⟩) lm_X11_294 li_X10_weigh (by decide) (by decide) rfl rfl rfl (by decide) rfl rfl (Nat.le_of_ble_eq_true rfl) ⟨Nat.le_refl _, Or.inl rfl⟩ dX11_hump_103 ⟨rfl, hV90⟩ (fun r97 V98 hp99 => ?_)
                obtain ⟨rfl, hV100, hF101, hE102⟩ := hp99
                replace hb48 := hb48.trans (pf_call_eq hE102)
                change pm_J X 106 [(0, (3, 0)), (1, (0, a1)), (2, (0, a2)), (3, (0, a3)), (4, (0, y29)), (5, (0, y35)), (6, (0, x38))] [] 118 V98
                have hF103 := pm_ff.tr hF93 hF101 (by decide) (by decide)
                have e104 : V98 0 5 = 73 := by rw [hF101 0 5 (by decide) (by decide)]; exact e94
                have e105 : V98 0 3 = 4 := by rw [hF101 0 3 (by decide) (by decide)]; exact e95
                have e106 : V98 4 4 = 7 := by rw [hF101 4 4 (by decide) (by decide)]; exact e96
                refine pm_iconst (v := 2) hC dX11_hump_106 ?_
                refine pm_aload_n hC 0 (by decide) dX11_hump_107 rfl ?_
                refine pm_getf (v := 73) hC 0 fl_X11_75 rfl rfl (by decide) rfl e104 dX11_hump_108 ?_
                refine pm_iconst (v := 3) hC dX11_hump_111 ?_
                refine pm_callV (ci := 10) (as := [(0, 3)]) (st := [(0, 2)]) hC 73 (fD_X10_chanceOfKind_73 3 ⟨by decide, by decide⟩) lm_X11_218 li_X10_chanceOfKind (by decide) (by decide) rfl rfl rfl (by decide) rfl rfl (Nat.le_of_ble_eq_true rfl) ⟨Nat.le_refl _, Or.inl rfl⟩ dX11_hump_112 ⟨rfl, hV100⟩ (fun r107 V108 hp109 => ?_)
                obtain ⟨y110, rfl, b111, rfl, hE112⟩ := hp109
                replace hb48 := hb48.trans (pf_call_eq hE112)
                change pm_J X 115 [(0, (3, 0)), (1, (0, a1)), (2, (0, a2)), (3, (0, a3)), (4, (0, y29)), (5, (0, y35)), (6, (0, x38))] [(0, y110), (0, 2)] 118 V98
                refine pm_imul hC dX11_hump_115 ?_
                refine pm_wr hC (fun y113 hw115 b114 => ?_)
                replace hb48 := hb48.trans (pf_let_eq hw115)
                have b114 := And.intro b114.1 b114.2
                refine pm_iload hC 4 dX11_hump_116 rfl ?_
                refine pm_icmp_ge (tgt := 126) hC ⟨by exact ow_79h_0 b114, by exact ow_79h_1 b114⟩ ⟨by exact ow_79h_0 b30, by exact ow_79h_1 b30⟩ dX11_hump_118 (by decide) (fun c116 => ?_) (fun c116 => ?_)
                · skip
                  replace hb48 := hb48.trans (if_pos c116)
                  obtain ⟨x117, ei118⟩ : ∃ y : Int, x38 + 1 = y := ⟨_, rfl⟩
                  replace hb48 := hb48.trans (pf_let_eq ei118)
                  refine pm_iinc (y := x117) (lv' := [(6, (0, x117)), (0, (3, 0)), (1, (0, a1)), (2, (0, a2)), (3, (0, a3)), (4, (0, y29)), (5, (0, y35))]) hC 6 dX11_hump_126 (by decide) rfl ei118 rfl ?_
                  refine pm_goto (tgt := 70) hC dX11_hump_129 (by decide) ?_
                  refine pm_lvsub [1, 2, 3, 4, 5, 6, 0] (lv' := [(0, (3, 0)), (1, (0, a1)), (2, (0, a2)), (3, (0, a3)), (4, (0, y29)), (5, (0, y35)), (6, (0, x117))]) rfl ?_
                  exact ih52 _ (by exact ow_79h_129 hm50 c53 ei118) x117 V98 ⟨by exact ow_79h_130 b39 ei118, by exact ow_79h_131 c53 ei118⟩ hV100 hF103 e104 e105 e106 (hT.trans (pf_val_inl hb48)) rfl
                · skip
                  replace hb48 := hb48.trans (if_neg (Int.not_le.mpr c116))
                  refine pm_iload hC 6 dX11_hump_121 rfl ?_
                  refine pm_iconst (v := 1) hC dX11_hump_123 ?_
                  refine pm_isub hC dX11_hump_124 ?_
                  replace hT := hT.trans (pf_val_inr hb48)
                  exact pm_iret hC hR pm_nar0 ⟨(x38 - 1), rfl, ⟨by exact ow_79h_132 b39, by exact ow_79h_133 c53⟩, hV100, hF103, hT⟩ dX11_hump_125
          refine pm_lvsub [3, 4, 5, 6, 2, 1, 0] (lv' := [(0, (3, 0)), (1, (0, a1)), (2, (0, a2)), (3, (0, a3)), (4, (0, y29)), (5, (0, y35)), (6, (0, 1))]) rfl ?_
          exact L49 _ 1 V19 ⟨by decide, by decide⟩ hV21 hF24 e25 e33 e34 hT rfl
        · skip
          replace hT := hT.trans (if_neg (fun q => q c32))
          refine pm_iconst (v := (-1)) hC dX11_hump_51 ?_
          exact pm_iret hC hR pm_nar0 ⟨(-1), rfl, ⟨by exact ow_79h_64, by exact ow_79h_110⟩, hV21, hF24, hT⟩ dX11_hump_52
      · skip
        replace hT := hT.trans (if_neg (fun q => q c9))
        refine pm_iconst (v := (-1)) hC dX11_hump_19 ?_
        exact pm_iret hC hR pm_nar0 ⟨(-1), rfl, ⟨by exact ow_79h_64, by exact ow_79h_110⟩, hV0, (pm_ff.rf (cs := [74, 75, 76, 77]) (fs := [(73, 0), (73, 1), (73, 2), (73, 3), (73, 4), (73, 5), (73, 6), (73, 7), (73, 10), (73, 11), (73, 12), (73, 14)]) (V := V0)), hT⟩ dX11_hump_20
set_option maxHeartbeats 4000000 in
set_option maxRecDepth 100000 in
theorem fD_X11_sumRight_0 (a1 a2 a3 : Int) (h0 : (-2147483648) ≤ a1 ∧ a1 ≤ 2147483647) (h1 : 0 ≤ a2 ∧ a2 ≤ 9) (h2 : 0 ≤ a3 ∧ a3 ≤ 99) : pm_K 5 yX11_sumRight cX11_sumRight 6 (some .int) (fun av V => av = [(3, 0), (0, a1), (0, a2), (0, a3)] ∧ pm_ok 0 90 V) (fun _ V r V' => ∃ y, r = some (0, y) ∧ ((-2147483648) ≤ y ∧ y ≤ 2147483647) ∧ pm_ok 0 90 V' ∧ pm_ff [74, 75, 76, 77] [(73, 0), (73, 1), (73, 2), (73, 3), (73, 4), (73, 5), (73, 6), (73, 7), (73, 10), (73, 11), (73, 12), (73, 14)] V V' ∧ F_X11_sumRight a1 a2 a3 V = (y, V')) := by
  refine pm_MT.of (by decide) ⟨Nat.le_refl _, by decide⟩ (fun av V h => by rw [h.1]; exact (by decide : pm_words [(3, 0), (0, 0), (0, 0), (0, 0)] ≤ 6)) ?_
  rintro X av V0 hC - hR ⟨rfl, hV0⟩
  change pm_J X 0 [(0, (3, 0)), (1, (0, a1)), (2, (0, a2)), (3, (0, a3))] [] 118 V0
  have hT := F_X11_sumRight_eq a1 a2 a3 V0
  refine pm_iconst (v := 0) hC dX11_sumRight_0 ?_
  refine pm_istore (lv' := [(4, (0, 0)), (0, (3, 0)), (1, (0, a1)), (2, (0, a2)), (3, (0, a3))]) hC dX11_sumRight_1 (by decide) rfl ?_
  refine pm_iconst (v := 0) hC dX11_sumRight_3 ?_
  refine pm_istore (lv' := [(5, (0, 0)), (4, (0, 0)), (0, (3, 0)), (1, (0, a1)), (2, (0, a2)), (3, (0, a3))]) hC dX11_sumRight_4 (by decide) rfl ?_
  obtain ⟨B8, hB9, hT⟩ := pf_loop hT
  have L11 : ∀ (N13 : Nat) (x1 : Int) (x3 : Int) (V5 : pm_M), ((-2147483648) ≤ x1 ∧ x1 ≤ 2147483647) → (0 ≤ x3 ∧ x3 ≤ 9) → pm_ok 0 90 V5 → pm_ff [74, 75, 76, 77] [(73, 0), (73, 1), (73, 2), (73, 3), (73, 4), (73, 5), (73, 6), (73, 7), (73, 10), (73, 11), (73, 12), (73, 14)] V0 V5 → F_X11_sumRight a1 a2 a3 V0 = pf_val ((0 : Int), V0) B8 (x1, x3, V5) → (Int.toNat (9 - x3)) = N13 → pm_J X 6 [(0, (3, 0)), (1, (0, a1)), (2, (0, a2)), (3, (0, a3)), (4, (0, x1)), (5, (0, x3))] [] 118 V5 := by
    intro N13
    induction N13 using Nat.strongRecOn with
    | _ N13 ih14 =>
    intro x1 x3 V5 b2 b4 hV6 hF7 hT hm12
    have hb10 := congrFun hB9 (x1, x3, V5)
    refine pm_iload hC 5 dX11_sumRight_6 rfl ?_
    refine pm_aload_n hC 0 (by decide) dX11_sumRight_8 rfl ?_
    rcases hV6.get2 0 8 (lo := 45) (hi := 51) (by decide) (by decide) rfl with e15 | e15
    · skip
      replace hb10 := hb10.trans (if_pos e15)
      refine pm_getf (v := 45) hC 0 fl_X11_35 rfl rfl (by decide) rfl e15 dX11_sumRight_9 ?_
      obtain ⟨y16, e17⟩ : ∃ y, V5 45 0 = y := ⟨_, rfl⟩
      have b18 := hV6.get 45 0 (lo := 0) (hi := 9) (by decide) (by decide) rfl
      rw [e17] at b18
      replace hb10 := hb10.trans (pf_let_eq e17)
      refine pm_getf (v := y16) hC 45 fl_X11_136 rfl rfl (by decide) rfl e17 dX11_sumRight_12 ?_
      refine pm_icmp_ge (tgt := 62) hC ⟨by exact ow_79h_82 b4, by exact ow_79h_81 b4⟩ ⟨by exact ow_79h_82 b18, by exact ow_79h_81 b18⟩ dX11_sumRight_15 (by decide) (fun c19 => ?_) (fun c19 => ?_)
      · skip
        replace hb10 := hb10.trans (if_pos c19)
        refine pm_iload hC 4 dX11_sumRight_62 rfl ?_
        replace hT := hT.trans (pf_val_inr hb10)
        exact pm_iret hC hR pm_nar0 ⟨x1, rfl, ⟨by exact ow_79h_0 b2, by exact ow_79h_1 b2⟩, hV6, hF7, hT⟩ dX11_sumRight_64
      · skip
        replace hb10 := hb10.trans (if_neg (Int.not_le.mpr c19))
        refine pm_aload_n hC 0 (by decide) dX11_sumRight_18 rfl ?_
        refine pm_iload_n hC 2 dX11_sumRight_19 rfl ?_
        refine pm_bipush (v := 100) hC dX11_sumRight_20 (by decide) ?_
        refine pm_imul hC dX11_sumRight_22 ?_
        refine pm_iload hC 5 dX11_sumRight_23 rfl ?_
        refine pm_bipush (v := 11) hC dX11_sumRight_25 (by decide) ?_
        refine pm_imul hC dX11_sumRight_27 ?_
        refine pm_iadd hC dX11_sumRight_28 ?_
        refine pm_iload_n hC 3 dX11_sumRight_29 rfl ?_
        refine pm_iconst (v := 0) hC dX11_sumRight_30 ?_
        have hdg := pm_dig11 (b := a2) (x := x3) ⟨by exact ow_79h_136 h1, by exact ow_79h_137 h1⟩ ⟨by exact ow_79h_136 b4, by exact ow_79h_138 b18 c19⟩
        refine pm_callV (ci := 11) (as := [(0, ((a2 * 100) + (x3 * 11))), (0, a3), (0, 0)]) (st := []) hC 0 (fD_X11_pose_0 ((a2 * 100) + (x3 * 11)) a3 0 ⟨by exact ow_79h_139 h1 b4, by exact ow_79h_140 h1 b18 c19⟩ ⟨by exact ow_79h_28 h2, by exact ow_79h_29 h2⟩ ⟨by decide, by decide⟩ (by exact ow_79h_141 hdg)) lm_X11_229 li_X11_pose (by decide) (by decide) rfl rfl rfl (by decide) rfl rfl (Nat.le_of_ble_eq_true rfl) ⟨Nat.le_refl _, Or.inl rfl⟩ dX11_sumRight_31 ⟨rfl, hV6⟩ (fun r20 V21 hp22 => ?_)
        obtain ⟨rfl, hV23, hF24, hE25⟩ := hp22
        replace hb10 := hb10.trans (pf_call_eq hE25)
        change pm_J X 34 [(0, (3, 0)), (1, (0, a1)), (2, (0, a2)), (3, (0, a3)), (4, (0, x1)), (5, (0, x3))] [] 118 V21
        have hF26 := pm_ff.tr hF7 hF24 (by decide) (by decide)
        have e27 : V21 0 8 = 45 := by rw [hF24 0 8 (by decide) (by decide)]; exact e15
        have e28 : V21 45 0 = y16 := by rw [hF24 45 0 (by decide) (by decide)]; exact e17
        refine pm_aload_n hC 0 (by decide) dX11_sumRight_34 rfl ?_
        have e29 : V21 0 5 = 73 := hV23.one 0 5 (by decide) (by decide) rfl
        refine pm_getf (v := 73) hC 0 fl_X11_75 rfl rfl (by decide) rfl e29 dX11_sumRight_35 ?_
        refine pm_iload_n hC 1 dX11_sumRight_38 rfl ?_
        refine pm_callV (ci := 10) (as := [(0, a1)]) (st := []) hC 73 (fD_X10_weigh_73 a1 ⟨by exact ow_79h_0 h0, by exact ow_79h_1 h0⟩) lm_X11_294 li_X10_weigh (by decide) (by decide) rfl rfl rfl (by decide) rfl rfl (Nat.le_of_ble_eq_true rfl) ⟨Nat.le_refl _, Or.inl rfl⟩ dX11_sumRight_39 ⟨rfl, hV23⟩ (fun r30 V31 hp32 => ?_)
        obtain ⟨rfl, hV33, hF34, hE35⟩ := hp32
        replace hb10 := hb10.trans (pf_call_eq hE35)
        change pm_J X 42 [(0, (3, 0)), (1, (0, a1)), (2, (0, a2)), (3, (0, a3)), (4, (0, x1)), (5, (0, x3))] [] 118 V31
        have hF36 := pm_ff.tr hF26 hF34 (by decide) (by decide)
        have e37 : V31 0 8 = 45 := by rw [hF34 0 8 (by decide) (by decide)]; exact e27
        have e38 : V31 45 0 = y16 := by rw [hF34 45 0 (by decide) (by decide)]; exact e28
        have e39 : V31 0 5 = 73 := by rw [hF34 0 5 (by decide) (by decide)]; exact e29
        refine pm_iload hC 4 dX11_sumRight_42 rfl ?_
        refine pm_aload_n hC 0 (by decide) dX11_sumRight_44 rfl ?_
        refine pm_getf (v := 73) hC 0 fl_X11_75 rfl rfl (by decide) rfl e39 dX11_sumRight_45 ?_
        refine pm_iload hC 5 dX11_sumRight_48 rfl ?_
        refine pm_callV (ci := 10) (as := [(0, x3)]) (st := [(0, x1)]) hC 73 (fD_X10_chanceOf_73 x3 ⟨by exact ow_79h_136 b4, by exact ow_79h_138 b18 c19⟩) lm_X11_211 li_X10_chanceOf (by decide) (by decide) rfl rfl rfl (by decide) rfl rfl (Nat.le_of_ble_eq_true rfl) ⟨Nat.le_refl _, Or.inl rfl⟩ dX11_sumRight_50 ⟨rfl, hV33⟩ (fun r40 V41 hp42 => ?_)
        obtain ⟨y43, rfl, b44, rfl, hE45⟩ := hp42
        replace hb10 := hb10.trans (pf_call_eq hE45)
        change pm_J X 53 [(0, (3, 0)), (1, (0, a1)), (2, (0, a2)), (3, (0, a3)), (4, (0, x1)), (5, (0, x3))] [(0, y43), (0, x1)] 118 V31
        refine pm_iadd hC dX11_sumRight_53 ?_
        refine pm_wr hC (fun y46 hw48 b47 => ?_)
        replace hb10 := hb10.trans (pf_let_eq hw48)
        have b47 := And.intro b47.1 b47.2
        refine pm_istore (lv' := [(4, (0, y46)), (0, (3, 0)), (1, (0, a1)), (2, (0, a2)), (3, (0, a3)), (5, (0, x3))]) hC dX11_sumRight_54 (by decide) rfl ?_
        obtain ⟨x49, ei50⟩ : ∃ y : Int, x3 + 1 = y := ⟨_, rfl⟩
        replace hb10 := hb10.trans (pf_let_eq ei50)
        refine pm_iinc (y := x49) (lv' := [(5, (0, x49)), (4, (0, y46)), (0, (3, 0)), (1, (0, a1)), (2, (0, a2)), (3, (0, a3))]) hC 5 dX11_sumRight_56 (by decide) rfl ei50 rfl ?_
        refine pm_goto (tgt := 6) hC dX11_sumRight_59 (by decide) ?_
        refine pm_lvsub [2, 3, 4, 5, 1, 0] (lv' := [(0, (3, 0)), (1, (0, a1)), (2, (0, a2)), (3, (0, a3)), (4, (0, y46)), (5, (0, x49))]) rfl ?_
        exact ih14 _ (by exact ow_79h_86 hm12 b18 c19 ei50) y46 x49 V31 ⟨by exact ow_79h_0 b47, by exact ow_79h_1 b47⟩ ⟨by exact ow_79h_99 b4 ei50, by exact ow_79h_90 b18 c19 ei50⟩ hV33 hF36 (hT.trans (pf_val_inl hb10)) rfl
    · skip
      replace hb10 := hb10.trans (if_neg (by rw [e15]; decide))
      refine pm_getf (v := 51) hC 0 fl_X11_35 rfl rfl (by decide) rfl e15 dX11_sumRight_9 ?_
      obtain ⟨y51, e52⟩ : ∃ y, V5 51 0 = y := ⟨_, rfl⟩
      have b53 := hV6.get 51 0 (lo := 0) (hi := 9) (by decide) (by decide) rfl
      rw [e52] at b53
      replace hb10 := hb10.trans (pf_let_eq e52)
      refine pm_getf (v := y51) hC 51 fl_X11_136 rfl rfl (by decide) rfl e52 dX11_sumRight_12 ?_
      refine pm_icmp_ge (tgt := 62) hC ⟨by exact ow_79h_82 b4, by exact ow_79h_81 b4⟩ ⟨by exact ow_79h_82 b53, by exact ow_79h_81 b53⟩ dX11_sumRight_15 (by decide) (fun c54 => ?_) (fun c54 => ?_)
      · skip
        replace hb10 := hb10.trans (if_pos c54)
        refine pm_iload hC 4 dX11_sumRight_62 rfl ?_
        replace hT := hT.trans (pf_val_inr hb10)
        exact pm_iret hC hR pm_nar0 ⟨x1, rfl, ⟨by exact ow_79h_0 b2, by exact ow_79h_1 b2⟩, hV6, hF7, hT⟩ dX11_sumRight_64
      · skip
        replace hb10 := hb10.trans (if_neg (Int.not_le.mpr c54))
        refine pm_aload_n hC 0 (by decide) dX11_sumRight_18 rfl ?_
        refine pm_iload_n hC 2 dX11_sumRight_19 rfl ?_
        refine pm_bipush (v := 100) hC dX11_sumRight_20 (by decide) ?_
        refine pm_imul hC dX11_sumRight_22 ?_
        refine pm_iload hC 5 dX11_sumRight_23 rfl ?_
        refine pm_bipush (v := 11) hC dX11_sumRight_25 (by decide) ?_
        refine pm_imul hC dX11_sumRight_27 ?_
        refine pm_iadd hC dX11_sumRight_28 ?_
        refine pm_iload_n hC 3 dX11_sumRight_29 rfl ?_
        refine pm_iconst (v := 0) hC dX11_sumRight_30 ?_
        have hdg := pm_dig11 (b := a2) (x := x3) ⟨by exact ow_79h_136 h1, by exact ow_79h_137 h1⟩ ⟨by exact ow_79h_136 b4, by exact ow_79h_138 b53 c54⟩
        refine pm_callV (ci := 11) (as := [(0, ((a2 * 100) + (x3 * 11))), (0, a3), (0, 0)]) (st := []) hC 0 (fD_X11_pose_0 ((a2 * 100) + (x3 * 11)) a3 0 ⟨by exact ow_79h_139 h1 b4, by exact ow_79h_140 h1 b53 c54⟩ ⟨by exact ow_79h_28 h2, by exact ow_79h_29 h2⟩ ⟨by decide, by decide⟩ (by exact ow_79h_141 hdg)) lm_X11_229 li_X11_pose (by decide) (by decide) rfl rfl rfl (by decide) rfl rfl (Nat.le_of_ble_eq_true rfl) ⟨Nat.le_refl _, Or.inl rfl⟩ dX11_sumRight_31 ⟨rfl, hV6⟩ (fun r55 V56 hp57 => ?_)
        obtain ⟨rfl, hV58, hF59, hE60⟩ := hp57
        replace hb10 := hb10.trans (pf_call_eq hE60)
        change pm_J X 34 [(0, (3, 0)), (1, (0, a1)), (2, (0, a2)), (3, (0, a3)), (4, (0, x1)), (5, (0, x3))] [] 118 V56
        have hF61 := pm_ff.tr hF7 hF59 (by decide) (by decide)
        have e62 : V56 0 8 = 51 := by rw [hF59 0 8 (by decide) (by decide)]; exact e15
        have e63 : V56 51 0 = y51 := by rw [hF59 51 0 (by decide) (by decide)]; exact e52
        refine pm_aload_n hC 0 (by decide) dX11_sumRight_34 rfl ?_
        have e64 : V56 0 5 = 73 := hV58.one 0 5 (by decide) (by decide) rfl
        refine pm_getf (v := 73) hC 0 fl_X11_75 rfl rfl (by decide) rfl e64 dX11_sumRight_35 ?_
        refine pm_iload_n hC 1 dX11_sumRight_38 rfl ?_
        refine pm_callV (ci := 10) (as := [(0, a1)]) (st := []) hC 73 (fD_X10_weigh_73 a1 ⟨by exact ow_79h_0 h0, by exact ow_79h_1 h0⟩) lm_X11_294 li_X10_weigh (by decide) (by decide) rfl rfl rfl (by decide) rfl rfl (Nat.le_of_ble_eq_true rfl) ⟨Nat.le_refl _, Or.inl rfl⟩ dX11_sumRight_39 ⟨rfl, hV58⟩ (fun r65 V66 hp67 => ?_)
        obtain ⟨rfl, hV68, hF69, hE70⟩ := hp67
        replace hb10 := hb10.trans (pf_call_eq hE70)
        change pm_J X 42 [(0, (3, 0)), (1, (0, a1)), (2, (0, a2)), (3, (0, a3)), (4, (0, x1)), (5, (0, x3))] [] 118 V66
        have hF71 := pm_ff.tr hF61 hF69 (by decide) (by decide)
        have e72 : V66 0 8 = 51 := by rw [hF69 0 8 (by decide) (by decide)]; exact e62
        have e73 : V66 51 0 = y51 := by rw [hF69 51 0 (by decide) (by decide)]; exact e63
        have e74 : V66 0 5 = 73 := by rw [hF69 0 5 (by decide) (by decide)]; exact e64
        refine pm_iload hC 4 dX11_sumRight_42 rfl ?_
        refine pm_aload_n hC 0 (by decide) dX11_sumRight_44 rfl ?_
        refine pm_getf (v := 73) hC 0 fl_X11_75 rfl rfl (by decide) rfl e74 dX11_sumRight_45 ?_
        refine pm_iload hC 5 dX11_sumRight_48 rfl ?_
        refine pm_callV (ci := 10) (as := [(0, x3)]) (st := [(0, x1)]) hC 73 (fD_X10_chanceOf_73 x3 ⟨by exact ow_79h_136 b4, by exact ow_79h_138 b53 c54⟩) lm_X11_211 li_X10_chanceOf (by decide) (by decide) rfl rfl rfl (by decide) rfl rfl (Nat.le_of_ble_eq_true rfl) ⟨Nat.le_refl _, Or.inl rfl⟩ dX11_sumRight_50 ⟨rfl, hV68⟩ (fun r75 V76 hp77 => ?_)
        obtain ⟨y78, rfl, b79, rfl, hE80⟩ := hp77
        replace hb10 := hb10.trans (pf_call_eq hE80)
        change pm_J X 53 [(0, (3, 0)), (1, (0, a1)), (2, (0, a2)), (3, (0, a3)), (4, (0, x1)), (5, (0, x3))] [(0, y78), (0, x1)] 118 V66
        refine pm_iadd hC dX11_sumRight_53 ?_
        refine pm_wr hC (fun y81 hw83 b82 => ?_)
        replace hb10 := hb10.trans (pf_let_eq hw83)
        have b82 := And.intro b82.1 b82.2
        refine pm_istore (lv' := [(4, (0, y81)), (0, (3, 0)), (1, (0, a1)), (2, (0, a2)), (3, (0, a3)), (5, (0, x3))]) hC dX11_sumRight_54 (by decide) rfl ?_
        obtain ⟨x84, ei85⟩ : ∃ y : Int, x3 + 1 = y := ⟨_, rfl⟩
        replace hb10 := hb10.trans (pf_let_eq ei85)
        refine pm_iinc (y := x84) (lv' := [(5, (0, x84)), (4, (0, y81)), (0, (3, 0)), (1, (0, a1)), (2, (0, a2)), (3, (0, a3))]) hC 5 dX11_sumRight_56 (by decide) rfl ei85 rfl ?_
        refine pm_goto (tgt := 6) hC dX11_sumRight_59 (by decide) ?_
        refine pm_lvsub [2, 3, 4, 5, 1, 0] (lv' := [(0, (3, 0)), (1, (0, a1)), (2, (0, a2)), (3, (0, a3)), (4, (0, y81)), (5, (0, x84))]) rfl ?_
        exact ih14 _ (by exact ow_79h_86 hm12 b53 c54 ei85) y81 x84 V66 ⟨by exact ow_79h_0 b82, by exact ow_79h_1 b82⟩ ⟨by exact ow_79h_99 b4 ei85, by exact ow_79h_90 b53 c54 ei85⟩ hV68 hF71 (hT.trans (pf_val_inl hb10)) rfl
  refine pm_lvsub [2, 3, 4, 5, 1, 0] (lv' := [(0, (3, 0)), (1, (0, a1)), (2, (0, a2)), (3, (0, a3)), (4, (0, 0)), (5, (0, 0))]) rfl ?_
  exact L11 _ 0 0 V0 ⟨by decide, by decide⟩ ⟨by decide, by decide⟩ hV0 (pm_ff.rf (cs := [74, 75, 76, 77]) (fs := [(73, 0), (73, 1), (73, 2), (73, 3), (73, 4), (73, 5), (73, 6), (73, 7), (73, 10), (73, 11), (73, 12), (73, 14)]) (V := V0)) hT rfl
set_option maxHeartbeats 4000000 in
set_option maxRecDepth 100000 in
theorem fD_X11_right_0 (a1 a2 a3 : Int) (h0 : (-2147483648) ≤ a1 ∧ a1 ≤ 2147483647) (h1 : (-2147483648) ≤ a2 ∧ a2 ≤ 2147483647) (h2 : (-2147483648) ≤ a3 ∧ a3 ≤ 2147483647) : pm_K 6 yX11_right cX11_right 4 (some .int) (fun av V => av = [(3, 0), (0, a1), (0, a2), (0, a3)] ∧ pm_ok 0 90 V) (fun _ V r V' => ∃ y, r = some (0, y) ∧ ((-2147483648) ≤ y ∧ y ≤ 2147483647) ∧ pm_ok 0 90 V' ∧ pm_ff [74, 75, 76, 77] [(73, 0), (73, 1), (73, 2), (73, 3), (73, 4), (73, 5), (73, 6), (73, 7), (73, 10), (73, 11), (73, 12), (73, 14)] V V' ∧ F_X11_right a1 a2 a3 V = (y, V')) := by
  refine pm_MT.of (by decide) ⟨Nat.le_refl _, by decide⟩ (fun av V h => by rw [h.1]; exact (by decide : pm_words [(3, 0), (0, 0), (0, 0), (0, 0)] ≤ 4)) ?_
  rintro X av V0 hC - hR ⟨rfl, hV0⟩
  change pm_J X 0 [(0, (3, 0)), (1, (0, a1)), (2, (0, a2)), (3, (0, a3))] [] 118 V0
  have hT := F_X11_right_eq a1 a2 a3 V0
  refine pm_iload_n hC 1 dX11_right_0 rfl ?_
  refine pm_callS (as := [(0, a1)]) (st := []) hC (fD_X11_isLaw a1 ⟨by exact ow_79h_0 h0, by exact ow_79h_1 h0⟩) lm_X11_262 ls_X11_isLaw (by decide) (by decide) rfl rfl (Nat.le_of_ble_eq_true rfl) ⟨Nat.le_refl _, Or.inl rfl⟩ dX11_right_1 ⟨rfl, hV0⟩ (fun r1 V2 hp3 => ?_)
  obtain ⟨y4, rfl, b5, rfl, hE6⟩ := hp3
  replace hT := hT.trans (pf_call_eq hE6)
  change pm_J X 4 [(0, (3, 0)), (1, (0, a1)), (2, (0, a2)), (3, (0, a3))] [(0, y4)] 118 V0
  refine pm_if_eq (tgt := 22) hC ⟨by exact ow_79h_2 b5, by exact ow_79h_3 b5⟩ dX11_right_4 (by decide) (fun c7 => ?_) (fun c7 => ?_)
  · skip
    replace hT := hT.trans (if_pos c7)
    refine pm_iconst (v := (-1)) hC dX11_right_22 ?_
    exact pm_iret hC hR pm_nar0 ⟨(-1), rfl, ⟨by exact ow_79h_5, by exact ow_79h_6⟩, hV0, (pm_ff.rf (cs := [74, 75, 76, 77]) (fs := [(73, 0), (73, 1), (73, 2), (73, 3), (73, 4), (73, 5), (73, 6), (73, 7), (73, 10), (73, 11), (73, 12), (73, 14)]) (V := V0)), hT⟩ dX11_right_23
  · skip
    replace hT := hT.trans (if_neg c7)
    refine pm_aload_n hC 0 (by decide) dX11_right_7 rfl ?_
    refine pm_iload_n hC 2 dX11_right_8 rfl ?_
    refine pm_callV (ci := 11) (as := [(0, a2)]) (st := []) hC 0 (fD_X11_isPerson_0 a2 ⟨by exact ow_79h_0 h1, by exact ow_79h_1 h1⟩) lm_X11_183 li_X11_isPerson (by decide) (by decide) rfl rfl rfl (by decide) rfl rfl (Nat.le_of_ble_eq_true rfl) ⟨Nat.le_refl _, Or.inl rfl⟩ dX11_right_9 ⟨rfl, hV0⟩ (fun r8 V9 hp10 => ?_)
    obtain ⟨y11, rfl, b12, rfl, hE13⟩ := hp10
    replace hT := hT.trans (pf_call_eq hE13)
    change pm_J X 12 [(0, (3, 0)), (1, (0, a1)), (2, (0, a2)), (3, (0, a3))] [(0, y11)] 118 V0
    refine pm_if_eq (tgt := 22) hC ⟨by exact ow_79h_74 b12, by exact ow_79h_75 b12⟩ dX11_right_12 (by decide) (fun c14 => ?_) (fun c14 => ?_)
    · skip
      replace hT := hT.trans (if_pos c14)
      refine pm_iconst (v := (-1)) hC dX11_right_22 ?_
      exact pm_iret hC hR pm_nar0 ⟨(-1), rfl, ⟨by exact ow_79h_5, by exact ow_79h_6⟩, hV0, (pm_ff.rf (cs := [74, 75, 76, 77]) (fs := [(73, 0), (73, 1), (73, 2), (73, 3), (73, 4), (73, 5), (73, 6), (73, 7), (73, 10), (73, 11), (73, 12), (73, 14)]) (V := V0)), hT⟩ dX11_right_23
    · skip
      replace hT := hT.trans (if_neg c14)
      refine pm_iload_n hC 3 dX11_right_15 rfl ?_
      refine pm_callS (as := [(0, a3)]) (st := []) hC (fD_X11_isSetting a3 ⟨by exact ow_79h_0 h2, by exact ow_79h_1 h2⟩) lm_X11_297 ls_X11_isSetting (by decide) (by decide) rfl rfl (Nat.le_of_ble_eq_true rfl) ⟨Nat.le_refl _, Or.inl rfl⟩ dX11_right_16 ⟨rfl, hV0⟩ (fun r15 V16 hp17 => ?_)
      obtain ⟨y18, rfl, b19, rfl, hE20⟩ := hp17
      replace hT := hT.trans (pf_call_eq hE20)
      change pm_J X 19 [(0, (3, 0)), (1, (0, a1)), (2, (0, a2)), (3, (0, a3))] [(0, y18)] 118 V0
      refine pm_if_ne (tgt := 24) hC ⟨by exact ow_79h_76 b19, by exact ow_79h_77 b19⟩ dX11_right_19 (by decide) (fun c21 => ?_) (fun c21 => ?_)
      · skip
        replace hT := hT.trans (if_pos c21)
        refine pm_aload_n hC 0 (by decide) dX11_right_24 rfl ?_
        refine pm_iload_n hC 1 dX11_right_25 rfl ?_
        refine pm_iload_n hC 2 dX11_right_26 rfl ?_
        refine pm_iload_n hC 3 dX11_right_27 rfl ?_
        refine pm_callV (ci := 11) (as := [(0, a1), (0, a2), (0, a3)]) (st := []) hC 0 (fD_X11_sumRight_0 a1 a2 a3 ⟨by exact ow_79h_0 h0, by exact ow_79h_1 h0⟩ ⟨by exact ow_79h_142 b12 c14, by exact ow_79h_143 b12 c14⟩ ⟨by exact ow_79h_94 b19 c21, by exact ow_79h_95 b19 c21⟩) lm_X11_310 li_X11_sumRight (by decide) (by decide) rfl rfl rfl (by decide) rfl rfl (Nat.le_of_ble_eq_true rfl) ⟨Nat.le_refl _, Or.inl rfl⟩ dX11_right_28 ⟨rfl, hV0⟩ (fun r22 V23 hp24 => ?_)
        obtain ⟨y25, rfl, b26, hV27, hF28, hE29⟩ := hp24
        replace hT := hT.trans (pf_call_eq hE29)
        change pm_J X 31 [(0, (3, 0)), (1, (0, a1)), (2, (0, a2)), (3, (0, a3))] [(0, y25)] 118 V23
        have hF30 := pm_ff.tr (pm_ff.rf (cs := [74, 75, 76, 77]) (fs := [(73, 0), (73, 1), (73, 2), (73, 3), (73, 4), (73, 5), (73, 6), (73, 7), (73, 10), (73, 11), (73, 12), (73, 14)]) (V := V0)) hF28 (by decide) (by decide)
        exact pm_iret hC hR pm_nar0 ⟨y25, rfl, ⟨by exact ow_79h_0 b26, by exact ow_79h_1 b26⟩, hV27, hF30, hT⟩ dX11_right_31
      · skip
        replace hT := hT.trans (if_neg (fun q => q c21))
        refine pm_iconst (v := (-1)) hC dX11_right_22 ?_
        exact pm_iret hC hR pm_nar0 ⟨(-1), rfl, ⟨by exact ow_79h_5, by exact ow_79h_6⟩, hV0, (pm_ff.rf (cs := [74, 75, 76, 77]) (fs := [(73, 0), (73, 1), (73, 2), (73, 3), (73, 4), (73, 5), (73, 6), (73, 7), (73, 10), (73, 11), (73, 12), (73, 14)]) (V := V0)), hT⟩ dX11_right_23
set_option maxHeartbeats 4000000 in
set_option maxRecDepth 100000 in
theorem fD_X11_worth_0 (a1 a2 a3 : Int) (h0 : (-2147483648) ≤ a1 ∧ a1 ≤ 2147483647) (h1 : (-2147483648) ≤ a2 ∧ a2 ≤ 2147483647) (h2 : (-2147483648) ≤ a3 ∧ a3 ≤ 2147483647) : pm_K 6 yX11_worth cX11_worth 7 (some .int) (fun av V => av = [(3, 0), (0, a1), (0, a2), (0, a3)] ∧ pm_ok 0 90 V) (fun _ V r V' => ∃ y, r = some (0, y) ∧ ((-1) ≤ y ∧ y ≤ 9) ∧ pm_ok 0 90 V' ∧ pm_ff [74, 75, 76, 77] [(73, 0), (73, 1), (73, 2), (73, 3), (73, 4), (73, 5), (73, 6), (73, 7), (73, 10), (73, 11), (73, 12), (73, 14)] V V' ∧ F_X11_worth a1 a2 a3 V = (y, V')) := by
  refine pm_MT.of (by decide) ⟨Nat.le_refl _, by decide⟩ (fun av V h => by rw [h.1]; exact (by decide : pm_words [(3, 0), (0, 0), (0, 0), (0, 0)] ≤ 7)) ?_
  rintro X av V0 hC - hR ⟨rfl, hV0⟩
  change pm_J X 0 [(0, (3, 0)), (1, (0, a1)), (2, (0, a2)), (3, (0, a3))] [] 118 V0
  have hT := F_X11_worth_eq a1 a2 a3 V0
  refine pm_iload_n hC 1 dX11_worth_0 rfl ?_
  refine pm_callS (as := [(0, a1)]) (st := []) hC (fD_X11_isLaw a1 ⟨by exact ow_79h_0 h0, by exact ow_79h_1 h0⟩) lm_X11_262 ls_X11_isLaw (by decide) (by decide) rfl rfl (Nat.le_of_ble_eq_true rfl) ⟨Nat.le_refl _, Or.inl rfl⟩ dX11_worth_1 ⟨rfl, hV0⟩ (fun r1 V2 hp3 => ?_)
  obtain ⟨y4, rfl, b5, rfl, hE6⟩ := hp3
  replace hT := hT.trans (pf_call_eq hE6)
  change pm_J X 4 [(0, (3, 0)), (1, (0, a1)), (2, (0, a2)), (3, (0, a3))] [(0, y4)] 118 V0
  refine pm_if_eq (tgt := 22) hC ⟨by exact ow_79h_2 b5, by exact ow_79h_3 b5⟩ dX11_worth_4 (by decide) (fun c7 => ?_) (fun c7 => ?_)
  · skip
    replace hT := hT.trans (if_pos c7)
    refine pm_iconst (v := (-1)) hC dX11_worth_22 ?_
    exact pm_iret hC hR pm_nar0 ⟨(-1), rfl, ⟨by exact ow_79h_64, by exact ow_79h_144⟩, hV0, (pm_ff.rf (cs := [74, 75, 76, 77]) (fs := [(73, 0), (73, 1), (73, 2), (73, 3), (73, 4), (73, 5), (73, 6), (73, 7), (73, 10), (73, 11), (73, 12), (73, 14)]) (V := V0)), hT⟩ dX11_worth_23
  · skip
    replace hT := hT.trans (if_neg c7)
    refine pm_aload_n hC 0 (by decide) dX11_worth_7 rfl ?_
    refine pm_iload_n hC 2 dX11_worth_8 rfl ?_
    refine pm_callV (ci := 11) (as := [(0, a2)]) (st := []) hC 0 (fD_X11_isPerson_0 a2 ⟨by exact ow_79h_0 h1, by exact ow_79h_1 h1⟩) lm_X11_183 li_X11_isPerson (by decide) (by decide) rfl rfl rfl (by decide) rfl rfl (Nat.le_of_ble_eq_true rfl) ⟨Nat.le_refl _, Or.inl rfl⟩ dX11_worth_9 ⟨rfl, hV0⟩ (fun r8 V9 hp10 => ?_)
    obtain ⟨y11, rfl, b12, rfl, hE13⟩ := hp10
    replace hT := hT.trans (pf_call_eq hE13)
    change pm_J X 12 [(0, (3, 0)), (1, (0, a1)), (2, (0, a2)), (3, (0, a3))] [(0, y11)] 118 V0
    refine pm_if_eq (tgt := 22) hC ⟨by exact ow_79h_74 b12, by exact ow_79h_75 b12⟩ dX11_worth_12 (by decide) (fun c14 => ?_) (fun c14 => ?_)
    · skip
      replace hT := hT.trans (if_pos c14)
      refine pm_iconst (v := (-1)) hC dX11_worth_22 ?_
      exact pm_iret hC hR pm_nar0 ⟨(-1), rfl, ⟨by exact ow_79h_64, by exact ow_79h_144⟩, hV0, (pm_ff.rf (cs := [74, 75, 76, 77]) (fs := [(73, 0), (73, 1), (73, 2), (73, 3), (73, 4), (73, 5), (73, 6), (73, 7), (73, 10), (73, 11), (73, 12), (73, 14)]) (V := V0)), hT⟩ dX11_worth_23
    · skip
      replace hT := hT.trans (if_neg c14)
      refine pm_iload_n hC 3 dX11_worth_15 rfl ?_
      refine pm_callS (as := [(0, a3)]) (st := []) hC (fD_X11_isSetting a3 ⟨by exact ow_79h_0 h2, by exact ow_79h_1 h2⟩) lm_X11_297 ls_X11_isSetting (by decide) (by decide) rfl rfl (Nat.le_of_ble_eq_true rfl) ⟨Nat.le_refl _, Or.inl rfl⟩ dX11_worth_16 ⟨rfl, hV0⟩ (fun r15 V16 hp17 => ?_)
      obtain ⟨y18, rfl, b19, rfl, hE20⟩ := hp17
      replace hT := hT.trans (pf_call_eq hE20)
      change pm_J X 19 [(0, (3, 0)), (1, (0, a1)), (2, (0, a2)), (3, (0, a3))] [(0, y18)] 118 V0
      refine pm_if_ne (tgt := 24) hC ⟨by exact ow_79h_76 b19, by exact ow_79h_77 b19⟩ dX11_worth_19 (by decide) (fun c21 => ?_) (fun c21 => ?_)
      · skip
        replace hT := hT.trans (if_pos c21)
        refine pm_aload_n hC 0 (by decide) dX11_worth_24 rfl ?_
        refine pm_iload_n hC 1 dX11_worth_25 rfl ?_
        refine pm_iload_n hC 2 dX11_worth_26 rfl ?_
        refine pm_iload_n hC 3 dX11_worth_27 rfl ?_
        refine pm_callV (ci := 11) (as := [(0, a1), (0, a2), (0, a3)]) (st := []) hC 0 (fD_X11_sumRight_0 a1 a2 a3 ⟨by exact ow_79h_0 h0, by exact ow_79h_1 h0⟩ ⟨by exact ow_79h_142 b12 c14, by exact ow_79h_143 b12 c14⟩ ⟨by exact ow_79h_94 b19 c21, by exact ow_79h_95 b19 c21⟩) lm_X11_310 li_X11_sumRight (by decide) (by decide) rfl rfl rfl (by decide) rfl rfl (Nat.le_of_ble_eq_true rfl) ⟨Nat.le_refl _, Or.inl rfl⟩ dX11_worth_28 ⟨rfl, hV0⟩ (fun r22 V23 hp24 => ?_)
        obtain ⟨y25, rfl, b26, hV27, hF28, hE29⟩ := hp24
        replace hT := hT.trans (pf_call_eq hE29)
        change pm_J X 31 [(0, (3, 0)), (1, (0, a1)), (2, (0, a2)), (3, (0, a3))] [(0, y25)] 118 V23
        have hF30 := pm_ff.tr (pm_ff.rf (cs := [74, 75, 76, 77]) (fs := [(73, 0), (73, 1), (73, 2), (73, 3), (73, 4), (73, 5), (73, 6), (73, 7), (73, 10), (73, 11), (73, 12), (73, 14)]) (V := V0)) hF28 (by decide) (by decide)
        refine pm_istore (lv' := [(4, (0, y25)), (0, (3, 0)), (1, (0, a1)), (2, (0, a2)), (3, (0, a3))]) hC dX11_worth_31 (by decide) rfl ?_
        refine pm_iload_n hC 4 dX11_worth_33 rfl ?_
        refine pm_bipush (v := 10) hC dX11_worth_34 (by decide) ?_
        refine pm_idiv hC ⟨by exact ow_79h_94 b19 c21, by exact ow_79h_0 h2, by exact ow_79h_1 h2⟩ ⟨by decide, by decide, by decide⟩ dX11_worth_36 ?_
        refine pm_istore (lv' := [(5, (0, (a3 / 10))), (4, (0, y25)), (0, (3, 0)), (1, (0, a1)), (2, (0, a2)), (3, (0, a3))]) hC dX11_worth_37 (by decide) rfl ?_
        refine pm_iconst (v := 0) hC dX11_worth_39 ?_
        refine pm_istore (lv' := [(6, (0, 0)), (5, (0, (a3 / 10))), (4, (0, y25)), (0, (3, 0)), (1, (0, a1)), (2, (0, a2)), (3, (0, a3))]) hC dX11_worth_40 (by decide) rfl ?_
        obtain ⟨B36, hB37, hT⟩ := pf_loop hT
        have L39 : ∀ (N41 : Nat) (x31 : Int) (V33 : pm_M), (0 ≤ x31 ∧ x31 ≤ 16) → pm_ok 0 90 V33 → pm_ff [74, 75, 76, 77] [(73, 0), (73, 1), (73, 2), (73, 3), (73, 4), (73, 5), (73, 6), (73, 7), (73, 10), (73, 11), (73, 12), (73, 14)] V0 V33 → F_X11_worth a1 a2 a3 V0 = pf_val ((0 : Int), V0) B36 (x31, V33) → (Int.toNat (16 - x31)) = N41 → pm_J X 42 [(0, (3, 0)), (1, (0, a1)), (2, (0, a2)), (3, (0, a3)), (4, (0, y25)), (5, (0, (a3 / 10))), (6, (0, x31))] [] 118 V33 := by
          intro N41
          induction N41 using Nat.strongRecOn with
          | _ N41 ih42 =>
          intro x31 V33 b32 hV34 hF35 hT hm40
          have hb38 := congrFun hB37 (x31, V33)
          refine pm_iload hC 6 dX11_worth_42 rfl ?_
          refine pm_iload hC 5 dX11_worth_44 rfl ?_
          refine pm_icmp_gt (tgt := 76) hC ⟨by exact ow_79h_125 b32, by exact ow_79h_126 b32⟩ ⟨by exact ow_79h_145 h2, by exact ow_79h_69 h2⟩ dX11_worth_46 (by decide) (fun c43 => ?_) (fun c43 => ?_)
          · skip
            replace hb38 := hb38.trans (if_pos c43)
            refine pm_iconst (v := (-1)) hC dX11_worth_76 ?_
            replace hT := hT.trans (pf_val_inr hb38)
            exact pm_iret hC hR pm_nar0 ⟨(-1), rfl, ⟨by exact ow_79h_64, by exact ow_79h_144⟩, hV34, hF35, hT⟩ dX11_worth_77
          · skip
            replace hb38 := hb38.trans (if_neg (Int.not_lt.mpr c43))
            refine pm_aload_n hC 0 (by decide) dX11_worth_49 rfl ?_
            refine pm_iconst (v := 0) hC dX11_worth_50 ?_
            refine pm_iload_n hC 2 dX11_worth_51 rfl ?_
            refine pm_iload_n hC 3 dX11_worth_52 rfl ?_
            refine pm_iload hC 6 dX11_worth_53 rfl ?_
            refine pm_bipush (v := 10) hC dX11_worth_55 (by decide) ?_
            refine pm_imul hC dX11_worth_57 ?_
            refine pm_isub hC dX11_worth_58 ?_
            refine pm_callV (ci := 11) (as := [(0, 0), (0, a2), (0, (a3 - (x31 * 10)))]) (st := []) hC 0 (fD_X11_sumRight_0 0 a2 (a3 - (x31 * 10)) ⟨by decide, by decide⟩ ⟨by exact ow_79h_142 b12 c14, by exact ow_79h_143 b12 c14⟩ ⟨by exact ow_79h_146 c43, by exact ow_79h_147 b19 c21 b32⟩) lm_X11_310 li_X11_sumRight (by decide) (by decide) rfl rfl rfl (by decide) rfl rfl (Nat.le_of_ble_eq_true rfl) ⟨Nat.le_refl _, Or.inl rfl⟩ dX11_worth_59 ⟨rfl, hV34⟩ (fun r44 V45 hp46 => ?_)
            obtain ⟨y47, rfl, b48, hV49, hF50, hE51⟩ := hp46
            replace hb38 := hb38.trans (pf_call_eq hE51)
            change pm_J X 62 [(0, (3, 0)), (1, (0, a1)), (2, (0, a2)), (3, (0, a3)), (4, (0, y25)), (5, (0, (a3 / 10))), (6, (0, x31))] [(0, y47)] 118 V45
            have hF52 := pm_ff.tr hF35 hF50 (by decide) (by decide)
            refine pm_iload hC 4 dX11_worth_62 rfl ?_
            refine pm_icmp_lt (tgt := 70) hC ⟨by exact ow_79h_0 b48, by exact ow_79h_1 b48⟩ ⟨by exact ow_79h_0 b26, by exact ow_79h_1 b26⟩ dX11_worth_64 (by decide) (fun c53 => ?_) (fun c53 => ?_)
            · skip
              replace hb38 := hb38.trans (if_pos c53)
              obtain ⟨x54, ei55⟩ : ∃ y : Int, x31 + 1 = y := ⟨_, rfl⟩
              replace hb38 := hb38.trans (pf_let_eq ei55)
              refine pm_iinc (y := x54) (lv' := [(6, (0, x54)), (0, (3, 0)), (1, (0, a1)), (2, (0, a2)), (3, (0, a3)), (4, (0, y25)), (5, (0, (a3 / 10)))]) hC 6 dX11_worth_70 (by decide) rfl ei55 rfl ?_
              refine pm_goto (tgt := 42) hC dX11_worth_73 (by decide) ?_
              refine pm_lvsub [1, 2, 3, 4, 5, 6, 0] (lv' := [(0, (3, 0)), (1, (0, a1)), (2, (0, a2)), (3, (0, a3)), (4, (0, y25)), (5, (0, (a3 / 10))), (6, (0, x54))]) rfl ?_
              exact ih42 _ (by exact ow_79h_148 b19 c21 hm40 c43 ei55) x54 V45 ⟨by exact ow_79h_149 b32 ei55, by exact ow_79h_150 b19 c21 c43 ei55⟩ hV49 hF52 (hT.trans (pf_val_inl hb38)) rfl
            · skip
              replace hb38 := hb38.trans (if_neg (Int.not_lt.mpr c53))
              refine pm_iload hC 6 dX11_worth_67 rfl ?_
              replace hT := hT.trans (pf_val_inr hb38)
              exact pm_iret hC hR pm_nar0 ⟨x31, rfl, ⟨by exact ow_79h_151 b32, by exact ow_79h_152 b19 c21 c43⟩, hV49, hF52, hT⟩ dX11_worth_69
        refine pm_lvsub [3, 4, 5, 6, 2, 1, 0] (lv' := [(0, (3, 0)), (1, (0, a1)), (2, (0, a2)), (3, (0, a3)), (4, (0, y25)), (5, (0, (a3 / 10))), (6, (0, 0))]) rfl ?_
        exact L39 _ 0 V23 ⟨by decide, by decide⟩ hV27 hF30 hT rfl
      · skip
        replace hT := hT.trans (if_neg (fun q => q c21))
        refine pm_iconst (v := (-1)) hC dX11_worth_22 ?_
        exact pm_iret hC hR pm_nar0 ⟨(-1), rfl, ⟨by exact ow_79h_64, by exact ow_79h_144⟩, hV0, (pm_ff.rf (cs := [74, 75, 76, 77]) (fs := [(73, 0), (73, 1), (73, 2), (73, 3), (73, 4), (73, 5), (73, 6), (73, 7), (73, 10), (73, 11), (73, 12), (73, 14)]) (V := V0)), hT⟩ dX11_worth_23
set_option maxHeartbeats 4000000 in
set_option maxRecDepth 100000 in
theorem fD_X11_areLaws (a1 : Int) (h0 : (-2147483648) ≤ a1 ∧ a1 ≤ 2147483647) : pm_K 2 yX11_areLaws cX11_areLaws 1 (some .boolean) (fun av V => av = [(0, a1)] ∧ pm_ok 0 90 V) (fun _ V r V' => ∃ y, r = some (0, y) ∧ (0 ≤ y ∧ y ≤ 1 ∧ (y = 1 → (0 ≤ a1 ∧ a1 ≤ 69))) ∧ V = V' ∧ F_X11_areLaws a1 V = (y, V)) := by
  refine pm_MT.of (by decide) ⟨Nat.le_refl _, by decide⟩ (fun av V h => by rw [h.1]; exact (by decide : pm_words [(0, 0)] ≤ 1)) ?_
  rintro X av V0 hC - hR ⟨rfl, hV0⟩
  change pm_J X 0 [(0, (0, a1))] [] 118 V0
  have hT := F_X11_areLaws_eq a1 V0
  refine pm_iload_n hC 0 dX11_areLaws_0 rfl ?_
  refine pm_if_lt (tgt := 28) hC ⟨by exact ow_79h_0 h0, by exact ow_79h_1 h0⟩ dX11_areLaws_1 (by decide) (fun c1 => ?_) (fun c1 => ?_)
  · skip
    replace hT := hT.trans (if_pos c1)
    refine pm_iconst (v := 0) hC dX11_areLaws_28 ?_
    exact pm_iret hC hR (pm_narZ (by exact ow_79h_59)) ⟨0, rfl, ⟨by exact ow_79h_60, by exact ow_79h_61, by exact ow_79h_153⟩, rfl, hT⟩ dX11_areLaws_29
  · skip
    replace hT := hT.trans (if_neg (Int.not_lt.mpr c1))
    refine pm_iload_n hC 0 dX11_areLaws_4 rfl ?_
    refine pm_bipush (v := 10) hC dX11_areLaws_5 (by decide) ?_
    refine pm_idiv hC ⟨by exact ow_79h_66 c1, by exact ow_79h_67 c1, by exact ow_79h_1 h0⟩ ⟨by decide, by decide, by decide⟩ dX11_areLaws_7 ?_
    refine pm_callS (as := [(0, (a1 / 10))]) (st := []) hC (fD_X11_isLaw (a1 / 10) ⟨by exact ow_79h_68 c1, by exact ow_79h_69 h0⟩) lm_X11_262 ls_X11_isLaw (by decide) (by decide) rfl rfl (Nat.le_of_ble_eq_true rfl) ⟨Nat.le_refl _, Or.inl rfl⟩ dX11_areLaws_8 ⟨rfl, hV0⟩ (fun r2 V3 hp4 => ?_)
    obtain ⟨y5, rfl, b6, rfl, hE7⟩ := hp4
    replace hT := hT.trans (pf_call_eq hE7)
    change pm_J X 11 [(0, (0, a1))] [(0, y5)] 118 V0
    refine pm_if_eq (tgt := 28) hC ⟨by exact ow_79h_154 b6, by exact ow_79h_155 b6⟩ dX11_areLaws_11 (by decide) (fun c8 => ?_) (fun c8 => ?_)
    · skip
      replace hT := hT.trans (if_pos c8)
      refine pm_iconst (v := 0) hC dX11_areLaws_28 ?_
      exact pm_iret hC hR (pm_narZ (by exact ow_79h_59)) ⟨0, rfl, ⟨by exact ow_79h_60, by exact ow_79h_61, by exact ow_79h_153⟩, rfl, hT⟩ dX11_areLaws_29
    · skip
      replace hT := hT.trans (if_neg c8)
      refine pm_iload_n hC 0 dX11_areLaws_14 rfl ?_
      refine pm_bipush (v := 10) hC dX11_areLaws_15 (by decide) ?_
      refine pm_irem hC ⟨by exact ow_79h_66 c1, by exact ow_79h_67 c1, by exact ow_79h_1 h0⟩ ⟨by decide, by decide, by decide⟩ dX11_areLaws_17 ?_
      refine pm_callS (as := [(0, (a1 % 10))]) (st := []) hC (fD_X11_isLaw (a1 % 10) ⟨by exact ow_79h_45, by exact ow_79h_52⟩) lm_X11_262 ls_X11_isLaw (by decide) (by decide) rfl rfl (Nat.le_of_ble_eq_true rfl) ⟨Nat.le_refl _, Or.inl rfl⟩ dX11_areLaws_18 ⟨rfl, hV0⟩ (fun r9 V10 hp11 => ?_)
      obtain ⟨y12, rfl, b13, rfl, hE14⟩ := hp11
      replace hT := hT.trans (pf_call_eq hE14)
      change pm_J X 21 [(0, (0, a1))] [(0, y12)] 118 V0
      refine pm_if_eq (tgt := 28) hC ⟨by exact ow_79h_72 b13, by exact ow_79h_73 b13⟩ dX11_areLaws_21 (by decide) (fun c15 => ?_) (fun c15 => ?_)
      · skip
        replace hT := hT.trans (if_pos c15)
        refine pm_iconst (v := 0) hC dX11_areLaws_28 ?_
        exact pm_iret hC hR (pm_narZ (by exact ow_79h_59)) ⟨0, rfl, ⟨by exact ow_79h_60, by exact ow_79h_61, by exact ow_79h_153⟩, rfl, hT⟩ dX11_areLaws_29
      · skip
        replace hT := hT.trans (if_neg c15)
        refine pm_iconst (v := 1) hC dX11_areLaws_24 ?_
        refine pm_goto (tgt := 29) hC dX11_areLaws_25 (by decide) ?_
        exact pm_iret hC hR (pm_narZ (by exact ow_79h_62)) ⟨1, rfl, ⟨by exact ow_79h_61, by exact ow_79h_63, by exact ow_79h_156 c1 b6 c8⟩, rfl, hT⟩ dX11_areLaws_29
