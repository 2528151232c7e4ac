theorem ow_79k_0 {a0 : Int} (h0 : ((0 ≤ (a0 : Int)) ∧ (a0 ≤ (10 : Int)))) : (0 ≤ (a0 : Int)) := by omega
theorem ow_79k_1 {a0 : Int} (h0 : ((0 ≤ (a0 : Int)) ∧ (a0 ≤ (10 : Int)))) : (a0 ≤ (10 : Int)) := by omega
theorem ow_79k_2 {a0 : Int} (h0 : ((0 ≤ (a0 : Int)) ∧ (a0 ≤ (16 : Int)))) : ((-2147483648) ≤ (a0 : Int)) := by omega
theorem ow_79k_3 {a0 : Int} (h0 : ((0 ≤ (a0 : Int)) ∧ (a0 ≤ (16 : Int)))) : (a0 ≤ (2147483647 : Int)) := by omega
theorem ow_79k_4 {a0 : Int} (h0 : ((0 ≤ (a0 : Int)) ∧ (a0 ≤ (10 : Int)))) : ((-2147483648) ≤ (a0 : Int)) := by omega
theorem ow_79k_5 {a0 : Int} (h0 : ((0 ≤ (a0 : Int)) ∧ (a0 ≤ (10 : Int)))) : (a0 ≤ (2147483647 : Int)) := by omega
theorem ow_79k_6 {a0 : Int} (h0 : ((0 ≤ (a0 : Int)) ∧ (a0 ≤ (60 : Int)))) : (0 ≤ (a0 : Int)) := by omega
theorem ow_79k_7 {a0 : Int} (h0 : ((0 ≤ (a0 : Int)) ∧ (a0 ≤ (60 : Int)))) : (a0 ≤ (60 : Int)) := by omega
theorem ow_79k_8 {a0 : Int} (h0 : ((0 ≤ (a0 : Int)) ∧ (a0 ≤ (60 : Int)))) : ((-2147483648) ≤ (a0 : Int)) := by omega
theorem ow_79k_9 {a0 : Int} (h0 : ((0 ≤ (a0 : Int)) ∧ (a0 ≤ (60 : Int)))) : (a0 ≤ (2147483647 : Int)) := by omega
theorem ow_79k_10 {a0 a1 : Int} (h0 : ((0 ≤ (a0 : Int)) ∧ (a0 ≤ (60 : Int)))) (h1 : (a1 < (a0 : Int))) : ((a1 : Int).toNat < (60 : Nat)) := by omega
theorem ow_79k_11 {a0 a1 : Int} (h0 : ((0 ≤ (a0 : Int)) ∧ (a0 ≤ (60 : Int)))) (h1 : (a1 < (a0 : Int))) : (a1 < (((60 : Nat) : Int) : Int)) := by omega
theorem ow_79k_12 {a0 : Int} (h0 : ((0 ≤ (a0 : Int)) ∧ (a0 ≤ (1 : Int)))) : ((a0 = (0 : Int)) ∨ (a0 = (1 : Int))) := by omega
theorem ow_79k_13 {a0 a1 a3 : Int} {k2 : Nat} (h0 : ((0 ≤ (a0 : Int)) ∧ (a0 ≤ (60 : Int)))) (h1 : (((60 - a1) : Int).toNat = (k2 : Nat))) (h2 : (a1 < (a0 : Int))) (h3 : ((a1 + 1) = (a3 : Int))) : (((60 - a3) : Int).toNat < (k2 : Nat)) := by omega
theorem ow_79k_14 {a0 a1 : Int} (h0 : ((0 ≤ (a0 : Int)) ∧ (a0 ≤ (60 : Int)))) (h1 : ((a0 + 1) = (a1 : Int))) : (0 ≤ (a1 : Int)) := by omega
theorem ow_79k_15 {a0 a1 a2 : Int} (h0 : ((0 ≤ (a0 : Int)) ∧ (a0 ≤ (60 : Int)))) (h1 : (a1 < (a0 : Int))) (h2 : ((a1 + 1) = (a2 : Int))) : (a2 ≤ (60 : Int)) := by omega
theorem ow_79k_16 {a0 : Int} (h0 : ((0 ≤ (a0 : Int)) ∧ ((a0 ≤ (999 : Int)) ∧ (((a0 % 10) ≤ (8 : Int)) ∧ (((a0 / 10) % 10) ≤ (8 : Int)))))) : ((0 ≤ (a0 : Int)) ∧ ((a0 ≤ (999 : Int)) ∧ (((a0 % 10) ≤ (8 : Int)) ∧ (((a0 / 10) % 10) ≤ (8 : Int))))) := by omega
theorem ow_79k_17 {a0 : Int} (h0 : ((0 ≤ (a0 : Int)) ∧ (a0 ≤ (99 : Int)))) : (0 ≤ (a0 : Int)) := by omega
theorem ow_79k_18 {a0 : Int} (h0 : ((0 ≤ (a0 : Int)) ∧ (a0 ≤ (99 : Int)))) : (a0 ≤ (99 : Int)) := by omega
theorem ow_79k_19 {a0 : Int} (h0 : (((-99) ≤ (a0 : Int)) ∧ (a0 ≤ (99 : Int)))) : ((-99) ≤ (a0 : Int)) := by omega
theorem ow_79k_20 {a0 : Int} (h0 : (((-99) ≤ (a0 : Int)) ∧ (a0 ≤ (99 : Int)))) : (a0 ≤ (99 : Int)) := by omega
theorem ow_79k_21 {a0 : Int} (h0 : ((0 ≤ (a0 : Int)) ∧ (a0 ≤ (8 : Int)))) : (0 ≤ (a0 : Int)) := by omega
theorem ow_79k_22 {a0 : Int} (h0 : ((0 ≤ (a0 : Int)) ∧ (a0 ≤ (8 : Int)))) : (a0 ≤ (8 : Int)) := by omega
theorem ow_79k_23 {a0 : Int} (h0 : ((0 ≤ (a0 : Int)) ∧ (a0 ≤ (1 : Int)))) : (0 ≤ (a0 : Int)) := by omega
theorem ow_79k_24 {a0 : Int} (h0 : ((0 ≤ (a0 : Int)) ∧ (a0 ≤ (1 : Int)))) : (a0 ≤ (1 : Int)) := by omega
theorem ow_79k_25 {a0 a1 : Int} (h0 : ((0 ≤ (a0 : Int)) ∧ (a0 ≤ (10 : Int)))) (h1 : (a1 < (a0 : Int))) : ((a1 : Int).toNat < (10 : Nat)) := by omega
theorem ow_79k_26 {a0 : Int} (h0 : ((0 ≤ (a0 : Int)) ∧ (a0 ≤ (16 : Int)))) : (0 ≤ (a0 : Int)) := by omega
theorem ow_79k_27 {a0 a1 : Int} (h0 : ((0 ≤ (a0 : Int)) ∧ (a0 ≤ (10 : Int)))) (h1 : (a1 < (a0 : Int))) : (a1 < (((10 : Nat) : Int) : Int)) := by omega
theorem ow_79k_28 {a0 a1 a3 : Int} {k2 : Nat} (h0 : ((0 ≤ (a0 : Int)) ∧ (a0 ≤ (10 : Int)))) (h1 : (((16 - a1) : Int).toNat = (k2 : Nat))) (h2 : (a1 < (a0 : Int))) (h3 : ((a1 + 1) = (a3 : Int))) : (((16 - a3) : Int).toNat < (k2 : Nat)) := by omega
theorem ow_79k_29 {a0 a1 : Int} (h0 : ((0 ≤ (a0 : Int)) ∧ (a0 ≤ (16 : Int)))) (h1 : ((a0 + 1) = (a1 : Int))) : (0 ≤ (a1 : Int)) := by omega
theorem ow_79k_30 {a0 a1 a2 : Int} (h0 : ((0 ≤ (a0 : Int)) ∧ (a0 ≤ (10 : Int)))) (h1 : (a1 < (a0 : Int))) (h2 : ((a1 + 1) = (a2 : Int))) : (a2 ≤ (16 : Int)) := by omega
theorem ow_79k_31 {a0 : Int} (h0 : (((-30) ≤ (a0 : Int)) ∧ (a0 ≤ (30 : Int)))) : ((-30) ≤ (a0 : Int)) := by omega
theorem ow_79k_32 {a0 : Int} (h0 : (((-30) ≤ (a0 : Int)) ∧ (a0 ≤ (30 : Int)))) : (a0 ≤ (30 : Int)) := by omega
theorem ow_79k_33 {a0 : Int} (h0 : ((0 ≤ (a0 : Int)) ∧ (a0 ≤ (16 : Int)))) : (a0 ≤ (16 : Int)) := by omega
theorem ow_79k_34 {a0 : Int} (h0 : ((0 ≤ (a0 : Int)) ∧ (a0 ≤ (3 : Int)))) : (0 ≤ (a0 : Int)) := by omega
theorem ow_79k_35 {a0 : Int} (h0 : ((0 ≤ (a0 : Int)) ∧ (a0 ≤ (3 : Int)))) : (a0 ≤ (3 : Int)) := by omega
theorem ow_79k_36 {a0 : Int} (h0 : ((0 ≤ (a0 : Int)) ∧ (a0 ≤ (1 : Int)))) : ((-2147483648) ≤ (a0 : Int)) := by omega
theorem ow_79k_37 {a0 : Int} (h0 : ((0 ≤ (a0 : Int)) ∧ (a0 ≤ (1 : Int)))) : (a0 ≤ (2147483647 : Int)) := by omega
theorem ow_79k_38 : ((0 = (0 : Int)) ∨ (0 = (1 : Int))) := by omega
theorem ow_79k_39 : (0 ≤ (0 : Int)) := by omega
theorem ow_79k_40 : (0 ≤ (1 : Int)) := by omega
theorem ow_79k_41 {a0 : Int} (h0 : (((-2147483648) ≤ (a0 : Int)) ∧ (a0 ≤ (2147483647 : Int)))) : ((-2147483648) ≤ (a0 : Int)) := by omega
theorem ow_79k_42 {a0 : Int} (h0 : (((-2147483648) ≤ (a0 : Int)) ∧ (a0 ≤ (2147483647 : Int)))) : (a0 ≤ (2147483647 : Int)) := by omega
theorem ow_79k_43 {a0 : Int} (h0 : (0 ≤ (a0 : Int))) : ((-2147483648) ≤ (a0 : Int)) := by omega
theorem ow_79k_44 {a0 : Int} (h0 : (0 ≤ (a0 : Int))) (h1 : (a0 < (3 : Int))) : ((a0 = (0 : Int)) ∨ ((a0 = (1 : Int)) ∨ (a0 = (2 : Int)))) := by omega
theorem ow_79k_45 {a0 : Int} (h0 : (0 ≤ (a0 : Int))) : (0 ≤ (a0 : Int)) := by omega
theorem ow_79k_46 {a0 : Int} (h0 : (a0 = (0 : Int))) : (a0 < (((3 : Nat) : Int) : Int)) := by omega
theorem ow_79k_47 {a0 : Int} (h0 : (0 ≤ (a0 : Int))) (h1 : (a0 = (0 : Int))) : ((a0 = (0 : Int)) ∨ ((a0 = (1 : Int)) ∨ (a0 = (2 : Int)))) := by omega
theorem ow_79k_48 : ((1 = (0 : Int)) ∨ (1 = (1 : Int))) := by omega
theorem ow_79k_49 : (1 ≤ (1 : Int)) := by omega
theorem ow_79k_50 {a0 : Int} (h0 : (a0 = (1 : Int))) : ¬((a0 = (0 : Int))) := by omega
theorem ow_79k_51 {a0 : Int} (h0 : (a0 = (1 : Int))) : (0 ≤ (a0 : Int)) := by omega
theorem ow_79k_52 {a0 : Int} (h0 : (a0 = (1 : Int))) : (a0 < (((3 : Nat) : Int) : Int)) := by omega
theorem ow_79k_53 {a0 : Int} (h0 : (a0 = (2 : Int))) : ¬((a0 = (0 : Int))) := by omega
theorem ow_79k_54 {a0 : Int} (h0 : (a0 = (2 : Int))) : ¬((a0 = (1 : Int))) := by omega
theorem ow_79k_55 {a0 : Int} (h0 : (a0 = (2 : Int))) : (0 ≤ (a0 : Int)) := by omega
theorem ow_79k_56 {a0 : Int} (h0 : (a0 < (3 : Int))) : (a0 < (((3 : Nat) : Int) : Int)) := by omega
theorem ow_79k_57 {a0 : Int} (h0 : (a0 = (1 : Int))) : ((a0 = (0 : Int)) ∨ ((a0 = (1 : Int)) ∨ (a0 = (2 : Int)))) := by omega
theorem ow_79k_58 {a0 : Int} (h0 : (a0 < (3 : Int))) (h1 : (a0 = (2 : Int))) : ((a0 = (0 : Int)) ∨ ((a0 = (1 : Int)) ∨ (a0 = (2 : Int)))) := by omega
theorem ow_79k_59 {a0 a1 : Int} (h0 : (a0 = (15 : Int))) (h1 : (a0 = (25 : Int))) : ¬((a1 = (0 : Int))) := by omega
theorem ow_79k_60 {a0 a1 : Int} (h0 : (a0 = (15 : Int))) (h1 : (a0 = (25 : Int))) : (0 ≤ (a1 : Int)) := by omega
theorem ow_79k_61 {a0 a1 : Int} (h0 : (a0 = (15 : Int))) (h1 : (a0 = (25 : Int))) : (a1 < (((3 : Nat) : Int) : Int)) := by omega
theorem ow_79k_62 {a0 : Int} (h0 : (a0 = (15 : Int))) (h1 : (a0 = (25 : Int))) : ((1 = (0 : Int)) ∨ (1 = (1 : Int))) := by omega
theorem ow_79k_63 {a0 a1 : Int} (h0 : (a0 = (15 : Int))) (h1 : (a0 = (35 : Int))) : ¬((a1 = (0 : Int))) := by omega
theorem ow_79k_64 {a0 a1 : Int} (h0 : (a0 = (15 : Int))) (h1 : (a0 = (35 : Int))) : ¬((a1 = (1 : Int))) := by omega
theorem ow_79k_65 {a0 a1 : Int} (h0 : (a0 = (15 : Int))) (h1 : (a0 = (35 : Int))) : (0 ≤ (a1 : Int)) := by omega
theorem ow_79k_66 {a0 a1 : Int} (h0 : (a0 = (15 : Int))) (h1 : (a0 = (35 : Int))) : (a1 < (((3 : Nat) : Int) : Int)) := by omega
theorem ow_79k_67 {a0 : Int} (h0 : (a0 = (15 : Int))) (h1 : (a0 = (35 : Int))) : ((1 = (0 : Int)) ∨ (1 = (1 : Int))) := by omega
theorem ow_79k_68 {a0 a1 : Int} (h0 : (a0 = (25 : Int))) (h1 : (a0 = (15 : Int))) : (0 ≤ (a1 : Int)) := by omega
theorem ow_79k_69 {a0 a1 : Int} (h0 : (a0 = (25 : Int))) (h1 : (a0 = (15 : Int))) : (a1 < (((3 : Nat) : Int) : Int)) := by omega
theorem ow_79k_70 {a0 : Int} (h0 : (a0 = (25 : Int))) (h1 : (a0 = (15 : Int))) : ((1 = (0 : Int)) ∨ (1 = (1 : Int))) := by omega
theorem ow_79k_71 {a0 a1 : Int} (h0 : (a0 = (25 : Int))) (h1 : (a0 = (35 : Int))) : ¬((a1 = (0 : Int))) := by omega
theorem ow_79k_72 {a0 a1 : Int} (h0 : (a0 = (25 : Int))) (h1 : (a0 = (35 : Int))) : ¬((a1 = (1 : Int))) := by omega
theorem ow_79k_73 {a0 a1 : Int} (h0 : (a0 = (25 : Int))) (h1 : (a0 = (35 : Int))) : (0 ≤ (a1 : Int)) := by omega
theorem ow_79k_74 {a0 a1 : Int} (h0 : (a0 = (25 : Int))) (h1 : (a0 = (35 : Int))) : (a1 < (((3 : Nat) : Int) : Int)) := by omega
theorem ow_79k_75 {a0 : Int} (h0 : (a0 = (25 : Int))) (h1 : (a0 = (35 : Int))) : ((1 = (0 : Int)) ∨ (1 = (1 : Int))) := by omega
theorem ow_79k_76 {a0 a1 : Int} (h0 : (a0 = (35 : Int))) (h1 : (a0 = (15 : Int))) : (0 ≤ (a1 : Int)) := by omega
theorem ow_79k_77 {a0 a1 : Int} (h0 : (a0 = (35 : Int))) (h1 : (a0 = (15 : Int))) : (a1 < (((3 : Nat) : Int) : Int)) := by omega
theorem ow_79k_78 {a0 : Int} (h0 : (a0 = (35 : Int))) (h1 : (a0 = (15 : Int))) : ((1 = (0 : Int)) ∨ (1 = (1 : Int))) := by omega
theorem ow_79k_79 {a0 a1 : Int} (h0 : (a0 = (35 : Int))) (h1 : (a0 = (25 : Int))) : ¬((a1 = (0 : Int))) := by omega
theorem ow_79k_80 {a0 a1 : Int} (h0 : (a0 = (35 : Int))) (h1 : (a0 = (25 : Int))) : (0 ≤ (a1 : Int)) := by omega
theorem ow_79k_81 {a0 a1 : Int} (h0 : (a0 = (35 : Int))) (h1 : (a0 = (25 : Int))) : (a1 < (((3 : Nat) : Int) : Int)) := by omega
theorem ow_79k_82 {a0 : Int} (h0 : (a0 = (35 : Int))) (h1 : (a0 = (25 : Int))) : ((1 = (0 : Int)) ∨ (1 = (1 : Int))) := by omega
theorem ow_79k_83 {a0 : Int} : (((a0 < (0 : Int)) ∨ (7 < (a0 : Int))) ∨ ((a0 = (0 : Int)) ∨ ((a0 = (1 : Int)) ∨ ((a0 = (2 : Int)) ∨ ((a0 = (3 : Int)) ∨ ((a0 = (4 : Int)) ∨ ((a0 = (5 : Int)) ∨ ((a0 = (6 : Int)) ∨ (a0 = (7 : Int)))))))))) := by omega
theorem ow_79k_84 : ((-1) ≤ ((-1) : Int)) := by omega
theorem ow_79k_85 : ((-1) ≤ (500 : Int)) := by omega
theorem ow_79k_86 {a0 : Int} (h0 : (a0 = (0 : Int))) : ((-2147483648) ≤ (a0 : Int)) := by omega
theorem ow_79k_87 {a0 : Int} (h0 : (a0 = (0 : Int))) : (a0 ≤ (2147483647 : Int)) := by omega
theorem ow_79k_88 {a0 : Int} (h0 : (a0 = (0 : Int))) : (0 ≤ (a0 : Int)) := by omega
theorem ow_79k_89 {a0 : Int} (h0 : (a0 = (0 : Int))) : (a0 ≤ (7 : Int)) := by omega
theorem ow_79k_90 {a0 : Int} (h0 : (a0 = (0 : Int))) : ¬(((a0 < (0 : Int)) ∨ (7 < (a0 : Int)))) := by omega
theorem ow_79k_91 {a0 : Int} (h0 : ((0 ≤ (a0 : Int)) ∧ (a0 ≤ (9 : Int)))) : ((-1) ≤ (a0 : Int)) := by omega
theorem ow_79k_92 {a0 : Int} (h0 : ((0 ≤ (a0 : Int)) ∧ (a0 ≤ (9 : Int)))) : (a0 ≤ (500 : Int)) := by omega
theorem ow_79k_93 {a0 : Int} (h0 : (a0 = (1 : Int))) : ((-2147483648) ≤ (a0 : Int)) := by omega
theorem ow_79k_94 {a0 : Int} (h0 : (a0 = (1 : Int))) : (a0 ≤ (2147483647 : Int)) := by omega
theorem ow_79k_95 {a0 : Int} (h0 : (a0 = (1 : Int))) : (a0 ≤ (7 : Int)) := by omega
theorem ow_79k_96 {a0 : Int} (h0 : (a0 = (1 : Int))) : ¬(((a0 < (0 : Int)) ∨ (7 < (a0 : Int)))) := by omega
theorem ow_79k_97 {a0 : Int} (h0 : ((0 ≤ (a0 : Int)) ∧ (a0 ≤ (12 : Int)))) : ((-1) ≤ (a0 : Int)) := by omega
theorem ow_79k_98 {a0 : Int} (h0 : ((0 ≤ (a0 : Int)) ∧ (a0 ≤ (12 : Int)))) : (a0 ≤ (500 : Int)) := by omega
theorem ow_79k_99 {a0 : Int} (h0 : (a0 = (2 : Int))) : ((-2147483648) ≤ (a0 : Int)) := by omega
theorem ow_79k_100 {a0 : Int} (h0 : (a0 = (2 : Int))) : (a0 ≤ (2147483647 : Int)) := by omega
theorem ow_79k_101 {a0 : Int} (h0 : (a0 = (2 : Int))) : (a0 ≤ (7 : Int)) := by omega
theorem ow_79k_102 {a0 : Int} (h0 : (a0 = (2 : Int))) : ¬(((a0 < (0 : Int)) ∨ (7 < (a0 : Int)))) := by omega
theorem ow_79k_103 {a0 : Int} (h0 : ((0 ≤ (a0 : Int)) ∧ (a0 ≤ (10 : Int)))) : ((-1) ≤ (a0 : Int)) := by omega
theorem ow_79k_104 {a0 : Int} (h0 : ((0 ≤ (a0 : Int)) ∧ (a0 ≤ (10 : Int)))) : (a0 ≤ (500 : Int)) := by omega
theorem ow_79k_105 {a0 : Int} (h0 : (a0 = (3 : Int))) : ((-2147483648) ≤ (a0 : Int)) := by omega
theorem ow_79k_106 {a0 : Int} (h0 : (a0 = (3 : Int))) : (a0 ≤ (2147483647 : Int)) := by omega
theorem ow_79k_107 {a0 : Int} (h0 : (a0 = (3 : Int))) : (0 ≤ (a0 : Int)) := by omega
theorem ow_79k_108 {a0 : Int} (h0 : (a0 = (3 : Int))) : (a0 ≤ (7 : Int)) := by omega
theorem ow_79k_109 {a0 : Int} (h0 : (a0 = (3 : Int))) : ¬(((a0 < (0 : Int)) ∨ (7 < (a0 : Int)))) := by omega
theorem ow_79k_110 {a0 : Int} (h0 : (a0 = (3 : Int))) : ¬((a0 = (0 : Int))) := by omega
theorem ow_79k_111 {a0 : Int} (h0 : (a0 = (3 : Int))) : ¬((a0 = (1 : Int))) := by omega
theorem ow_79k_112 {a0 : Int} (h0 : (a0 = (3 : Int))) : ¬((a0 = (2 : Int))) := by omega
theorem ow_79k_113 {a0 : Int} (h0 : ((0 ≤ (a0 : Int)) ∧ (a0 ≤ (60 : Int)))) : ((-1) ≤ (a0 : Int)) := by omega
theorem ow_79k_114 {a0 : Int} (h0 : ((0 ≤ (a0 : Int)) ∧ (a0 ≤ (60 : Int)))) : (a0 ≤ (500 : Int)) := by omega
theorem ow_79k_115 {a0 : Int} (h0 : (a0 = (4 : Int))) : ((-2147483648) ≤ (a0 : Int)) := by omega
theorem ow_79k_116 {a0 : Int} (h0 : (a0 = (4 : Int))) : (a0 ≤ (2147483647 : Int)) := by omega
theorem ow_79k_117 {a0 : Int} (h0 : (a0 = (4 : Int))) : (0 ≤ (a0 : Int)) := by omega
theorem ow_79k_118 {a0 : Int} (h0 : (a0 = (4 : Int))) : (a0 ≤ (7 : Int)) := by omega
theorem ow_79k_119 {a0 : Int} (h0 : (a0 = (4 : Int))) : ¬(((a0 < (0 : Int)) ∨ (7 < (a0 : Int)))) := by omega
theorem ow_79k_120 {a0 : Int} (h0 : (a0 = (4 : Int))) : ¬((a0 = (0 : Int))) := by omega
theorem ow_79k_121 {a0 : Int} (h0 : (a0 = (4 : Int))) : ¬((a0 = (1 : Int))) := by omega
theorem ow_79k_122 {a0 : Int} (h0 : (a0 = (4 : Int))) : ¬((a0 = (2 : Int))) := by omega
theorem ow_79k_123 {a0 : Int} (h0 : (a0 = (4 : Int))) : ¬((a0 = (3 : Int))) := by omega
theorem ow_79k_124 {a0 : Int} (h0 : (a0 = (5 : Int))) : ((-2147483648) ≤ (a0 : Int)) := by omega
theorem ow_79k_125 {a0 : Int} (h0 : (a0 = (5 : Int))) : (a0 ≤ (2147483647 : Int)) := by omega
theorem ow_79k_126 {a0 : Int} (h0 : (a0 = (5 : Int))) : (0 ≤ (a0 : Int)) := by omega
theorem ow_79k_127 {a0 : Int} (h0 : (a0 = (5 : Int))) : (a0 ≤ (7 : Int)) := by omega
theorem ow_79k_128 {a0 : Int} (h0 : (a0 = (5 : Int))) : ¬(((a0 < (0 : Int)) ∨ (7 < (a0 : Int)))) := by omega
theorem ow_79k_129 {a0 : Int} (h0 : (a0 = (5 : Int))) : ¬((a0 = (0 : Int))) := by omega
theorem ow_79k_130 {a0 : Int} (h0 : (a0 = (5 : Int))) : ¬((a0 = (1 : Int))) := by omega
theorem ow_79k_131 {a0 : Int} (h0 : (a0 = (5 : Int))) : ¬((a0 = (2 : Int))) := by omega
theorem ow_79k_132 {a0 : Int} (h0 : (a0 = (5 : Int))) : ¬((a0 = (3 : Int))) := by omega
theorem ow_79k_133 {a0 : Int} (h0 : (a0 = (5 : Int))) : ¬((a0 = (4 : Int))) := by omega
theorem ow_79k_134 : ((-1) ≤ (0 : Int)) := by omega
theorem ow_79k_135 : (0 ≤ (500 : Int)) := by omega
theorem ow_79k_136 {a0 : Int} (h0 : ((0 ≤ (a0 : Int)) ∧ (a0 ≤ (16 : Int)))) : ((-1) ≤ (a0 : Int)) := by omega
theorem ow_79k_137 {a0 : Int} (h0 : ((0 ≤ (a0 : Int)) ∧ (a0 ≤ (16 : Int)))) : (a0 ≤ (500 : Int)) := by omega
theorem ow_79k_138 {a0 : Int} (h0 : (a0 = (6 : Int))) : ((-2147483648) ≤ (a0 : Int)) := by omega
theorem ow_79k_139 {a0 : Int} (h0 : (a0 = (6 : Int))) : (a0 ≤ (2147483647 : Int)) := by omega
theorem ow_79k_140 {a0 : Int} (h0 : (a0 = (6 : Int))) : (0 ≤ (a0 : Int)) := by omega
theorem ow_79k_141 {a0 : Int} (h0 : (a0 = (6 : Int))) : (a0 ≤ (7 : Int)) := by omega
theorem ow_79k_142 {a0 : Int} (h0 : (a0 = (6 : Int))) : ¬(((a0 < (0 : Int)) ∨ (7 < (a0 : Int)))) := by omega
theorem ow_79k_143 {a0 : Int} (h0 : (a0 = (6 : Int))) : ¬((a0 = (0 : Int))) := by omega
theorem ow_79k_144 {a0 : Int} (h0 : (a0 = (6 : Int))) : ¬((a0 = (1 : Int))) := by omega
theorem ow_79k_145 {a0 : Int} (h0 : (a0 = (6 : Int))) : ¬((a0 = (2 : Int))) := by omega
theorem ow_79k_146 {a0 : Int} (h0 : (a0 = (6 : Int))) : ¬((a0 = (3 : Int))) := by omega
theorem ow_79k_147 {a0 : Int} (h0 : (a0 = (6 : Int))) : ¬((a0 = (4 : Int))) := by omega
theorem ow_79k_148 {a0 : Int} (h0 : (a0 = (6 : Int))) : ¬((a0 = (5 : Int))) := by omega
theorem ow_79k_149 {a0 : Int} (h0 : ((0 ≤ (a0 : Int)) ∧ (a0 ≤ (99 : Int)))) : ((-1) ≤ (a0 : Int)) := by omega
theorem ow_79k_150 {a0 : Int} (h0 : ((0 ≤ (a0 : Int)) ∧ (a0 ≤ (99 : Int)))) : (a0 ≤ (500 : Int)) := by omega
theorem ow_79k_151 {a0 : Int} (h0 : (a0 = (7 : Int))) : ((-2147483648) ≤ (a0 : Int)) := by omega
theorem ow_79k_152 {a0 : Int} (h0 : (a0 = (7 : Int))) : (a0 ≤ (2147483647 : Int)) := by omega
theorem ow_79k_153 {a0 : Int} (h0 : (a0 = (7 : Int))) : (0 ≤ (a0 : Int)) := by omega
theorem ow_79k_154 {a0 : Int} (h0 : (a0 = (7 : Int))) : (a0 ≤ (7 : Int)) := by omega
theorem ow_79k_155 {a0 : Int} (h0 : (a0 = (7 : Int))) : ¬(((a0 < (0 : Int)) ∨ (7 < (a0 : Int)))) := by omega
theorem ow_79k_156 {a0 : Int} (h0 : (a0 = (7 : Int))) : ¬((a0 = (0 : Int))) := by omega
theorem ow_79k_157 {a0 : Int} (h0 : (a0 = (7 : Int))) : ¬((a0 = (1 : Int))) := by omega
theorem ow_79k_158 {a0 : Int} (h0 : (a0 = (7 : Int))) : ¬((a0 = (2 : Int))) := by omega
theorem ow_79k_159 {a0 : Int} (h0 : (a0 = (7 : Int))) : ¬((a0 = (3 : Int))) := by omega
theorem ow_79k_160 {a0 : Int} (h0 : (a0 = (7 : Int))) : ¬((a0 = (4 : Int))) := by omega
theorem ow_79k_161 {a0 : Int} (h0 : (a0 = (7 : Int))) : ¬((a0 = (5 : Int))) := by omega
theorem ow_79k_162 {a0 : Int} (h0 : (a0 = (7 : Int))) : ¬((a0 = (6 : Int))) := by omega
theorem ow_79k_163 {a0 : Int} (h0 : ((0 ≤ (a0 : Int)) ∧ (a0 ≤ (500 : Int)))) : ((-1) ≤ (a0 : Int)) := by omega
theorem ow_79k_164 {a0 : Int} (h0 : ((0 ≤ (a0 : Int)) ∧ (a0 ≤ (500 : Int)))) : (a0 ≤ (500 : Int)) := by omega
noncomputable def F_X11_image (a1 : Int) (V0 : pm_M) : Int × pm_M := pf_call (F_X11_hasScene  V0) fun y4 _ => (if y4 = 0 then ((0, V0)) else ((if a1 < 0 then ((0, V0)) else ((if a1 < 3 then ((if a1 = 0 then (pf_call (F_X7_copyFrom 15 4 V0) fun _ V14 => (if a1 = 0 then ((1, (pm_up V14 15 0 1))) else ((if a1 = 1 then ((1, (pm_up V14 25 0 1))) else ((1, (pm_up V14 35 0 1))))))) else ((if a1 = 1 then (pf_call (F_X7_copyFrom 25 4 V0) fun _ V28 => (if a1 = 0 then ((1, (pm_up V28 15 0 1))) else ((if a1 = 1 then ((1, (pm_up V28 25 0 1))) else ((1, (pm_up V28 35 0 1))))))) else (pf_call (F_X7_copyFrom 35 4 V0) fun _ V42 => (if a1 = 0 then ((1, (pm_up V42 15 0 1))) else ((if a1 = 1 then ((1, (pm_up V42 25 0 1))) else ((1, (pm_up V42 35 0 1))))))))))) else ((0, V0)))))))
theorem F_X11_image_eq (a1 : Int) (V0 : pm_M) : F_X11_image a1 V0 = pf_call (F_X11_hasScene  V0) fun y4 _ => (if y4 = 0 then ((0, V0)) else ((if a1 < 0 then ((0, V0)) else ((if a1 < 3 then ((if a1 = 0 then (pf_call (F_X7_copyFrom 15 4 V0) fun _ V14 => (if a1 = 0 then ((1, (pm_up V14 15 0 1))) else ((if a1 = 1 then ((1, (pm_up V14 25 0 1))) else ((1, (pm_up V14 35 0 1))))))) else ((if a1 = 1 then (pf_call (F_X7_copyFrom 25 4 V0) fun _ V28 => (if a1 = 0 then ((1, (pm_up V28 15 0 1))) else ((if a1 = 1 then ((1, (pm_up V28 25 0 1))) else ((1, (pm_up V28 35 0 1))))))) else (pf_call (F_X7_copyFrom 35 4 V0) fun _ V42 => (if a1 = 0 then ((1, (pm_up V42 15 0 1))) else ((if a1 = 1 then ((1, (pm_up V42 25 0 1))) else ((1, (pm_up V42 35 0 1))))))))))) else ((0, V0))))))) := rfl
noncomputable def F_X11_back (a1 : Int) (V0 : pm_M) : Int × pm_M := (if a1 < 0 then ((0, V0)) else ((if 3 ≤ a1 then ((0, V0)) else ((if a1 = 0 then (pf_let (V0 15 0) fun y5 => (if ¬ (y5 = 0) then ((if a1 = 0 then (pf_call (F_X7_copyFrom 4 15 V0) fun _ V12 => (1, V12)) else ((if a1 = 1 then (pf_call (F_X7_copyFrom 4 25 V0) fun _ V23 => (1, V23)) else (pf_call (F_X7_copyFrom 4 35 V0) fun _ V34 => (1, V34)))))) else ((0, V0)))) else ((if a1 = 1 then (pf_let (V0 25 0) fun y44 => (if ¬ (y44 = 0) then ((if a1 = 0 then (pf_call (F_X7_copyFrom 4 15 V0) fun _ V51 => (1, V51)) else ((if a1 = 1 then (pf_call (F_X7_copyFrom 4 25 V0) fun _ V62 => (1, V62)) else (pf_call (F_X7_copyFrom 4 35 V0) fun _ V73 => (1, V73)))))) else ((0, V0)))) else (pf_let (V0 35 0) fun y83 => (if ¬ (y83 = 0) then ((if a1 = 0 then (pf_call (F_X7_copyFrom 4 15 V0) fun _ V90 => (1, V90)) else ((if a1 = 1 then (pf_call (F_X7_copyFrom 4 25 V0) fun _ V101 => (1, V101)) else (pf_call (F_X7_copyFrom 4 35 V0) fun _ V112 => (1, V112)))))) else ((0, V0)))))))))))
theorem F_X11_back_eq (a1 : Int) (V0 : pm_M) : F_X11_back a1 V0 = (if a1 < 0 then ((0, V0)) else ((if 3 ≤ a1 then ((0, V0)) else ((if a1 = 0 then (pf_let (V0 15 0) fun y5 => (if ¬ (y5 = 0) then ((if a1 = 0 then (pf_call (F_X7_copyFrom 4 15 V0) fun _ V12 => (1, V12)) else ((if a1 = 1 then (pf_call (F_X7_copyFrom 4 25 V0) fun _ V23 => (1, V23)) else (pf_call (F_X7_copyFrom 4 35 V0) fun _ V34 => (1, V34)))))) else ((0, V0)))) else ((if a1 = 1 then (pf_let (V0 25 0) fun y44 => (if ¬ (y44 = 0) then ((if a1 = 0 then (pf_call (F_X7_copyFrom 4 15 V0) fun _ V51 => (1, V51)) else ((if a1 = 1 then (pf_call (F_X7_copyFrom 4 25 V0) fun _ V62 => (1, V62)) else (pf_call (F_X7_copyFrom 4 35 V0) fun _ V73 => (1, V73)))))) else ((0, V0)))) else (pf_let (V0 35 0) fun y83 => (if ¬ (y83 = 0) then ((if a1 = 0 then (pf_call (F_X7_copyFrom 4 15 V0) fun _ V90 => (1, V90)) else ((if a1 = 1 then (pf_call (F_X7_copyFrom 4 25 V0) fun _ V101 => (1, V101)) else (pf_call (F_X7_copyFrom 4 35 V0) fun _ V112 => (1, V112)))))) else ((0, V0))))))))))) := rfl
noncomputable def F_X11_count (a1 : Int) (V0 : pm_M) : Int × pm_M := (if a1 < 0 ∨ 7 < a1 then (((-1), V0)) else (if a1 = 0 then ((if V0 0 8 = 45 then (pf_let (V0 45 0) fun y3 => (y3, V0)) else (pf_let (V0 51 0) fun y6 => (y6, V0)))) else (if a1 = 1 then ((if V0 0 8 = 45 then (pf_let (V0 45 10) fun y10 => (y10, V0)) else (pf_let (V0 51 10) fun y13 => (y13, V0)))) else (if a1 = 2 then (pf_let (V0 4 1) fun y17 => (y17, V0)) else (if a1 = 3 then (pf_let (V0 4 6) fun y21 => (y21, V0)) else (if a1 = 4 then ((if V0 0 10 = 57 then (pf_let (V0 57 0) fun y25 => (y25, V0)) else (pf_let (V0 63 0) fun y28 => (y28, V0)))) else (if a1 = 5 then (pf_call (F_X11_hasScene  V0) fun y34 _ => (if y34 = 0 then ((0, V0)) else ((if V0 0 8 = 45 then (pf_let (V0 45 8) fun y39 => (y39, V0)) else (pf_let (V0 51 8) fun y42 => (y42, V0)))))) else (if a1 = 6 then (pf_call (F_X11_hasScene  V0) fun y48 _ => (if y48 = 0 then ((0, V0)) else ((if V0 0 8 = 45 then (pf_let (V0 45 9) fun y53 => (y53, V0)) else (pf_let (V0 51 9) fun y56 => (y56, V0)))))) else (if a1 = 7 then (pf_let (V0 1 1) fun y60 => (y60, V0)) else (((0 : Int), V0)))))))))))
theorem F_X11_count_eq (a1 : Int) (V0 : pm_M) : F_X11_count a1 V0 = (if a1 < 0 ∨ 7 < a1 then (((-1), V0)) else (if a1 = 0 then ((if V0 0 8 = 45 then (pf_let (V0 45 0) fun y3 => (y3, V0)) else (pf_let (V0 51 0) fun y6 => (y6, V0)))) else (if a1 = 1 then ((if V0 0 8 = 45 then (pf_let (V0 45 10) fun y10 => (y10, V0)) else (pf_let (V0 51 10) fun y13 => (y13, V0)))) else (if a1 = 2 then (pf_let (V0 4 1) fun y17 => (y17, V0)) else (if a1 = 3 then (pf_let (V0 4 6) fun y21 => (y21, V0)) else (if a1 = 4 then ((if V0 0 10 = 57 then (pf_let (V0 57 0) fun y25 => (y25, V0)) else (pf_let (V0 63 0) fun y28 => (y28, V0)))) else (if a1 = 5 then (pf_call (F_X11_hasScene  V0) fun y34 _ => (if y34 = 0 then ((0, V0)) else ((if V0 0 8 = 45 then (pf_let (V0 45 8) fun y39 => (y39, V0)) else (pf_let (V0 51 8) fun y42 => (y42, V0)))))) else (if a1 = 6 then (pf_call (F_X11_hasScene  V0) fun y48 _ => (if y48 = 0 then ((0, V0)) else ((if V0 0 8 = 45 then (pf_let (V0 45 9) fun y53 => (y53, V0)) else (pf_let (V0 51 9) fun y56 => (y56, V0)))))) else (if a1 = 7 then (pf_let (V0 1 1) fun y60 => (y60, V0)) else (((0 : Int), V0))))))))))) := rfl
set_option maxHeartbeats 4000000 in
set_option maxRecDepth 100000 in
theorem fD_X7_copyFrom_25_4  : pm_K 1 yX7_copyFrom cX7_copyFrom 3 none (fun av V => av = [(3, 25), (3, 4)] ∧ pm_ok 0 90 V) (fun _ V r V' => r = none ∧ pm_ok 0 90 V' ∧ pm_ff [26, 27, 28, 29, 30, 31, 32, 33, 34] [(25, 1), (25, 6)] V V' ∧ F_X7_copyFrom 25 4 V = (0, V')) := by
  refine pm_MT.of (by decide) ⟨Nat.le_refl _, by decide⟩ (fun av V h => by rw [h.1]; exact (by decide : pm_words [(3, 0), (3, 0)] ≤ 3)) ?_
  rintro X av V0 hC - hR ⟨rfl, hV0⟩
  change pm_J X 0 [(0, (3, 25)), (1, (3, 4))] [] 118 V0
  have hT := F_X7_copyFrom_eq 25 4 V0
  refine pm_aload_n hC 0 (by decide) dX7_copyFrom_0 rfl ?_
  refine pm_aload_n hC 1 (by decide) dX7_copyFrom_1 rfl ?_
  obtain ⟨y1, e2⟩ : ∃ y, V0 4 1 = y := ⟨_, rfl⟩
  have b3 := hV0.get 4 1 (lo := 0) (hi := 10) (by decide) (by decide) rfl
  rw [e2] at b3
  replace hT := hT.trans (pf_let_eq e2)
  refine pm_getf (v := y1) hC 4 fl_X7_15 rfl rfl (by decide) rfl e2 dX7_copyFrom_2 ?_
  refine pm_putf hC 25 fl_X7_15 rfl rfl rfl (by decide) rfl trivial dX7_copyFrom_5 ?_
  refine pm_iconst (v := 0) hC dX7_copyFrom_8 ?_
  refine pm_istore_n (lv' := [(2, (0, 0)), (0, (3, 25)), (1, (3, 4))]) hC dX7_copyFrom_9 (by decide) rfl ?_
  have hV6 := (hV0.put 25 1 (x := y1) (lo := 0) (hi := 10) rfl ⟨by exact ow_79k_0 b3, by exact ow_79k_1 b3⟩)
  have hF7 := ((pm_ff.rf (cs := [26, 27, 28, 29, 30, 31, 32, 33, 34]) (fs := [(25, 1), (25, 6)]) (V := V0)).upf 25 1 y1 rfl)
  obtain ⟨V4, hv5⟩ : ∃ V, V = (pm_up V0 25 1 y1) := ⟨_, rfl⟩
  rw [← hv5] at hV6 hF7
  rw [← hv5]
  replace hT := hT.trans (pf_let_eq hv5.symm)
  have e8 : V4 4 1 = y1 := by rw [hv5]; exact e2
  have e9 : V4 25 1 = y1 := by rw [hv5]; rfl
  obtain ⟨B17, hB18, hT⟩ := pf_loop hT
  have L20 : ∀ (N22 : Nat) (x10 : Int) (V12 : pm_M), (0 ≤ x10 ∧ x10 ≤ 16) → pm_ok 0 90 V12 → pm_ff [26, 27, 28, 29, 30, 31, 32, 33, 34] [(25, 1), (25, 6)] V0 V12 → V12 4 1 = y1 → V12 25 1 = y1 → F_X7_copyFrom 25 4 V0 = pf_val ((0 : Int), V0) B17 (x10, V12) → (Int.toNat (16 - x10)) = N22 → pm_J X 10 [(0, (3, 25)), (1, (3, 4)), (2, (0, x10))] [] 118 V12 := by
    intro N22
    induction N22 using Nat.strongRecOn with
    | _ N22 ih23 =>
    intro x10 V12 b11 hV13 hF14 e15 e16 hT hm21
    have hb19 := congrFun hB18 (x10, V12)
    refine pm_iload_n hC 2 dX7_copyFrom_10 rfl ?_
    refine pm_aload_n hC 0 (by decide) dX7_copyFrom_11 rfl ?_
    refine pm_getf (v := y1) hC 25 fl_X7_15 rfl rfl (by decide) rfl e16 dX7_copyFrom_12 ?_
    refine pm_icmp_ge (tgt := 72) hC ⟨by exact ow_79k_2 b11, by exact ow_79k_3 b11⟩ ⟨by exact ow_79k_4 b3, by exact ow_79k_5 b3⟩ dX7_copyFrom_15 (by decide) (fun c24 => ?_) (fun c24 => ?_)
    · skip
      replace hb19 := hb19.trans (if_pos c24)
      refine pm_aload_n hC 0 (by decide) dX7_copyFrom_72 rfl ?_
      refine pm_aload_n hC 1 (by decide) dX7_copyFrom_73 rfl ?_
      obtain ⟨y25, e26⟩ : ∃ y, V12 4 6 = y := ⟨_, rfl⟩
      have b27 := hV13.get 4 6 (lo := 0) (hi := 60) (by decide) (by decide) rfl
      rw [e26] at b27
      replace hb19 := hb19.trans (pf_let_eq e26)
      refine pm_getf (v := y25) hC 4 fl_X7_32 rfl rfl (by decide) rfl e26 dX7_copyFrom_74 ?_
      refine pm_putf hC 25 fl_X7_32 rfl rfl rfl (by decide) rfl trivial dX7_copyFrom_77 ?_
      refine pm_iconst (v := 0) hC dX7_copyFrom_80 ?_
      refine pm_istore_n (lv' := [(2, (0, 0)), (0, (3, 25)), (1, (3, 4))]) hC dX7_copyFrom_81 (by decide) rfl ?_
      have hV30 := (hV13.put 25 6 (x := y25) (lo := 0) (hi := 60) rfl ⟨by exact ow_79k_6 b27, by exact ow_79k_7 b27⟩)
      have hF31 := (hF14.upf 25 6 y25 rfl)
      obtain ⟨V28, hv29⟩ : ∃ V, V = (pm_up V12 25 6 y25) := ⟨_, rfl⟩
      rw [← hv29] at hV30 hF31
      rw [← hv29]
      replace hb19 := hb19.trans (pf_let_eq hv29.symm)
      have e32 : V28 4 1 = y1 := by rw [hv29]; exact e15
      have e33 : V28 25 1 = y1 := by rw [hv29]; exact e16
      have e34 : V28 4 6 = y25 := by rw [hv29]; exact e26
      have e35 : V28 25 6 = y25 := by rw [hv29]; rfl
      obtain ⟨B45, hB46, hb19⟩ := pf_loop hb19
      have L48 : ∀ (N50 : Nat) (x36 : Int) (V38 : pm_M), (0 ≤ x36 ∧ x36 ≤ 60) → pm_ok 0 90 V38 → pm_ff [26, 27, 28, 29, 30, 31, 32, 33, 34] [(25, 1), (25, 6)] V0 V38 → V38 4 1 = y1 → V38 25 1 = y1 → V38 4 6 = y25 → V38 25 6 = y25 → B17 (x10, V12) = pf_val (.inr ((0 : Int), V0)) B45 (x36, V38) → (Int.toNat (60 - x36)) = N50 → pm_J X 82 [(0, (3, 25)), (1, (3, 4)), (2, (0, x36))] [] 118 V38 := by
        intro N50
        induction N50 using Nat.strongRecOn with
        | _ N50 ih51 =>
        intro x36 V38 b37 hV39 hF40 e41 e42 e43 e44 hb19 hm49
        have hb47 := congrFun hB46 (x36, V38)
        refine pm_iload_n hC 2 dX7_copyFrom_82 rfl ?_
        refine pm_aload_n hC 0 (by decide) dX7_copyFrom_83 rfl ?_
        refine pm_getf (v := y25) hC 25 fl_X7_32 rfl rfl (by decide) rfl e44 dX7_copyFrom_84 ?_
        refine pm_icmp_ge (tgt := 156) hC ⟨by exact ow_79k_8 b37, by exact ow_79k_9 b37⟩ ⟨by exact ow_79k_8 b27, by exact ow_79k_9 b27⟩ dX7_copyFrom_87 (by decide) (fun c52 => ?_) (fun c52 => ?_)
        · skip
          replace hb47 := hb47.trans (if_pos c52)
          replace hb19 := hb19.trans (pf_val_inr hb47)
          replace hT := hT.trans (pf_val_inr hb19)
          exact pm_vret hC hR ⟨rfl, hV39, hF40, hT⟩ dX7_copyFrom_156
        · skip
          replace hb47 := hb47.trans (if_neg (Int.not_le.mpr c52))
          refine pm_aload_n hC 0 (by decide) dX7_copyFrom_90 rfl ?_
          have e53 : V38 25 7 = 30 := hV39.one 25 7 (by decide) (by decide) rfl
          refine pm_getf (v := 30) hC 25 fl_X7_35 rfl rfl (by decide) rfl e53 dX7_copyFrom_91 ?_
          refine pm_iload_n hC 2 dX7_copyFrom_94 rfl ?_
          refine pm_aload_n hC 1 (by decide) dX7_copyFrom_95 rfl ?_
          have e54 : V38 4 7 = 9 := hV39.one 4 7 (by decide) (by decide) rfl
          refine pm_getf (v := 9) hC 4 fl_X7_35 rfl rfl (by decide) rfl e54 dX7_copyFrom_96 ?_
          refine pm_iload_n hC 2 dX7_copyFrom_99 rfl ?_
          obtain ⟨y55, e56⟩ : ∃ y, V38 9 (x36 : Int).toNat = y := ⟨_, rfl⟩
          replace hb47 := hb47.trans (pf_let_eq e56)
          have b57 := hV39.get1 9 (x36 : Int).toNat (lo := 0) (hi := 999) (by decide) (show _ < 60 by exact ow_79k_10 b27 c52) rfl
          rw [e56] at b57
          refine pm_iaload (len := 60) (v := y55) hC 9 rfl rfl (by decide) ⟨by exact ow_79k_6 b37, by exact ow_79k_11 b27 c52⟩ (by decide) e56 dX7_copyFrom_100 ?_
          refine pm_iastore (len := 60) hC 30 rfl rfl (by decide) ⟨by exact ow_79k_6 b37, by exact ow_79k_11 b27 c52⟩ (by decide) dX7_copyFrom_101 ?_
          refine pm_aload_n hC 0 (by decide) dX7_copyFrom_102 rfl ?_
          have e58 : V38 25 8 = 31 := hV39.one 25 8 (by decide) (by decide) rfl
          refine pm_getf (v := 31) hC 25 fl_X7_38 rfl rfl (by decide) rfl e58 dX7_copyFrom_103 ?_
          refine pm_iload_n hC 2 dX7_copyFrom_106 rfl ?_
          refine pm_aload_n hC 1 (by decide) dX7_copyFrom_107 rfl ?_
          have e59 : V38 4 8 = 10 := hV39.one 4 8 (by decide) (by decide) rfl
          refine pm_getf (v := 10) hC 4 fl_X7_38 rfl rfl (by decide) rfl e59 dX7_copyFrom_108 ?_
          refine pm_iload_n hC 2 dX7_copyFrom_111 rfl ?_
          obtain ⟨y60, e61⟩ : ∃ y, V38 10 (x36 : Int).toNat = y := ⟨_, rfl⟩
          replace hb47 := hb47.trans (pf_let_eq e61)
          have b62 := hV39.get 10 (x36 : Int).toNat (lo := 0) (hi := 99) (by decide) (show _ < 60 by exact ow_79k_10 b27 c52) rfl
          rw [e61] at b62
          refine pm_iaload (len := 60) (v := y60) hC 10 rfl rfl (by decide) ⟨by exact ow_79k_6 b37, by exact ow_79k_11 b27 c52⟩ (by decide) e61 dX7_copyFrom_112 ?_
          refine pm_iastore (len := 60) hC 31 rfl rfl (by decide) ⟨by exact ow_79k_6 b37, by exact ow_79k_11 b27 c52⟩ (by decide) dX7_copyFrom_113 ?_
          refine pm_aload_n hC 0 (by decide) dX7_copyFrom_114 rfl ?_
          have e63 : V38 25 9 = 32 := hV39.one 25 9 (by decide) (by decide) rfl
          refine pm_getf (v := 32) hC 25 fl_X7_41 rfl rfl (by decide) rfl e63 dX7_copyFrom_115 ?_
          refine pm_iload_n hC 2 dX7_copyFrom_118 rfl ?_
          refine pm_aload_n hC 1 (by decide) dX7_copyFrom_119 rfl ?_
          have e64 : V38 4 9 = 11 := hV39.one 4 9 (by decide) (by decide) rfl
          refine pm_getf (v := 11) hC 4 fl_X7_41 rfl rfl (by decide) rfl e64 dX7_copyFrom_120 ?_
          refine pm_iload_n hC 2 dX7_copyFrom_123 rfl ?_
          obtain ⟨y65, e66⟩ : ∃ y, V38 11 (x36 : Int).toNat = y := ⟨_, rfl⟩
          replace hb47 := hb47.trans (pf_let_eq e66)
          have b67 := hV39.get 11 (x36 : Int).toNat (lo := (-99)) (hi := 99) (by decide) (show _ < 60 by exact ow_79k_10 b27 c52) rfl
          rw [e66] at b67
          refine pm_iaload (len := 60) (v := y65) hC 11 rfl rfl (by decide) ⟨by exact ow_79k_6 b37, by exact ow_79k_11 b27 c52⟩ (by decide) e66 dX7_copyFrom_124 ?_
          refine pm_iastore (len := 60) hC 32 rfl rfl (by decide) ⟨by exact ow_79k_6 b37, by exact ow_79k_11 b27 c52⟩ (by decide) dX7_copyFrom_125 ?_
          refine pm_aload_n hC 0 (by decide) dX7_copyFrom_126 rfl ?_
          have e68 : V38 25 10 = 33 := hV39.one 25 10 (by decide) (by decide) rfl
          refine pm_getf (v := 33) hC 25 fl_X7_44 rfl rfl (by decide) rfl e68 dX7_copyFrom_127 ?_
          refine pm_iload_n hC 2 dX7_copyFrom_130 rfl ?_
          refine pm_aload_n hC 1 (by decide) dX7_copyFrom_131 rfl ?_
          have e69 : V38 4 10 = 12 := hV39.one 4 10 (by decide) (by decide) rfl
          refine pm_getf (v := 12) hC 4 fl_X7_44 rfl rfl (by decide) rfl e69 dX7_copyFrom_132 ?_
          refine pm_iload_n hC 2 dX7_copyFrom_135 rfl ?_
          obtain ⟨y70, e71⟩ : ∃ y, V38 12 (x36 : Int).toNat = y := ⟨_, rfl⟩
          replace hb47 := hb47.trans (pf_let_eq e71)
          have b72 := hV39.get 12 (x36 : Int).toNat (lo := 0) (hi := 8) (by decide) (show _ < 60 by exact ow_79k_10 b27 c52) rfl
          rw [e71] at b72
          refine pm_iaload (len := 60) (v := y70) hC 12 rfl rfl (by decide) ⟨by exact ow_79k_6 b37, by exact ow_79k_11 b27 c52⟩ (by decide) e71 dX7_copyFrom_136 ?_
          refine pm_iastore (len := 60) hC 33 rfl rfl (by decide) ⟨by exact ow_79k_6 b37, by exact ow_79k_11 b27 c52⟩ (by decide) dX7_copyFrom_137 ?_
          refine pm_aload_n hC 0 (by decide) dX7_copyFrom_138 rfl ?_
          have e73 : V38 25 11 = 34 := hV39.one 25 11 (by decide) (by decide) rfl
          refine pm_getf (v := 34) hC 25 fl_X7_47 rfl rfl (by decide) rfl e73 dX7_copyFrom_139 ?_
          refine pm_iload_n hC 2 dX7_copyFrom_142 rfl ?_
          refine pm_aload_n hC 1 (by decide) dX7_copyFrom_143 rfl ?_
          have e74 : V38 4 11 = 13 := hV39.one 4 11 (by decide) (by decide) rfl
          refine pm_getf (v := 13) hC 4 fl_X7_47 rfl rfl (by decide) rfl e74 dX7_copyFrom_144 ?_
          refine pm_iload_n hC 2 dX7_copyFrom_147 rfl ?_
          obtain ⟨y75, e76⟩ : ∃ y, V38 13 (x36 : Int).toNat = y := ⟨_, rfl⟩
          replace hb47 := hb47.trans (pf_let_eq e76)
          have b77 := hV39.get 13 (x36 : Int).toNat (lo := 0) (hi := 1) (by decide) (show _ < 60 by exact ow_79k_10 b27 c52) rfl
          rw [e76] at b77
          refine pm_zaload (len := 60) (v := y75) hC 13 rfl rfl (by decide) ⟨by exact ow_79k_6 b37, by exact ow_79k_11 b27 c52⟩ (by decide) e76 dX7_copyFrom_148 ?_
          refine pm_zastore (len := 60) hC 34 rfl rfl (by decide) ⟨by exact ow_79k_6 b37, by exact ow_79k_11 b27 c52⟩ (by decide) (by exact ow_79k_12 b77) dX7_copyFrom_149 ?_
          obtain ⟨x78, ei79⟩ : ∃ y : Int, x36 + 1 = y := ⟨_, rfl⟩
          replace hb47 := hb47.trans (pf_let_eq ei79)
          refine pm_iinc (y := x78) (lv' := [(2, (0, x78)), (0, (3, 25)), (1, (3, 4))]) hC 2 dX7_copyFrom_150 (by decide) rfl ei79 rfl ?_
          refine pm_goto (tgt := 82) hC dX7_copyFrom_153 (by decide) ?_
          refine pm_lvsub [1, 2, 0] (lv' := [(0, (3, 25)), (1, (3, 4)), (2, (0, x78))]) rfl ?_
          exact ih51 _ (by exact ow_79k_13 b27 hm49 c52 ei79) x78 (pm_up (pm_up (pm_up (pm_up (pm_up V38 30 (x36 : Int).toNat y55) 31 (x36 : Int).toNat y60) 32 (x36 : Int).toNat y65) 33 (x36 : Int).toNat y70) 34 (x36 : Int).toNat y75) ⟨by exact ow_79k_14 b37 ei79, by exact ow_79k_15 b27 c52 ei79⟩ (((((hV39.put1 30 (x36 : Int).toNat (x := y55) (lo := 0) (hi := 999) rfl (by exact ow_79k_16 b57)).put 31 (x36 : Int).toNat (x := y60) (lo := 0) (hi := 99) rfl ⟨by exact ow_79k_17 b62, by exact ow_79k_18 b62⟩).put 32 (x36 : Int).toNat (x := y65) (lo := (-99)) (hi := 99) rfl ⟨by exact ow_79k_19 b67, by exact ow_79k_20 b67⟩).put 33 (x36 : Int).toNat (x := y70) (lo := 0) (hi := 8) rfl ⟨by exact ow_79k_21 b72, by exact ow_79k_22 b72⟩).put 34 (x36 : Int).toNat (x := y75) (lo := 0) (hi := 1) rfl ⟨by exact ow_79k_23 b77, by exact ow_79k_24 b77⟩) (((((hF40.upa 30 (x36 : Int).toNat y55 rfl).upa 31 (x36 : Int).toNat y60 rfl).upa 32 (x36 : Int).toNat y65 rfl).upa 33 (x36 : Int).toNat y70 rfl).upa 34 (x36 : Int).toNat y75 rfl) e41 e42 e43 e44 (hb19.trans (pf_val_inl hb47)) rfl
      refine pm_lvsub [1, 2, 0] (lv' := [(0, (3, 25)), (1, (3, 4)), (2, (0, 0))]) rfl ?_
      exact L48 _ 0 V28 ⟨by decide, by decide⟩ hV30 hF31 e32 e33 e34 e35 hb19 rfl
    · skip
      replace hb19 := hb19.trans (if_neg (Int.not_le.mpr c24))
      refine pm_aload_n hC 0 (by decide) dX7_copyFrom_18 rfl ?_
      have e80 : V12 25 2 = 26 := hV13.one 25 2 (by decide) (by decide) rfl
      refine pm_getf (v := 26) hC 25 fl_X7_19 rfl rfl (by decide) rfl e80 dX7_copyFrom_19 ?_
      refine pm_iload_n hC 2 dX7_copyFrom_22 rfl ?_
      refine pm_aload_n hC 1 (by decide) dX7_copyFrom_23 rfl ?_
      have e81 : V12 4 2 = 5 := hV13.one 4 2 (by decide) (by decide) rfl
      refine pm_getf (v := 5) hC 4 fl_X7_19 rfl rfl (by decide) rfl e81 dX7_copyFrom_24 ?_
      refine pm_iload_n hC 2 dX7_copyFrom_27 rfl ?_
      obtain ⟨y82, e83⟩ : ∃ y, V12 5 (x10 : Int).toNat = y := ⟨_, rfl⟩
      replace hb19 := hb19.trans (pf_let_eq e83)
      have b84 := hV13.get 5 (x10 : Int).toNat (lo := (-30)) (hi := 30) (by decide) (show _ < 10 by exact ow_79k_25 b3 c24) rfl
      rw [e83] at b84
      refine pm_iaload (len := 10) (v := y82) hC 5 rfl rfl (by decide) ⟨by exact ow_79k_26 b11, by exact ow_79k_27 b3 c24⟩ (by decide) e83 dX7_copyFrom_28 ?_
      refine pm_iastore (len := 10) hC 26 rfl rfl (by decide) ⟨by exact ow_79k_26 b11, by exact ow_79k_27 b3 c24⟩ (by decide) dX7_copyFrom_29 ?_
      refine pm_aload_n hC 0 (by decide) dX7_copyFrom_30 rfl ?_
      have e85 : V12 25 3 = 27 := hV13.one 25 3 (by decide) (by decide) rfl
      refine pm_getf (v := 27) hC 25 fl_X7_23 rfl rfl (by decide) rfl e85 dX7_copyFrom_31 ?_
      refine pm_iload_n hC 2 dX7_copyFrom_34 rfl ?_
      refine pm_aload_n hC 1 (by decide) dX7_copyFrom_35 rfl ?_
      have e86 : V12 4 3 = 6 := hV13.one 4 3 (by decide) (by decide) rfl
      refine pm_getf (v := 6) hC 4 fl_X7_23 rfl rfl (by decide) rfl e86 dX7_copyFrom_36 ?_
      refine pm_iload_n hC 2 dX7_copyFrom_39 rfl ?_
      obtain ⟨y87, e88⟩ : ∃ y, V12 6 (x10 : Int).toNat = y := ⟨_, rfl⟩
      replace hb19 := hb19.trans (pf_let_eq e88)
      have b89 := hV13.get 6 (x10 : Int).toNat (lo := (-30)) (hi := 30) (by decide) (show _ < 10 by exact ow_79k_25 b3 c24) rfl
      rw [e88] at b89
      refine pm_iaload (len := 10) (v := y87) hC 6 rfl rfl (by decide) ⟨by exact ow_79k_26 b11, by exact ow_79k_27 b3 c24⟩ (by decide) e88 dX7_copyFrom_40 ?_
      refine pm_iastore (len := 10) hC 27 rfl rfl (by decide) ⟨by exact ow_79k_26 b11, by exact ow_79k_27 b3 c24⟩ (by decide) dX7_copyFrom_41 ?_
      refine pm_aload_n hC 0 (by decide) dX7_copyFrom_42 rfl ?_
      have e90 : V12 25 4 = 28 := hV13.one 25 4 (by decide) (by decide) rfl
      refine pm_getf (v := 28) hC 25 fl_X7_26 rfl rfl (by decide) rfl e90 dX7_copyFrom_43 ?_
      refine pm_iload_n hC 2 dX7_copyFrom_46 rfl ?_
      refine pm_aload_n hC 1 (by decide) dX7_copyFrom_47 rfl ?_
      have e91 : V12 4 4 = 7 := hV13.one 4 4 (by decide) (by decide) rfl
      refine pm_getf (v := 7) hC 4 fl_X7_26 rfl rfl (by decide) rfl e91 dX7_copyFrom_48 ?_
      refine pm_iload_n hC 2 dX7_copyFrom_51 rfl ?_
      obtain ⟨y92, e93⟩ : ∃ y, V12 7 (x10 : Int).toNat = y := ⟨_, rfl⟩
      replace hb19 := hb19.trans (pf_let_eq e93)
      have b94 := hV13.get 7 (x10 : Int).toNat (lo := 0) (hi := 16) (by decide) (show _ < 10 by exact ow_79k_25 b3 c24) rfl
      rw [e93] at b94
      refine pm_iaload (len := 10) (v := y92) hC 7 rfl rfl (by decide) ⟨by exact ow_79k_26 b11, by exact ow_79k_27 b3 c24⟩ (by decide) e93 dX7_copyFrom_52 ?_
      refine pm_iastore (len := 10) hC 28 rfl rfl (by decide) ⟨by exact ow_79k_26 b11, by exact ow_79k_27 b3 c24⟩ (by decide) dX7_copyFrom_53 ?_
      refine pm_aload_n hC 0 (by decide) dX7_copyFrom_54 rfl ?_
      have e95 : V12 25 5 = 29 := hV13.one 25 5 (by decide) (by decide) rfl
      refine pm_getf (v := 29) hC 25 fl_X7_29 rfl rfl (by decide) rfl e95 dX7_copyFrom_55 ?_
      refine pm_iload_n hC 2 dX7_copyFrom_58 rfl ?_
      refine pm_aload_n hC 1 (by decide) dX7_copyFrom_59 rfl ?_
      have e96 : V12 4 5 = 8 := hV13.one 4 5 (by decide) (by decide) rfl
      refine pm_getf (v := 8) hC 4 fl_X7_29 rfl rfl (by decide) rfl e96 dX7_copyFrom_60 ?_
      refine pm_iload_n hC 2 dX7_copyFrom_63 rfl ?_
      obtain ⟨y97, e98⟩ : ∃ y, V12 8 (x10 : Int).toNat = y := ⟨_, rfl⟩
      replace hb19 := hb19.trans (pf_let_eq e98)
      have b99 := hV13.get 8 (x10 : Int).toNat (lo := 0) (hi := 3) (by decide) (show _ < 10 by exact ow_79k_25 b3 c24) rfl
      rw [e98] at b99
      refine pm_iaload (len := 10) (v := y97) hC 8 rfl rfl (by decide) ⟨by exact ow_79k_26 b11, by exact ow_79k_27 b3 c24⟩ (by decide) e98 dX7_copyFrom_64 ?_
      refine pm_iastore (len := 10) hC 29 rfl rfl (by decide) ⟨by exact ow_79k_26 b11, by exact ow_79k_27 b3 c24⟩ (by decide) dX7_copyFrom_65 ?_
      obtain ⟨x100, ei101⟩ : ∃ y : Int, x10 + 1 = y := ⟨_, rfl⟩
      replace hb19 := hb19.trans (pf_let_eq ei101)
      refine pm_iinc (y := x100) (lv' := [(2, (0, x100)), (0, (3, 25)), (1, (3, 4))]) hC 2 dX7_copyFrom_66 (by decide) rfl ei101 rfl ?_
      refine pm_goto (tgt := 10) hC dX7_copyFrom_69 (by decide) ?_
      refine pm_lvsub [1, 2, 0] (lv' := [(0, (3, 25)), (1, (3, 4)), (2, (0, x100))]) rfl ?_
      exact ih23 _ (by exact ow_79k_28 b3 hm21 c24 ei101) x100 (pm_up (pm_up (pm_up (pm_up V12 26 (x10 : Int).toNat y82) 27 (x10 : Int).toNat y87) 28 (x10 : Int).toNat y92) 29 (x10 : Int).toNat y97) ⟨by exact ow_79k_29 b11 ei101, by exact ow_79k_30 b3 c24 ei101⟩ ((((hV13.put 26 (x10 : Int).toNat (x := y82) (lo := (-30)) (hi := 30) rfl ⟨by exact ow_79k_31 b84, by exact ow_79k_32 b84⟩).put 27 (x10 : Int).toNat (x := y87) (lo := (-30)) (hi := 30) rfl ⟨by exact ow_79k_31 b89, by exact ow_79k_32 b89⟩).put 28 (x10 : Int).toNat (x := y92) (lo := 0) (hi := 16) rfl ⟨by exact ow_79k_26 b94, by exact ow_79k_33 b94⟩).put 29 (x10 : Int).toNat (x := y97) (lo := 0) (hi := 3) rfl ⟨by exact ow_79k_34 b99, by exact ow_79k_35 b99⟩) ((((hF14.upa 26 (x10 : Int).toNat y82 rfl).upa 27 (x10 : Int).toNat y87 rfl).upa 28 (x10 : Int).toNat y92 rfl).upa 29 (x10 : Int).toNat y97 rfl) e15 e16 (hT.trans (pf_val_inl hb19)) rfl
  refine pm_lvsub [1, 2, 0] (lv' := [(0, (3, 25)), (1, (3, 4)), (2, (0, 0))]) rfl ?_
  exact L20 _ 0 V4 ⟨by decide, by decide⟩ hV6 hF7 e8 e9 hT rfl
set_option maxHeartbeats 4000000 in
set_option maxRecDepth 100000 in
theorem fD_X7_copyFrom_35_4  : pm_K 1 yX7_copyFrom cX7_copyFrom 3 none (fun av V => av = [(3, 35), (3, 4)] ∧ pm_ok 0 90 V) (fun _ V r V' => r = none ∧ pm_ok 0 90 V' ∧ pm_ff [36, 37, 38, 39, 40, 41, 42, 43, 44] [(35, 1), (35, 6)] V V' ∧ F_X7_copyFrom 35 4 V = (0, V')) := by
  refine pm_MT.of (by decide) ⟨Nat.le_refl _, by decide⟩ (fun av V h => by rw [h.1]; exact (by decide : pm_words [(3, 0), (3, 0)] ≤ 3)) ?_
  rintro X av V0 hC - hR ⟨rfl, hV0⟩
  change pm_J X 0 [(0, (3, 35)), (1, (3, 4))] [] 118 V0
  have hT := F_X7_copyFrom_eq 35 4 V0
  refine pm_aload_n hC 0 (by decide) dX7_copyFrom_0 rfl ?_
  refine pm_aload_n hC 1 (by decide) dX7_copyFrom_1 rfl ?_
  obtain ⟨y1, e2⟩ : ∃ y, V0 4 1 = y := ⟨_, rfl⟩
  have b3 := hV0.get 4 1 (lo := 0) (hi := 10) (by decide) (by decide) rfl
  rw [e2] at b3
  replace hT := hT.trans (pf_let_eq e2)
  refine pm_getf (v := y1) hC 4 fl_X7_15 rfl rfl (by decide) rfl e2 dX7_copyFrom_2 ?_
  refine pm_putf hC 35 fl_X7_15 rfl rfl rfl (by decide) rfl trivial dX7_copyFrom_5 ?_
  refine pm_iconst (v := 0) hC dX7_copyFrom_8 ?_
  refine pm_istore_n (lv' := [(2, (0, 0)), (0, (3, 35)), (1, (3, 4))]) hC dX7_copyFrom_9 (by decide) rfl ?_
  have hV6 := (hV0.put 35 1 (x := y1) (lo := 0) (hi := 10) rfl ⟨by exact ow_79k_0 b3, by exact ow_79k_1 b3⟩)
  have hF7 := ((pm_ff.rf (cs := [36, 37, 38, 39, 40, 41, 42, 43, 44]) (fs := [(35, 1), (35, 6)]) (V := V0)).upf 35 1 y1 rfl)
  obtain ⟨V4, hv5⟩ : ∃ V, V = (pm_up V0 35 1 y1) := ⟨_, rfl⟩
  rw [← hv5] at hV6 hF7
  rw [← hv5]
  replace hT := hT.trans (pf_let_eq hv5.symm)
  have e8 : V4 4 1 = y1 := by rw [hv5]; exact e2
  have e9 : V4 35 1 = y1 := by rw [hv5]; rfl
  obtain ⟨B17, hB18, hT⟩ := pf_loop hT
  have L20 : ∀ (N22 : Nat) (x10 : Int) (V12 : pm_M), (0 ≤ x10 ∧ x10 ≤ 16) → pm_ok 0 90 V12 → pm_ff [36, 37, 38, 39, 40, 41, 42, 43, 44] [(35, 1), (35, 6)] V0 V12 → V12 4 1 = y1 → V12 35 1 = y1 → F_X7_copyFrom 35 4 V0 = pf_val ((0 : Int), V0) B17 (x10, V12) → (Int.toNat (16 - x10)) = N22 → pm_J X 10 [(0, (3, 35)), (1, (3, 4)), (2, (0, x10))] [] 118 V12 := by
    intro N22
    induction N22 using Nat.strongRecOn with
    | _ N22 ih23 =>
    intro x10 V12 b11 hV13 hF14 e15 e16 hT hm21
    have hb19 := congrFun hB18 (x10, V12)
    refine pm_iload_n hC 2 dX7_copyFrom_10 rfl ?_
    refine pm_aload_n hC 0 (by decide) dX7_copyFrom_11 rfl ?_
    refine pm_getf (v := y1) hC 35 fl_X7_15 rfl rfl (by decide) rfl e16 dX7_copyFrom_12 ?_
    refine pm_icmp_ge (tgt := 72) hC ⟨by exact ow_79k_2 b11, by exact ow_79k_3 b11⟩ ⟨by exact ow_79k_4 b3, by exact ow_79k_5 b3⟩ dX7_copyFrom_15 (by decide) (fun c24 => ?_) (fun c24 => ?_)
    · skip
      replace hb19 := hb19.trans (if_pos c24)
      refine pm_aload_n hC 0 (by decide) dX7_copyFrom_72 rfl ?_
      refine pm_aload_n hC 1 (by decide) dX7_copyFrom_73 rfl ?_
      obtain ⟨y25, e26⟩ : ∃ y, V12 4 6 = y := ⟨_, rfl⟩
      have b27 := hV13.get 4 6 (lo := 0) (hi := 60) (by decide) (by decide) rfl
      rw [e26] at b27
      replace hb19 := hb19.trans (pf_let_eq e26)
      refine pm_getf (v := y25) hC 4 fl_X7_32 rfl rfl (by decide) rfl e26 dX7_copyFrom_74 ?_
      refine pm_putf hC 35 fl_X7_32 rfl rfl rfl (by decide) rfl trivial dX7_copyFrom_77 ?_
      refine pm_iconst (v := 0) hC dX7_copyFrom_80 ?_
      refine pm_istore_n (lv' := [(2, (0, 0)), (0, (3, 35)), (1, (3, 4))]) hC dX7_copyFrom_81 (by decide) rfl ?_
      have hV30 := (hV13.put 35 6 (x := y25) (lo := 0) (hi := 60) rfl ⟨by exact ow_79k_6 b27, by exact ow_79k_7 b27⟩)
      have hF31 := (hF14.upf 35 6 y25 rfl)
      obtain ⟨V28, hv29⟩ : ∃ V, V = (pm_up V12 35 6 y25) := ⟨_, rfl⟩
      rw [← hv29] at hV30 hF31
      rw [← hv29]
      replace hb19 := hb19.trans (pf_let_eq hv29.symm)
      have e32 : V28 4 1 = y1 := by rw [hv29]; exact e15
      have e33 : V28 35 1 = y1 := by rw [hv29]; exact e16
      have e34 : V28 4 6 = y25 := by rw [hv29]; exact e26
      have e35 : V28 35 6 = y25 := by rw [hv29]; rfl
      obtain ⟨B45, hB46, hb19⟩ := pf_loop hb19
      have L48 : ∀ (N50 : Nat) (x36 : Int) (V38 : pm_M), (0 ≤ x36 ∧ x36 ≤ 60) → pm_ok 0 90 V38 → pm_ff [36, 37, 38, 39, 40, 41, 42, 43, 44] [(35, 1), (35, 6)] V0 V38 → V38 4 1 = y1 → V38 35 1 = y1 → V38 4 6 = y25 → V38 35 6 = y25 → B17 (x10, V12) = pf_val (.inr ((0 : Int), V0)) B45 (x36, V38) → (Int.toNat (60 - x36)) = N50 → pm_J X 82 [(0, (3, 35)), (1, (3, 4)), (2, (0, x36))] [] 118 V38 := by
        intro N50
        induction N50 using Nat.strongRecOn with
        | _ N50 ih51 =>
        intro x36 V38 b37 hV39 hF40 e41 e42 e43 e44 hb19 hm49
        have hb47 := congrFun hB46 (x36, V38)
        refine pm_iload_n hC 2 dX7_copyFrom_82 rfl ?_
        refine pm_aload_n hC 0 (by decide) dX7_copyFrom_83 rfl ?_
        refine pm_getf (v := y25) hC 35 fl_X7_32 rfl rfl (by decide) rfl e44 dX7_copyFrom_84 ?_
        refine pm_icmp_ge (tgt := 156) hC ⟨by exact ow_79k_8 b37, by exact ow_79k_9 b37⟩ ⟨by exact ow_79k_8 b27, by exact ow_79k_9 b27⟩ dX7_copyFrom_87 (by decide) (fun c52 => ?_) (fun c52 => ?_)
        · skip
          replace hb47 := hb47.trans (if_pos c52)
          replace hb19 := hb19.trans (pf_val_inr hb47)
          replace hT := hT.trans (pf_val_inr hb19)
          exact pm_vret hC hR ⟨rfl, hV39, hF40, hT⟩ dX7_copyFrom_156
        · skip
          replace hb47 := hb47.trans (if_neg (Int.not_le.mpr c52))
          refine pm_aload_n hC 0 (by decide) dX7_copyFrom_90 rfl ?_
          have e53 : V38 35 7 = 40 := hV39.one 35 7 (by decide) (by decide) rfl
          refine pm_getf (v := 40) hC 35 fl_X7_35 rfl rfl (by decide) rfl e53 dX7_copyFrom_91 ?_
          refine pm_iload_n hC 2 dX7_copyFrom_94 rfl ?_
          refine pm_aload_n hC 1 (by decide) dX7_copyFrom_95 rfl ?_
          have e54 : V38 4 7 = 9 := hV39.one 4 7 (by decide) (by decide) rfl
          refine pm_getf (v := 9) hC 4 fl_X7_35 rfl rfl (by decide) rfl e54 dX7_copyFrom_96 ?_
          refine pm_iload_n hC 2 dX7_copyFrom_99 rfl ?_
          obtain ⟨y55, e56⟩ : ∃ y, V38 9 (x36 : Int).toNat = y := ⟨_, rfl⟩
          replace hb47 := hb47.trans (pf_let_eq e56)
          have b57 := hV39.get1 9 (x36 : Int).toNat (lo := 0) (hi := 999) (by decide) (show _ < 60 by exact ow_79k_10 b27 c52) rfl
          rw [e56] at b57
          refine pm_iaload (len := 60) (v := y55) hC 9 rfl rfl (by decide) ⟨by exact ow_79k_6 b37, by exact ow_79k_11 b27 c52⟩ (by decide) e56 dX7_copyFrom_100 ?_
          refine pm_iastore (len := 60) hC 40 rfl rfl (by decide) ⟨by exact ow_79k_6 b37, by exact ow_79k_11 b27 c52⟩ (by decide) dX7_copyFrom_101 ?_
          refine pm_aload_n hC 0 (by decide) dX7_copyFrom_102 rfl ?_
          have e58 : V38 35 8 = 41 := hV39.one 35 8 (by decide) (by decide) rfl
          refine pm_getf (v := 41) hC 35 fl_X7_38 rfl rfl (by decide) rfl e58 dX7_copyFrom_103 ?_
          refine pm_iload_n hC 2 dX7_copyFrom_106 rfl ?_
          refine pm_aload_n hC 1 (by decide) dX7_copyFrom_107 rfl ?_
          have e59 : V38 4 8 = 10 := hV39.one 4 8 (by decide) (by decide) rfl
          refine pm_getf (v := 10) hC 4 fl_X7_38 rfl rfl (by decide) rfl e59 dX7_copyFrom_108 ?_
          refine pm_iload_n hC 2 dX7_copyFrom_111 rfl ?_
          obtain ⟨y60, e61⟩ : ∃ y, V38 10 (x36 : Int).toNat = y := ⟨_, rfl⟩
          replace hb47 := hb47.trans (pf_let_eq e61)
          have b62 := hV39.get 10 (x36 : Int).toNat (lo := 0) (hi := 99) (by decide) (show _ < 60 by exact ow_79k_10 b27 c52) rfl
          rw [e61] at b62
          refine pm_iaload (len := 60) (v := y60) hC 10 rfl rfl (by decide) ⟨by exact ow_79k_6 b37, by exact ow_79k_11 b27 c52⟩ (by decide) e61 dX7_copyFrom_112 ?_
          refine pm_iastore (len := 60) hC 41 rfl rfl (by decide) ⟨by exact ow_79k_6 b37, by exact ow_79k_11 b27 c52⟩ (by decide) dX7_copyFrom_113 ?_
          refine pm_aload_n hC 0 (by decide) dX7_copyFrom_114 rfl ?_
          have e63 : V38 35 9 = 42 := hV39.one 35 9 (by decide) (by decide) rfl
          refine pm_getf (v := 42) hC 35 fl_X7_41 rfl rfl (by decide) rfl e63 dX7_copyFrom_115 ?_
          refine pm_iload_n hC 2 dX7_copyFrom_118 rfl ?_
          refine pm_aload_n hC 1 (by decide) dX7_copyFrom_119 rfl ?_
          have e64 : V38 4 9 = 11 := hV39.one 4 9 (by decide) (by decide) rfl
          refine pm_getf (v := 11) hC 4 fl_X7_41 rfl rfl (by decide) rfl e64 dX7_copyFrom_120 ?_
          refine pm_iload_n hC 2 dX7_copyFrom_123 rfl ?_
          obtain ⟨y65, e66⟩ : ∃ y, V38 11 (x36 : Int).toNat = y := ⟨_, rfl⟩
          replace hb47 := hb47.trans (pf_let_eq e66)
          have b67 := hV39.get 11 (x36 : Int).toNat (lo := (-99)) (hi := 99) (by decide) (show _ < 60 by exact ow_79k_10 b27 c52) rfl
          rw [e66] at b67
          refine pm_iaload (len := 60) (v := y65) hC 11 rfl rfl (by decide) ⟨by exact ow_79k_6 b37, by exact ow_79k_11 b27 c52⟩ (by decide) e66 dX7_copyFrom_124 ?_
          refine pm_iastore (len := 60) hC 42 rfl rfl (by decide) ⟨by exact ow_79k_6 b37, by exact ow_79k_11 b27 c52⟩ (by decide) dX7_copyFrom_125 ?_
          refine pm_aload_n hC 0 (by decide) dX7_copyFrom_126 rfl ?_
          have e68 : V38 35 10 = 43 := hV39.one 35 10 (by decide) (by decide) rfl
          refine pm_getf (v := 43) hC 35 fl_X7_44 rfl rfl (by decide) rfl e68 dX7_copyFrom_127 ?_
          refine pm_iload_n hC 2 dX7_copyFrom_130 rfl ?_
          refine pm_aload_n hC 1 (by decide) dX7_copyFrom_131 rfl ?_
          have e69 : V38 4 10 = 12 := hV39.one 4 10 (by decide) (by decide) rfl
          refine pm_getf (v := 12) hC 4 fl_X7_44 rfl rfl (by decide) rfl e69 dX7_copyFrom_132 ?_
          refine pm_iload_n hC 2 dX7_copyFrom_135 rfl ?_
          obtain ⟨y70, e71⟩ : ∃ y, V38 12 (x36 : Int).toNat = y := ⟨_, rfl⟩
          replace hb47 := hb47.trans (pf_let_eq e71)
          have b72 := hV39.get 12 (x36 : Int).toNat (lo := 0) (hi := 8) (by decide) (show _ < 60 by exact ow_79k_10 b27 c52) rfl
          rw [e71] at b72
          refine pm_iaload (len := 60) (v := y70) hC 12 rfl rfl (by decide) ⟨by exact ow_79k_6 b37, by exact ow_79k_11 b27 c52⟩ (by decide) e71 dX7_copyFrom_136 ?_
          refine pm_iastore (len := 60) hC 43 rfl rfl (by decide) ⟨by exact ow_79k_6 b37, by exact ow_79k_11 b27 c52⟩ (by decide) dX7_copyFrom_137 ?_
          refine pm_aload_n hC 0 (by decide) dX7_copyFrom_138 rfl ?_
          have e73 : V38 35 11 = 44 := hV39.one 35 11 (by decide) (by decide) rfl
          refine pm_getf (v := 44) hC 35 fl_X7_47 rfl rfl (by decide) rfl e73 dX7_copyFrom_139 ?_
          refine pm_iload_n hC 2 dX7_copyFrom_142 rfl ?_
          refine pm_aload_n hC 1 (by decide) dX7_copyFrom_143 rfl ?_
          have e74 : V38 4 11 = 13 := hV39.one 4 11 (by decide) (by decide) rfl
          refine pm_getf (v := 13) hC 4 fl_X7_47 rfl rfl (by decide) rfl e74 dX7_copyFrom_144 ?_
          refine pm_iload_n hC 2 dX7_copyFrom_147 rfl ?_
          obtain ⟨y75, e76⟩ : ∃ y, V38 13 (x36 : Int).toNat = y := ⟨_, rfl⟩
          replace hb47 := hb47.trans (pf_let_eq e76)
          have b77 := hV39.get 13 (x36 : Int).toNat (lo := 0) (hi := 1) (by decide) (show _ < 60 by exact ow_79k_10 b27 c52) rfl
          rw [e76] at b77
          refine pm_zaload (len := 60) (v := y75) hC 13 rfl rfl (by decide) ⟨by exact ow_79k_6 b37, by exact ow_79k_11 b27 c52⟩ (by decide) e76 dX7_copyFrom_148 ?_
          refine pm_zastore (len := 60) hC 44 rfl rfl (by decide) ⟨by exact ow_79k_6 b37, by exact ow_79k_11 b27 c52⟩ (by decide) (by exact ow_79k_12 b77) dX7_copyFrom_149 ?_
          obtain ⟨x78, ei79⟩ : ∃ y : Int, x36 + 1 = y := ⟨_, rfl⟩
          replace hb47 := hb47.trans (pf_let_eq ei79)
          refine pm_iinc (y := x78) (lv' := [(2, (0, x78)), (0, (3, 35)), (1, (3, 4))]) hC 2 dX7_copyFrom_150 (by decide) rfl ei79 rfl ?_
          refine pm_goto (tgt := 82) hC dX7_copyFrom_153 (by decide) ?_
          refine pm_lvsub [1, 2, 0] (lv' := [(0, (3, 35)), (1, (3, 4)), (2, (0, x78))]) rfl ?_
          exact ih51 _ (by exact ow_79k_13 b27 hm49 c52 ei79) x78 (pm_up (pm_up (pm_up (pm_up (pm_up V38 40 (x36 : Int).toNat y55) 41 (x36 : Int).toNat y60) 42 (x36 : Int).toNat y65) 43 (x36 : Int).toNat y70) 44 (x36 : Int).toNat y75) ⟨by exact ow_79k_14 b37 ei79, by exact ow_79k_15 b27 c52 ei79⟩ (((((hV39.put1 40 (x36 : Int).toNat (x := y55) (lo := 0) (hi := 999) rfl (by exact ow_79k_16 b57)).put 41 (x36 : Int).toNat (x := y60) (lo := 0) (hi := 99) rfl ⟨by exact ow_79k_17 b62, by exact ow_79k_18 b62⟩).put 42 (x36 : Int).toNat (x := y65) (lo := (-99)) (hi := 99) rfl ⟨by exact ow_79k_19 b67, by exact ow_79k_20 b67⟩).put 43 (x36 : Int).toNat (x := y70) (lo := 0) (hi := 8) rfl ⟨by exact ow_79k_21 b72, by exact ow_79k_22 b72⟩).put 44 (x36 : Int).toNat (x := y75) (lo := 0) (hi := 1) rfl ⟨by exact ow_79k_23 b77, by exact ow_79k_24 b77⟩) (((((hF40.upa 40 (x36 : Int).toNat y55 rfl).upa 41 (x36 : Int).toNat y60 rfl).upa 42 (x36 : Int).toNat y65 rfl).upa 43 (x36 : Int).toNat y70 rfl).upa 44 (x36 : Int).toNat y75 rfl) e41 e42 e43 e44 (hb19.trans (pf_val_inl hb47)) rfl
      refine pm_lvsub [1, 2, 0] (lv' := [(0, (3, 35)), (1, (3, 4)), (2, (0, 0))]) rfl ?_
      exact L48 _ 0 V28 ⟨by decide, by decide⟩ hV30 hF31 e32 e33 e34 e35 hb19 rfl
    · skip
      replace hb19 := hb19.trans (if_neg (Int.not_le.mpr c24))
      refine pm_aload_n hC 0 (by decide) dX7_copyFrom_18 rfl ?_
      have e80 : V12 35 2 = 36 := hV13.one 35 2 (by decide) (by decide) rfl
      refine pm_getf (v := 36) hC 35 fl_X7_19 rfl rfl (by decide) rfl e80 dX7_copyFrom_19 ?_
      refine pm_iload_n hC 2 dX7_copyFrom_22 rfl ?_
      refine pm_aload_n hC 1 (by decide) dX7_copyFrom_23 rfl ?_
      have e81 : V12 4 2 = 5 := hV13.one 4 2 (by decide) (by decide) rfl
      refine pm_getf (v := 5) hC 4 fl_X7_19 rfl rfl (by decide) rfl e81 dX7_copyFrom_24 ?_
      refine pm_iload_n hC 2 dX7_copyFrom_27 rfl ?_
      obtain ⟨y82, e83⟩ : ∃ y, V12 5 (x10 : Int).toNat = y := ⟨_, rfl⟩
      replace hb19 := hb19.trans (pf_let_eq e83)
      have b84 := hV13.get 5 (x10 : Int).toNat (lo := (-30)) (hi := 30) (by decide) (show _ < 10 by exact ow_79k_25 b3 c24) rfl
      rw [e83] at b84
      refine pm_iaload (len := 10) (v := y82) hC 5 rfl rfl (by decide) ⟨by exact ow_79k_26 b11, by exact ow_79k_27 b3 c24⟩ (by decide) e83 dX7_copyFrom_28 ?_
      refine pm_iastore (len := 10) hC 36 rfl rfl (by decide) ⟨by exact ow_79k_26 b11, by exact ow_79k_27 b3 c24⟩ (by decide) dX7_copyFrom_29 ?_
      refine pm_aload_n hC 0 (by decide) dX7_copyFrom_30 rfl ?_
      have e85 : V12 35 3 = 37 := hV13.one 35 3 (by decide) (by decide) rfl
      refine pm_getf (v := 37) hC 35 fl_X7_23 rfl rfl (by decide) rfl e85 dX7_copyFrom_31 ?_
      refine pm_iload_n hC 2 dX7_copyFrom_34 rfl ?_
      refine pm_aload_n hC 1 (by decide) dX7_copyFrom_35 rfl ?_
      have e86 : V12 4 3 = 6 := hV13.one 4 3 (by decide) (by decide) rfl
      refine pm_getf (v := 6) hC 4 fl_X7_23 rfl rfl (by decide) rfl e86 dX7_copyFrom_36 ?_
      refine pm_iload_n hC 2 dX7_copyFrom_39 rfl ?_
      obtain ⟨y87, e88⟩ : ∃ y, V12 6 (x10 : Int).toNat = y := ⟨_, rfl⟩
      replace hb19 := hb19.trans (pf_let_eq e88)
      have b89 := hV13.get 6 (x10 : Int).toNat (lo := (-30)) (hi := 30) (by decide) (show _ < 10 by exact ow_79k_25 b3 c24) rfl
      rw [e88] at b89
      refine pm_iaload (len := 10) (v := y87) hC 6 rfl rfl (by decide) ⟨by exact ow_79k_26 b11, by exact ow_79k_27 b3 c24⟩ (by decide) e88 dX7_copyFrom_40 ?_
      refine pm_iastore (len := 10) hC 37 rfl rfl (by decide) ⟨by exact ow_79k_26 b11, by exact ow_79k_27 b3 c24⟩ (by decide) dX7_copyFrom_41 ?_
      refine pm_aload_n hC 0 (by decide) dX7_copyFrom_42 rfl ?_
      have e90 : V12 35 4 = 38 := hV13.one 35 4 (by decide) (by decide) rfl
      refine pm_getf (v := 38) hC 35 fl_X7_26 rfl rfl (by decide) rfl e90 dX7_copyFrom_43 ?_
      refine pm_iload_n hC 2 dX7_copyFrom_46 rfl ?_
      refine pm_aload_n hC 1 (by decide) dX7_copyFrom_47 rfl ?_
      have e91 : V12 4 4 = 7 := hV13.one 4 4 (by decide) (by decide) rfl
      refine pm_getf (v := 7) hC 4 fl_X7_26 rfl rfl (by decide) rfl e91 dX7_copyFrom_48 ?_
      refine pm_iload_n hC 2 dX7_copyFrom_51 rfl ?_
      obtain ⟨y92, e93⟩ : ∃ y, V12 7 (x10 : Int).toNat = y := ⟨_, rfl⟩
      replace hb19 := hb19.trans (pf_let_eq e93)
      have b94 := hV13.get 7 (x10 : Int).toNat (lo := 0) (hi := 16) (by decide) (show _ < 10 by exact ow_79k_25 b3 c24) rfl
      rw [e93] at b94
      refine pm_iaload (len := 10) (v := y92) hC 7 rfl rfl (by decide) ⟨by exact ow_79k_26 b11, by exact ow_79k_27 b3 c24⟩ (by decide) e93 dX7_copyFrom_52 ?_
      refine pm_iastore (len := 10) hC 38 rfl rfl (by decide) ⟨by exact ow_79k_26 b11, by exact ow_79k_27 b3 c24⟩ (by decide) dX7_copyFrom_53 ?_
      refine pm_aload_n hC 0 (by decide) dX7_copyFrom_54 rfl ?_
      have e95 : V12 35 5 = 39 := hV13.one 35 5 (by decide) (by decide) rfl
      refine pm_getf (v := 39) hC 35 fl_X7_29 rfl rfl (by decide) rfl e95 dX7_copyFrom_55 ?_
      refine pm_iload_n hC 2 dX7_copyFrom_58 rfl ?_
      refine pm_aload_n hC 1 (by decide) dX7_copyFrom_59 rfl ?_
      have e96 : V12 4 5 = 8 := hV13.one 4 5 (by decide) (by decide) rfl
      refine pm_getf (v := 8) hC 4 fl_X7_29 rfl rfl (by decide) rfl e96 dX7_copyFrom_60 ?_
      refine pm_iload_n hC 2 dX7_copyFrom_63 rfl ?_
      obtain ⟨y97, e98⟩ : ∃ y, V12 8 (x10 : Int).toNat = y := ⟨_, rfl⟩
      replace hb19 := hb19.trans (pf_let_eq e98)
      have b99 := hV13.get 8 (x10 : Int).toNat (lo := 0) (hi := 3) (by decide) (show _ < 10 by exact ow_79k_25 b3 c24) rfl
      rw [e98] at b99
      refine pm_iaload (len := 10) (v := y97) hC 8 rfl rfl (by decide) ⟨by exact ow_79k_26 b11, by exact ow_79k_27 b3 c24⟩ (by decide) e98 dX7_copyFrom_64 ?_
      refine pm_iastore (len := 10) hC 39 rfl rfl (by decide) ⟨by exact ow_79k_26 b11, by exact ow_79k_27 b3 c24⟩ (by decide) dX7_copyFrom_65 ?_
      obtain ⟨x100, ei101⟩ : ∃ y : Int, x10 + 1 = y := ⟨_, rfl⟩
      replace hb19 := hb19.trans (pf_let_eq ei101)
      refine pm_iinc (y := x100) (lv' := [(2, (0, x100)), (0, (3, 35)), (1, (3, 4))]) hC 2 dX7_copyFrom_66 (by decide) rfl ei101 rfl ?_
      refine pm_goto (tgt := 10) hC dX7_copyFrom_69 (by decide) ?_
      refine pm_lvsub [1, 2, 0] (lv' := [(0, (3, 35)), (1, (3, 4)), (2, (0, x100))]) rfl ?_
      exact ih23 _ (by exact ow_79k_28 b3 hm21 c24 ei101) x100 (pm_up (pm_up (pm_up (pm_up V12 36 (x10 : Int).toNat y82) 37 (x10 : Int).toNat y87) 38 (x10 : Int).toNat y92) 39 (x10 : Int).toNat y97) ⟨by exact ow_79k_29 b11 ei101, by exact ow_79k_30 b3 c24 ei101⟩ ((((hV13.put 36 (x10 : Int).toNat (x := y82) (lo := (-30)) (hi := 30) rfl ⟨by exact ow_79k_31 b84, by exact ow_79k_32 b84⟩).put 37 (x10 : Int).toNat (x := y87) (lo := (-30)) (hi := 30) rfl ⟨by exact ow_79k_31 b89, by exact ow_79k_32 b89⟩).put 38 (x10 : Int).toNat (x := y92) (lo := 0) (hi := 16) rfl ⟨by exact ow_79k_26 b94, by exact ow_79k_33 b94⟩).put 39 (x10 : Int).toNat (x := y97) (lo := 0) (hi := 3) rfl ⟨by exact ow_79k_34 b99, by exact ow_79k_35 b99⟩) ((((hF14.upa 36 (x10 : Int).toNat y82 rfl).upa 37 (x10 : Int).toNat y87 rfl).upa 38 (x10 : Int).toNat y92 rfl).upa 39 (x10 : Int).toNat y97 rfl) e15 e16 (hT.trans (pf_val_inl hb19)) rfl
  refine pm_lvsub [1, 2, 0] (lv' := [(0, (3, 35)), (1, (3, 4)), (2, (0, 0))]) rfl ?_
  exact L20 _ 0 V4 ⟨by decide, by decide⟩ hV6 hF7 e8 e9 hT rfl
set_option maxHeartbeats 4000000 in
set_option maxRecDepth 100000 in
theorem fD_X11_image_0 (a1 : Int) (h0 : (-2147483648) ≤ a1 ∧ a1 ≤ 2147483647) : pm_K 2 yX11_image cX11_image 2 (some .boolean) (fun av V => av = [(3, 0), (0, a1)] ∧ pm_ok 0 90 V) (fun _ V r V' => ∃ y, r = some (0, y) ∧ (0 ≤ y ∧ y ≤ 1) ∧ pm_ok 0 90 V' ∧ pm_ff [16, 17, 18, 19, 20, 21, 22, 23, 24, 26, 27, 28, 29, 30, 31, 32, 33, 34, 36, 37, 38, 39, 40, 41, 42, 43, 44] [(15, 0), (15, 1), (15, 6), (25, 0), (25, 1), (25, 6), (35, 0), (35, 1), (35, 6)] V V' ∧ F_X11_image a1 V = (y, V')) := by
  refine pm_MT.of (by decide) ⟨Nat.le_refl _, by decide⟩ (fun av V h => by rw [h.1]; exact (by decide : pm_words [(3, 0), (0, 0)] ≤ 2)) ?_
  rintro X av V0 hC - hR ⟨rfl, hV0⟩
  change pm_J X 0 [(0, (3, 0)), (1, (0, a1))] [] 118 V0
  have hT := F_X11_image_eq a1 V0
  refine pm_aload_n hC 0 (by decide) dX11_image_0 rfl ?_
  refine pm_callV (ci := 11) (as := []) (st := []) hC 0 fD_X11_hasScene_0 lm_X11_165 li_X11_hasScene (by decide) (by decide) rfl rfl rfl (by decide) rfl rfl (Nat.le_of_ble_eq_true rfl) ⟨Nat.le_refl _, Or.inl rfl⟩ dX11_image_1 ⟨rfl, hV0⟩ (fun r1 V2 hp3 => ?_)
  obtain ⟨y4, rfl, b5, rfl, hE6⟩ := hp3
  replace hT := hT.trans (pf_call_eq hE6)
  change pm_J X 4 [(0, (3, 0)), (1, (0, a1))] [(0, y4)] 118 V0
  refine pm_if_eq (tgt := 16) hC ⟨by exact ow_79k_36 b5, by exact ow_79k_37 b5⟩ dX11_image_4 (by decide) (fun c7 => ?_) (fun c7 => ?_)
  · skip
    replace hT := hT.trans (if_pos c7)
    refine pm_iconst (v := 0) hC dX11_image_16 ?_
    exact pm_iret hC hR (pm_narZ (by exact ow_79k_38)) ⟨0, rfl, ⟨by exact ow_79k_39, by exact ow_79k_40⟩, hV0, (pm_ff.rf (cs := [16, 17, 18, 19, 20, 21, 22, 23, 24, 26, 27, 28, 29, 30, 31, 32, 33, 34, 36, 37, 38, 39, 40, 41, 42, 43, 44]) (fs := [(15, 0), (15, 1), (15, 6), (25, 0), (25, 1), (25, 6), (35, 0), (35, 1), (35, 6)]) (V := V0)), hT⟩ dX11_image_17
  · skip
    replace hT := hT.trans (if_neg c7)
    refine pm_iload_n hC 1 dX11_image_7 rfl ?_
    refine pm_if_lt (tgt := 16) hC ⟨by exact ow_79k_41 h0, by exact ow_79k_42 h0⟩ dX11_image_8 (by decide) (fun c8 => ?_) (fun c8 => ?_)
    · skip
      replace hT := hT.trans (if_pos c8)
      refine pm_iconst (v := 0) hC dX11_image_16 ?_
      exact pm_iret hC hR (pm_narZ (by exact ow_79k_38)) ⟨0, rfl, ⟨by exact ow_79k_39, by exact ow_79k_40⟩, hV0, (pm_ff.rf (cs := [16, 17, 18, 19, 20, 21, 22, 23, 24, 26, 27, 28, 29, 30, 31, 32, 33, 34, 36, 37, 38, 39, 40, 41, 42, 43, 44]) (fs := [(15, 0), (15, 1), (15, 6), (25, 0), (25, 1), (25, 6), (35, 0), (35, 1), (35, 6)]) (V := V0)), hT⟩ dX11_image_17
    · skip
      replace hT := hT.trans (if_neg (Int.not_lt.mpr c8))
      refine pm_iload_n hC 1 dX11_image_11 rfl ?_
      refine pm_iconst (v := 3) hC dX11_image_12 ?_
      refine pm_icmp_lt (tgt := 18) hC ⟨by exact ow_79k_43 c8, by exact ow_79k_42 h0⟩ ⟨by decide, by decide⟩ dX11_image_13 (by decide) (fun c9 => ?_) (fun c9 => ?_)
      · skip
        replace hT := hT.trans (if_pos c9)
        refine pm_aload_n hC 0 (by decide) dX11_image_18 rfl ?_
        have e10 : V0 0 4 = 14 := hV0.one 0 4 (by decide) (by decide) rfl
        refine pm_getf (v := 14) hC 0 fl_X11_28 rfl rfl (by decide) rfl e10 dX11_image_19 ?_
        refine pm_iload_n hC 1 dX11_image_22 rfl ?_
        rcases (show a1 = (0 : Int) ∨ a1 = (1 : Int) ∨ a1 = (2 : Int) by exact ow_79k_44 c8 c9) with hk | hk | hk
        · skip
          have e11 : V0 14 (a1 : Int).toNat = 15 := by rw [hk]; exact hV0.one 14 0 (by decide) (by decide) rfl
          replace hT := hT.trans (if_pos hk)
          refine pm_aaload (len := 3) (v := 15) hC 14 rfl rfl (by decide) ⟨by exact ow_79k_45 c8, by exact ow_79k_46 hk⟩ (by decide) e11 dX11_image_23 ?_
          refine pm_aload_n hC 0 (by decide) dX11_image_24 rfl ?_
          have e12 : V0 0 3 = 4 := hV0.one 0 3 (by decide) (by decide) rfl
          refine pm_getf (v := 4) hC 0 fl_X11_24 rfl rfl (by decide) rfl e12 dX11_image_25 ?_
          refine pm_callV (ci := 7) (as := [(3, 4)]) (st := []) hC 15 fD_X7_copyFrom_15_4 lm_X11_335 li_X7_copyFrom (by decide) (by decide) rfl rfl rfl (by decide) rfl rfl (Nat.le_of_ble_eq_true rfl) ⟨Nat.le_refl _, Or.inl rfl⟩ dX11_image_28 ⟨rfl, hV0⟩ (fun r13 V14 hp15 => ?_)
          obtain ⟨rfl, hV16, hF17, hE18⟩ := hp15
          replace hT := hT.trans (pf_call_eq hE18)
          change pm_J X 31 [(0, (3, 0)), (1, (0, a1))] [] 118 V14
          have hF19 := pm_ff.tr (pm_ff.rf (cs := [16, 17, 18, 19, 20, 21, 22, 23, 24, 26, 27, 28, 29, 30, 31, 32, 33, 34, 36, 37, 38, 39, 40, 41, 42, 43, 44]) (fs := [(15, 0), (15, 1), (15, 6), (25, 0), (25, 1), (25, 6), (35, 0), (35, 1), (35, 6)]) (V := V0)) hF17 (by decide) (by decide)
          have e20 : V14 0 4 = 14 := by rw [hF17 0 4 (by decide) (by decide)]; exact e10
          have e21 : V14 0 3 = 4 := by rw [hF17 0 3 (by decide) (by decide)]; exact e12
          refine pm_aload_n hC 0 (by decide) dX11_image_31 rfl ?_
          refine pm_getf (v := 14) hC 0 fl_X11_28 rfl rfl (by decide) rfl e20 dX11_image_32 ?_
          refine pm_iload_n hC 1 dX11_image_35 rfl ?_
          rcases (show a1 = (0 : Int) ∨ a1 = (1 : Int) ∨ a1 = (2 : Int) by exact ow_79k_47 c8 hk) with hk | hk | hk
          · skip
            have e22 : V14 14 (a1 : Int).toNat = 15 := by rw [hk]; exact hV16.one 14 0 (by decide) (by decide) rfl
            replace hT := hT.trans (if_pos hk)
            refine pm_aaload (len := 3) (v := 15) hC 14 rfl rfl (by decide) ⟨by exact ow_79k_45 c8, by exact ow_79k_46 hk⟩ (by decide) e22 dX11_image_36 ?_
            refine pm_iconst (v := 1) hC dX11_image_37 ?_
            refine pm_putf hC 15 fl_X11_132 rfl rfl rfl (by decide) rfl (by show _ = (0 : Int) ∨ _ = (1 : Int); exact ow_79k_48) dX11_image_38 ?_
            refine pm_iconst (v := 1) hC dX11_image_41 ?_
            exact pm_iret hC hR (pm_narZ (by exact ow_79k_48)) ⟨1, rfl, ⟨by exact ow_79k_40, by exact ow_79k_49⟩, (hV16.put 15 0 (x := 1) (lo := 0) (hi := 1) rfl ⟨by decide, by decide⟩), (hF19.upf 15 0 1 rfl), hT⟩ dX11_image_42
          · skip
            have e23 : V14 14 (a1 : Int).toNat = 25 := by rw [hk]; exact hV16.one 14 1 (by decide) (by decide) rfl
            replace hT := hT.trans (if_neg (by exact ow_79k_50 hk))
            replace hT := hT.trans (if_pos hk)
            refine pm_aaload (len := 3) (v := 25) hC 14 rfl rfl (by decide) ⟨by exact ow_79k_51 hk, by exact ow_79k_52 hk⟩ (by decide) e23 dX11_image_36 ?_
            refine pm_iconst (v := 1) hC dX11_image_37 ?_
            refine pm_putf hC 25 fl_X11_132 rfl rfl rfl (by decide) rfl (by show _ = (0 : Int) ∨ _ = (1 : Int); exact ow_79k_48) dX11_image_38 ?_
            refine pm_iconst (v := 1) hC dX11_image_41 ?_
            exact pm_iret hC hR (pm_narZ (by exact ow_79k_48)) ⟨1, rfl, ⟨by exact ow_79k_40, by exact ow_79k_49⟩, (hV16.put 25 0 (x := 1) (lo := 0) (hi := 1) rfl ⟨by decide, by decide⟩), (hF19.upf 25 0 1 rfl), hT⟩ dX11_image_42
          · skip
            have e24 : V14 14 (a1 : Int).toNat = 35 := by rw [hk]; exact hV16.one 14 2 (by decide) (by decide) rfl
            replace hT := hT.trans (if_neg (by exact ow_79k_53 hk))
            replace hT := hT.trans (if_neg (by exact ow_79k_54 hk))
            refine pm_aaload (len := 3) (v := 35) hC 14 rfl rfl (by decide) ⟨by exact ow_79k_55 hk, by exact ow_79k_56 c9⟩ (by decide) e24 dX11_image_36 ?_
            refine pm_iconst (v := 1) hC dX11_image_37 ?_
            refine pm_putf hC 35 fl_X11_132 rfl rfl rfl (by decide) rfl (by show _ = (0 : Int) ∨ _ = (1 : Int); exact ow_79k_48) dX11_image_38 ?_
            refine pm_iconst (v := 1) hC dX11_image_41 ?_
            exact pm_iret hC hR (pm_narZ (by exact ow_79k_48)) ⟨1, rfl, ⟨by exact ow_79k_40, by exact ow_79k_49⟩, (hV16.put 35 0 (x := 1) (lo := 0) (hi := 1) rfl ⟨by decide, by decide⟩), (hF19.upf 35 0 1 rfl), hT⟩ dX11_image_42
        · skip
          have e25 : V0 14 (a1 : Int).toNat = 25 := by rw [hk]; exact hV0.one 14 1 (by decide) (by decide) rfl
          replace hT := hT.trans (if_neg (by exact ow_79k_50 hk))
          replace hT := hT.trans (if_pos hk)
          refine pm_aaload (len := 3) (v := 25) hC 14 rfl rfl (by decide) ⟨by exact ow_79k_51 hk, by exact ow_79k_52 hk⟩ (by decide) e25 dX11_image_23 ?_
          refine pm_aload_n hC 0 (by decide) dX11_image_24 rfl ?_
          have e26 : V0 0 3 = 4 := hV0.one 0 3 (by decide) (by decide) rfl
          refine pm_getf (v := 4) hC 0 fl_X11_24 rfl rfl (by decide) rfl e26 dX11_image_25 ?_
          refine pm_callV (ci := 7) (as := [(3, 4)]) (st := []) hC 25 fD_X7_copyFrom_25_4 lm_X11_335 li_X7_copyFrom (by decide) (by decide) rfl rfl rfl (by decide) rfl rfl (Nat.le_of_ble_eq_true rfl) ⟨Nat.le_refl _, Or.inl rfl⟩ dX11_image_28 ⟨rfl, hV0⟩ (fun r27 V28 hp29 => ?_)
          obtain ⟨rfl, hV30, hF31, hE32⟩ := hp29
          replace hT := hT.trans (pf_call_eq hE32)
          change pm_J X 31 [(0, (3, 0)), (1, (0, a1))] [] 118 V28
          have hF33 := pm_ff.tr (pm_ff.rf (cs := [16, 17, 18, 19, 20, 21, 22, 23, 24, 26, 27, 28, 29, 30, 31, 32, 33, 34, 36, 37, 38, 39, 40, 41, 42, 43, 44]) (fs := [(15, 0), (15, 1), (15, 6), (25, 0), (25, 1), (25, 6), (35, 0), (35, 1), (35, 6)]) (V := V0)) hF31 (by decide) (by decide)
          have e34 : V28 0 4 = 14 := by rw [hF31 0 4 (by decide) (by decide)]; exact e10
          have e35 : V28 0 3 = 4 := by rw [hF31 0 3 (by decide) (by decide)]; exact e26
          refine pm_aload_n hC 0 (by decide) dX11_image_31 rfl ?_
          refine pm_getf (v := 14) hC 0 fl_X11_28 rfl rfl (by decide) rfl e34 dX11_image_32 ?_
          refine pm_iload_n hC 1 dX11_image_35 rfl ?_
          rcases (show a1 = (0 : Int) ∨ a1 = (1 : Int) ∨ a1 = (2 : Int) by exact ow_79k_57 hk) with hk | hk | hk
          · skip
            have e36 : V28 14 (a1 : Int).toNat = 15 := by rw [hk]; exact hV30.one 14 0 (by decide) (by decide) rfl
            replace hT := hT.trans (if_pos hk)
            refine pm_aaload (len := 3) (v := 15) hC 14 rfl rfl (by decide) ⟨by exact ow_79k_45 c8, by exact ow_79k_46 hk⟩ (by decide) e36 dX11_image_36 ?_
            refine pm_iconst (v := 1) hC dX11_image_37 ?_
            refine pm_putf hC 15 fl_X11_132 rfl rfl rfl (by decide) rfl (by show _ = (0 : Int) ∨ _ = (1 : Int); exact ow_79k_48) dX11_image_38 ?_
            refine pm_iconst (v := 1) hC dX11_image_41 ?_
            exact pm_iret hC hR (pm_narZ (by exact ow_79k_48)) ⟨1, rfl, ⟨by exact ow_79k_40, by exact ow_79k_49⟩, (hV30.put 15 0 (x := 1) (lo := 0) (hi := 1) rfl ⟨by decide, by decide⟩), (hF33.upf 15 0 1 rfl), hT⟩ dX11_image_42
          · skip
            have e37 : V28 14 (a1 : Int).toNat = 25 := by rw [hk]; exact hV30.one 14 1 (by decide) (by decide) rfl
            replace hT := hT.trans (if_neg (by exact ow_79k_50 hk))
            replace hT := hT.trans (if_pos hk)
            refine pm_aaload (len := 3) (v := 25) hC 14 rfl rfl (by decide) ⟨by exact ow_79k_51 hk, by exact ow_79k_52 hk⟩ (by decide) e37 dX11_image_36 ?_
            refine pm_iconst (v := 1) hC dX11_image_37 ?_
            refine pm_putf hC 25 fl_X11_132 rfl rfl rfl (by decide) rfl (by show _ = (0 : Int) ∨ _ = (1 : Int); exact ow_79k_48) dX11_image_38 ?_
            refine pm_iconst (v := 1) hC dX11_image_41 ?_
            exact pm_iret hC hR (pm_narZ (by exact ow_79k_48)) ⟨1, rfl, ⟨by exact ow_79k_40, by exact ow_79k_49⟩, (hV30.put 25 0 (x := 1) (lo := 0) (hi := 1) rfl ⟨by decide, by decide⟩), (hF33.upf 25 0 1 rfl), hT⟩ dX11_image_42
          · skip
            have e38 : V28 14 (a1 : Int).toNat = 35 := by rw [hk]; exact hV30.one 14 2 (by decide) (by decide) rfl
            replace hT := hT.trans (if_neg (by exact ow_79k_53 hk))
            replace hT := hT.trans (if_neg (by exact ow_79k_54 hk))
            refine pm_aaload (len := 3) (v := 35) hC 14 rfl rfl (by decide) ⟨by exact ow_79k_55 hk, by exact ow_79k_56 c9⟩ (by decide) e38 dX11_image_36 ?_
            refine pm_iconst (v := 1) hC dX11_image_37 ?_
            refine pm_putf hC 35 fl_X11_132 rfl rfl rfl (by decide) rfl (by show _ = (0 : Int) ∨ _ = (1 : Int); exact ow_79k_48) dX11_image_38 ?_
            refine pm_iconst (v := 1) hC dX11_image_41 ?_
            exact pm_iret hC hR (pm_narZ (by exact ow_79k_48)) ⟨1, rfl, ⟨by exact ow_79k_40, by exact ow_79k_49⟩, (hV30.put 35 0 (x := 1) (lo := 0) (hi := 1) rfl ⟨by decide, by decide⟩), (hF33.upf 35 0 1 rfl), hT⟩ dX11_image_42
        · skip
          have e39 : V0 14 (a1 : Int).toNat = 35 := by rw [hk]; exact hV0.one 14 2 (by decide) (by decide) rfl
          replace hT := hT.trans (if_neg (by exact ow_79k_53 hk))
          replace hT := hT.trans (if_neg (by exact ow_79k_54 hk))
          refine pm_aaload (len := 3) (v := 35) hC 14 rfl rfl (by decide) ⟨by exact ow_79k_55 hk, by exact ow_79k_56 c9⟩ (by decide) e39 dX11_image_23 ?_
          refine pm_aload_n hC 0 (by decide) dX11_image_24 rfl ?_
          have e40 : V0 0 3 = 4 := hV0.one 0 3 (by decide) (by decide) rfl
          refine pm_getf (v := 4) hC 0 fl_X11_24 rfl rfl (by decide) rfl e40 dX11_image_25 ?_
          refine pm_callV (ci := 7) (as := [(3, 4)]) (st := []) hC 35 fD_X7_copyFrom_35_4 lm_X11_335 li_X7_copyFrom (by decide) (by decide) rfl rfl rfl (by decide) rfl rfl (Nat.le_of_ble_eq_true rfl) ⟨Nat.le_refl _, Or.inl rfl⟩ dX11_image_28 ⟨rfl, hV0⟩ (fun r41 V42 hp43 => ?_)
          obtain ⟨rfl, hV44, hF45, hE46⟩ := hp43
          replace hT := hT.trans (pf_call_eq hE46)
          change pm_J X 31 [(0, (3, 0)), (1, (0, a1))] [] 118 V42
          have hF47 := pm_ff.tr (pm_ff.rf (cs := [16, 17, 18, 19, 20, 21, 22, 23, 24, 26, 27, 28, 29, 30, 31, 32, 33, 34, 36, 37, 38, 39, 40, 41, 42, 43, 44]) (fs := [(15, 0), (15, 1), (15, 6), (25, 0), (25, 1), (25, 6), (35, 0), (35, 1), (35, 6)]) (V := V0)) hF45 (by decide) (by decide)
          have e48 : V42 0 4 = 14 := by rw [hF45 0 4 (by decide) (by decide)]; exact e10
          have e49 : V42 0 3 = 4 := by rw [hF45 0 3 (by decide) (by decide)]; exact e40
          refine pm_aload_n hC 0 (by decide) dX11_image_31 rfl ?_
          refine pm_getf (v := 14) hC 0 fl_X11_28 rfl rfl (by decide) rfl e48 dX11_image_32 ?_
          refine pm_iload_n hC 1 dX11_image_35 rfl ?_
          rcases (show a1 = (0 : Int) ∨ a1 = (1 : Int) ∨ a1 = (2 : Int) by exact ow_79k_58 c9 hk) with hk | hk | hk
          · skip
            have e50 : V42 14 (a1 : Int).toNat = 15 := by rw [hk]; exact hV44.one 14 0 (by decide) (by decide) rfl
            replace hT := hT.trans (if_pos hk)
            refine pm_aaload (len := 3) (v := 15) hC 14 rfl rfl (by decide) ⟨by exact ow_79k_45 c8, by exact ow_79k_46 hk⟩ (by decide) e50 dX11_image_36 ?_
            refine pm_iconst (v := 1) hC dX11_image_37 ?_
            refine pm_putf hC 15 fl_X11_132 rfl rfl rfl (by decide) rfl (by show _ = (0 : Int) ∨ _ = (1 : Int); exact ow_79k_48) dX11_image_38 ?_
            refine pm_iconst (v := 1) hC dX11_image_41 ?_
            exact pm_iret hC hR (pm_narZ (by exact ow_79k_48)) ⟨1, rfl, ⟨by exact ow_79k_40, by exact ow_79k_49⟩, (hV44.put 15 0 (x := 1) (lo := 0) (hi := 1) rfl ⟨by decide, by decide⟩), (hF47.upf 15 0 1 rfl), hT⟩ dX11_image_42
          · skip
            have e51 : V42 14 (a1 : Int).toNat = 25 := by rw [hk]; exact hV44.one 14 1 (by decide) (by decide) rfl
            replace hT := hT.trans (if_neg (by exact ow_79k_50 hk))
            replace hT := hT.trans (if_pos hk)
            refine pm_aaload (len := 3) (v := 25) hC 14 rfl rfl (by decide) ⟨by exact ow_79k_51 hk, by exact ow_79k_52 hk⟩ (by decide) e51 dX11_image_36 ?_
            refine pm_iconst (v := 1) hC dX11_image_37 ?_
            refine pm_putf hC 25 fl_X11_132 rfl rfl rfl (by decide) rfl (by show _ = (0 : Int) ∨ _ = (1 : Int); exact ow_79k_48) dX11_image_38 ?_
            refine pm_iconst (v := 1) hC dX11_image_41 ?_
            exact pm_iret hC hR (pm_narZ (by exact ow_79k_48)) ⟨1, rfl, ⟨by exact ow_79k_40, by exact ow_79k_49⟩, (hV44.put 25 0 (x := 1) (lo := 0) (hi := 1) rfl ⟨by decide, by decide⟩), (hF47.upf 25 0 1 rfl), hT⟩ dX11_image_42
          · skip
            have e52 : V42 14 (a1 : Int).toNat = 35 := by rw [hk]; exact hV44.one 14 2 (by decide) (by decide) rfl
            replace hT := hT.trans (if_neg (by exact ow_79k_53 hk))
            replace hT := hT.trans (if_neg (by exact ow_79k_54 hk))
            refine pm_aaload (len := 3) (v := 35) hC 14 rfl rfl (by decide) ⟨by exact ow_79k_55 hk, by exact ow_79k_56 c9⟩ (by decide) e52 dX11_image_36 ?_
            refine pm_iconst (v := 1) hC dX11_image_37 ?_
            refine pm_putf hC 35 fl_X11_132 rfl rfl rfl (by decide) rfl (by show _ = (0 : Int) ∨ _ = (1 : Int); exact ow_79k_48) dX11_image_38 ?_
            refine pm_iconst (v := 1) hC dX11_image_41 ?_
            exact pm_iret hC hR (pm_narZ (by exact ow_79k_48)) ⟨1, rfl, ⟨by exact ow_79k_40, by exact ow_79k_49⟩, (hV44.put 35 0 (x := 1) (lo := 0) (hi := 1) rfl ⟨by decide, by decide⟩), (hF47.upf 35 0 1 rfl), hT⟩ dX11_image_42
      · skip
        replace hT := hT.trans (if_neg (Int.not_lt.mpr c9))
        refine pm_iconst (v := 0) hC dX11_image_16 ?_
        exact pm_iret hC hR (pm_narZ (by exact ow_79k_38)) ⟨0, rfl, ⟨by exact ow_79k_39, by exact ow_79k_40⟩, hV0, (pm_ff.rf (cs := [16, 17, 18, 19, 20, 21, 22, 23, 24, 26, 27, 28, 29, 30, 31, 32, 33, 34, 36, 37, 38, 39, 40, 41, 42, 43, 44]) (fs := [(15, 0), (15, 1), (15, 6), (25, 0), (25, 1), (25, 6), (35, 0), (35, 1), (35, 6)]) (V := V0)), hT⟩ dX11_image_17
set_option maxHeartbeats 4000000 in
set_option maxRecDepth 100000 in
theorem fD_X7_copyFrom_4_15  : pm_K 1 yX7_copyFrom cX7_copyFrom 3 none (fun av V => av = [(3, 4), (3, 15)] ∧ pm_ok 0 90 V) (fun _ V r V' => r = none ∧ pm_ok 0 90 V' ∧ pm_ff [5, 6, 7, 8, 9, 10, 11, 12, 13] [(4, 1), (4, 6)] V V' ∧ F_X7_copyFrom 4 15 V = (0, V')) := by
  refine pm_MT.of (by decide) ⟨Nat.le_refl _, by decide⟩ (fun av V h => by rw [h.1]; exact (by decide : pm_words [(3, 0), (3, 0)] ≤ 3)) ?_
  rintro X av V0 hC - hR ⟨rfl, hV0⟩
  change pm_J X 0 [(0, (3, 4)), (1, (3, 15))] [] 118 V0
  have hT := F_X7_copyFrom_eq 4 15 V0
  refine pm_aload_n hC 0 (by decide) dX7_copyFrom_0 rfl ?_
  refine pm_aload_n hC 1 (by decide) dX7_copyFrom_1 rfl ?_
  obtain ⟨y1, e2⟩ : ∃ y, V0 15 1 = y := ⟨_, rfl⟩
  have b3 := hV0.get 15 1 (lo := 0) (hi := 10) (by decide) (by decide) rfl
  rw [e2] at b3
  replace hT := hT.trans (pf_let_eq e2)
  refine pm_getf (v := y1) hC 15 fl_X7_15 rfl rfl (by decide) rfl e2 dX7_copyFrom_2 ?_
  refine pm_putf hC 4 fl_X7_15 rfl rfl rfl (by decide) rfl trivial dX7_copyFrom_5 ?_
  refine pm_iconst (v := 0) hC dX7_copyFrom_8 ?_
  refine pm_istore_n (lv' := [(2, (0, 0)), (0, (3, 4)), (1, (3, 15))]) hC dX7_copyFrom_9 (by decide) rfl ?_
  have hV6 := (hV0.put 4 1 (x := y1) (lo := 0) (hi := 10) rfl ⟨by exact ow_79k_0 b3, by exact ow_79k_1 b3⟩)
  have hF7 := ((pm_ff.rf (cs := [5, 6, 7, 8, 9, 10, 11, 12, 13]) (fs := [(4, 1), (4, 6)]) (V := V0)).upf 4 1 y1 rfl)
  obtain ⟨V4, hv5⟩ : ∃ V, V = (pm_up V0 4 1 y1) := ⟨_, rfl⟩
  rw [← hv5] at hV6 hF7
  rw [← hv5]
  replace hT := hT.trans (pf_let_eq hv5.symm)
  have e8 : V4 15 1 = y1 := by rw [hv5]; exact e2
  have e9 : V4 4 1 = y1 := by rw [hv5]; rfl
  obtain ⟨B17, hB18, hT⟩ := pf_loop hT
  have L20 : ∀ (N22 : Nat) (x10 : Int) (V12 : pm_M), (0 ≤ x10 ∧ x10 ≤ 16) → pm_ok 0 90 V12 → pm_ff [5, 6, 7, 8, 9, 10, 11, 12, 13] [(4, 1), (4, 6)] V0 V12 → V12 15 1 = y1 → V12 4 1 = y1 → F_X7_copyFrom 4 15 V0 = pf_val ((0 : Int), V0) B17 (x10, V12) → (Int.toNat (16 - x10)) = N22 → pm_J X 10 [(0, (3, 4)), (1, (3, 15)), (2, (0, x10))] [] 118 V12 := by
    intro N22
    induction N22 using Nat.strongRecOn with
    | _ N22 ih23 =>
    intro x10 V12 b11 hV13 hF14 e15 e16 hT hm21
    have hb19 := congrFun hB18 (x10, V12)
    refine pm_iload_n hC 2 dX7_copyFrom_10 rfl ?_
    refine pm_aload_n hC 0 (by decide) dX7_copyFrom_11 rfl ?_
    refine pm_getf (v := y1) hC 4 fl_X7_15 rfl rfl (by decide) rfl e16 dX7_copyFrom_12 ?_
    refine pm_icmp_ge (tgt := 72) hC ⟨by exact ow_79k_2 b11, by exact ow_79k_3 b11⟩ ⟨by exact ow_79k_4 b3, by exact ow_79k_5 b3⟩ dX7_copyFrom_15 (by decide) (fun c24 => ?_) (fun c24 => ?_)
    · skip
      replace hb19 := hb19.trans (if_pos c24)
      refine pm_aload_n hC 0 (by decide) dX7_copyFrom_72 rfl ?_
      refine pm_aload_n hC 1 (by decide) dX7_copyFrom_73 rfl ?_
      obtain ⟨y25, e26⟩ : ∃ y, V12 15 6 = y := ⟨_, rfl⟩
      have b27 := hV13.get 15 6 (lo := 0) (hi := 60) (by decide) (by decide) rfl
      rw [e26] at b27
      replace hb19 := hb19.trans (pf_let_eq e26)
      refine pm_getf (v := y25) hC 15 fl_X7_32 rfl rfl (by decide) rfl e26 dX7_copyFrom_74 ?_
      refine pm_putf hC 4 fl_X7_32 rfl rfl rfl (by decide) rfl trivial dX7_copyFrom_77 ?_
      refine pm_iconst (v := 0) hC dX7_copyFrom_80 ?_
      refine pm_istore_n (lv' := [(2, (0, 0)), (0, (3, 4)), (1, (3, 15))]) hC dX7_copyFrom_81 (by decide) rfl ?_
      have hV30 := (hV13.put 4 6 (x := y25) (lo := 0) (hi := 60) rfl ⟨by exact ow_79k_6 b27, by exact ow_79k_7 b27⟩)
      have hF31 := (hF14.upf 4 6 y25 rfl)
      obtain ⟨V28, hv29⟩ : ∃ V, V = (pm_up V12 4 6 y25) := ⟨_, rfl⟩
      rw [← hv29] at hV30 hF31
      rw [← hv29]
      replace hb19 := hb19.trans (pf_let_eq hv29.symm)
      have e32 : V28 15 1 = y1 := by rw [hv29]; exact e15
      have e33 : V28 4 1 = y1 := by rw [hv29]; exact e16
      have e34 : V28 15 6 = y25 := by rw [hv29]; exact e26
      have e35 : V28 4 6 = y25 := by rw [hv29]; rfl
      obtain ⟨B45, hB46, hb19⟩ := pf_loop hb19
      have L48 : ∀ (N50 : Nat) (x36 : Int) (V38 : pm_M), (0 ≤ x36 ∧ x36 ≤ 60) → pm_ok 0 90 V38 → pm_ff [5, 6, 7, 8, 9, 10, 11, 12, 13] [(4, 1), (4, 6)] V0 V38 → V38 15 1 = y1 → V38 4 1 = y1 → V38 15 6 = y25 → V38 4 6 = y25 → B17 (x10, V12) = pf_val (.inr ((0 : Int), V0)) B45 (x36, V38) → (Int.toNat (60 - x36)) = N50 → pm_J X 82 [(0, (3, 4)), (1, (3, 15)), (2, (0, x36))] [] 118 V38 := by
        intro N50
        induction N50 using Nat.strongRecOn with
        | _ N50 ih51 =>
        intro x36 V38 b37 hV39 hF40 e41 e42 e43 e44 hb19 hm49
        have hb47 := congrFun hB46 (x36, V38)
        refine pm_iload_n hC 2 dX7_copyFrom_82 rfl ?_
        refine pm_aload_n hC 0 (by decide) dX7_copyFrom_83 rfl ?_
        refine pm_getf (v := y25) hC 4 fl_X7_32 rfl rfl (by decide) rfl e44 dX7_copyFrom_84 ?_
        refine pm_icmp_ge (tgt := 156) hC ⟨by exact ow_79k_8 b37, by exact ow_79k_9 b37⟩ ⟨by exact ow_79k_8 b27, by exact ow_79k_9 b27⟩ dX7_copyFrom_87 (by decide) (fun c52 => ?_) (fun c52 => ?_)
        · skip
          replace hb47 := hb47.trans (if_pos c52)
          replace hb19 := hb19.trans (pf_val_inr hb47)
          replace hT := hT.trans (pf_val_inr hb19)
          exact pm_vret hC hR ⟨rfl, hV39, hF40, hT⟩ dX7_copyFrom_156
        · skip
          replace hb47 := hb47.trans (if_neg (Int.not_le.mpr c52))
          refine pm_aload_n hC 0 (by decide) dX7_copyFrom_90 rfl ?_
          have e53 : V38 4 7 = 9 := hV39.one 4 7 (by decide) (by decide) rfl
          refine pm_getf (v := 9) hC 4 fl_X7_35 rfl rfl (by decide) rfl e53 dX7_copyFrom_91 ?_
          refine pm_iload_n hC 2 dX7_copyFrom_94 rfl ?_
          refine pm_aload_n hC 1 (by decide) dX7_copyFrom_95 rfl ?_
          have e54 : V38 15 7 = 20 := hV39.one 15 7 (by decide) (by decide) rfl
          refine pm_getf (v := 20) hC 15 fl_X7_35 rfl rfl (by decide) rfl e54 dX7_copyFrom_96 ?_
          refine pm_iload_n hC 2 dX7_copyFrom_99 rfl ?_
          obtain ⟨y55, e56⟩ : ∃ y, V38 20 (x36 : Int).toNat = y := ⟨_, rfl⟩
          replace hb47 := hb47.trans (pf_let_eq e56)
          have b57 := hV39.get1 20 (x36 : Int).toNat (lo := 0) (hi := 999) (by decide) (show _ < 60 by exact ow_79k_10 b27 c52) rfl
          rw [e56] at b57
          refine pm_iaload (len := 60) (v := y55) hC 20 rfl rfl (by decide) ⟨by exact ow_79k_6 b37, by exact ow_79k_11 b27 c52⟩ (by decide) e56 dX7_copyFrom_100 ?_
          refine pm_iastore (len := 60) hC 9 rfl rfl (by decide) ⟨by exact ow_79k_6 b37, by exact ow_79k_11 b27 c52⟩ (by decide) dX7_copyFrom_101 ?_
          refine pm_aload_n hC 0 (by decide) dX7_copyFrom_102 rfl ?_
          have e58 : V38 4 8 = 10 := hV39.one 4 8 (by decide) (by decide) rfl
          refine pm_getf (v := 10) hC 4 fl_X7_38 rfl rfl (by decide) rfl e58 dX7_copyFrom_103 ?_
          refine pm_iload_n hC 2 dX7_copyFrom_106 rfl ?_
          refine pm_aload_n hC 1 (by decide) dX7_copyFrom_107 rfl ?_
          have e59 : V38 15 8 = 21 := hV39.one 15 8 (by decide) (by decide) rfl
          refine pm_getf (v := 21) hC 15 fl_X7_38 rfl rfl (by decide) rfl e59 dX7_copyFrom_108 ?_
          refine pm_iload_n hC 2 dX7_copyFrom_111 rfl ?_
          obtain ⟨y60, e61⟩ : ∃ y, V38 21 (x36 : Int).toNat = y := ⟨_, rfl⟩
          replace hb47 := hb47.trans (pf_let_eq e61)
          have b62 := hV39.get 21 (x36 : Int).toNat (lo := 0) (hi := 99) (by decide) (show _ < 60 by exact ow_79k_10 b27 c52) rfl
          rw [e61] at b62
          refine pm_iaload (len := 60) (v := y60) hC 21 rfl rfl (by decide) ⟨by exact ow_79k_6 b37, by exact ow_79k_11 b27 c52⟩ (by decide) e61 dX7_copyFrom_112 ?_
          refine pm_iastore (len := 60) hC 10 rfl rfl (by decide) ⟨by exact ow_79k_6 b37, by exact ow_79k_11 b27 c52⟩ (by decide) dX7_copyFrom_113 ?_
          refine pm_aload_n hC 0 (by decide) dX7_copyFrom_114 rfl ?_
          have e63 : V38 4 9 = 11 := hV39.one 4 9 (by decide) (by decide) rfl
          refine pm_getf (v := 11) hC 4 fl_X7_41 rfl rfl (by decide) rfl e63 dX7_copyFrom_115 ?_
          refine pm_iload_n hC 2 dX7_copyFrom_118 rfl ?_
          refine pm_aload_n hC 1 (by decide) dX7_copyFrom_119 rfl ?_
          have e64 : V38 15 9 = 22 := hV39.one 15 9 (by decide) (by decide) rfl
          refine pm_getf (v := 22) hC 15 fl_X7_41 rfl rfl (by decide) rfl e64 dX7_copyFrom_120 ?_
          refine pm_iload_n hC 2 dX7_copyFrom_123 rfl ?_
          obtain ⟨y65, e66⟩ : ∃ y, V38 22 (x36 : Int).toNat = y := ⟨_, rfl⟩
          replace hb47 := hb47.trans (pf_let_eq e66)
          have b67 := hV39.get 22 (x36 : Int).toNat (lo := (-99)) (hi := 99) (by decide) (show _ < 60 by exact ow_79k_10 b27 c52) rfl
          rw [e66] at b67
          refine pm_iaload (len := 60) (v := y65) hC 22 rfl rfl (by decide) ⟨by exact ow_79k_6 b37, by exact ow_79k_11 b27 c52⟩ (by decide) e66 dX7_copyFrom_124 ?_
          refine pm_iastore (len := 60) hC 11 rfl rfl (by decide) ⟨by exact ow_79k_6 b37, by exact ow_79k_11 b27 c52⟩ (by decide) dX7_copyFrom_125 ?_
          refine pm_aload_n hC 0 (by decide) dX7_copyFrom_126 rfl ?_
          have e68 : V38 4 10 = 12 := hV39.one 4 10 (by decide) (by decide) rfl
          refine pm_getf (v := 12) hC 4 fl_X7_44 rfl rfl (by decide) rfl e68 dX7_copyFrom_127 ?_
          refine pm_iload_n hC 2 dX7_copyFrom_130 rfl ?_
          refine pm_aload_n hC 1 (by decide) dX7_copyFrom_131 rfl ?_
          have e69 : V38 15 10 = 23 := hV39.one 15 10 (by decide) (by decide) rfl
          refine pm_getf (v := 23) hC 15 fl_X7_44 rfl rfl (by decide) rfl e69 dX7_copyFrom_132 ?_
          refine pm_iload_n hC 2 dX7_copyFrom_135 rfl ?_
          obtain ⟨y70, e71⟩ : ∃ y, V38 23 (x36 : Int).toNat = y := ⟨_, rfl⟩
          replace hb47 := hb47.trans (pf_let_eq e71)
          have b72 := hV39.get 23 (x36 : Int).toNat (lo := 0) (hi := 8) (by decide) (show _ < 60 by exact ow_79k_10 b27 c52) rfl
          rw [e71] at b72
          refine pm_iaload (len := 60) (v := y70) hC 23 rfl rfl (by decide) ⟨by exact ow_79k_6 b37, by exact ow_79k_11 b27 c52⟩ (by decide) e71 dX7_copyFrom_136 ?_
          refine pm_iastore (len := 60) hC 12 rfl rfl (by decide) ⟨by exact ow_79k_6 b37, by exact ow_79k_11 b27 c52⟩ (by decide) dX7_copyFrom_137 ?_
          refine pm_aload_n hC 0 (by decide) dX7_copyFrom_138 rfl ?_
          have e73 : V38 4 11 = 13 := hV39.one 4 11 (by decide) (by decide) rfl
          refine pm_getf (v := 13) hC 4 fl_X7_47 rfl rfl (by decide) rfl e73 dX7_copyFrom_139 ?_
          refine pm_iload_n hC 2 dX7_copyFrom_142 rfl ?_
          refine pm_aload_n hC 1 (by decide) dX7_copyFrom_143 rfl ?_
          have e74 : V38 15 11 = 24 := hV39.one 15 11 (by decide) (by decide) rfl
          refine pm_getf (v := 24) hC 15 fl_X7_47 rfl rfl (by decide) rfl e74 dX7_copyFrom_144 ?_
          refine pm_iload_n hC 2 dX7_copyFrom_147 rfl ?_
          obtain ⟨y75, e76⟩ : ∃ y, V38 24 (x36 : Int).toNat = y := ⟨_, rfl⟩
          replace hb47 := hb47.trans (pf_let_eq e76)
          have b77 := hV39.get 24 (x36 : Int).toNat (lo := 0) (hi := 1) (by decide) (show _ < 60 by exact ow_79k_10 b27 c52) rfl
          rw [e76] at b77
          refine pm_zaload (len := 60) (v := y75) hC 24 rfl rfl (by decide) ⟨by exact ow_79k_6 b37, by exact ow_79k_11 b27 c52⟩ (by decide) e76 dX7_copyFrom_148 ?_
          refine pm_zastore (len := 60) hC 13 rfl rfl (by decide) ⟨by exact ow_79k_6 b37, by exact ow_79k_11 b27 c52⟩ (by decide) (by exact ow_79k_12 b77) dX7_copyFrom_149 ?_
          obtain ⟨x78, ei79⟩ : ∃ y : Int, x36 + 1 = y := ⟨_, rfl⟩
          replace hb47 := hb47.trans (pf_let_eq ei79)
          refine pm_iinc (y := x78) (lv' := [(2, (0, x78)), (0, (3, 4)), (1, (3, 15))]) hC 2 dX7_copyFrom_150 (by decide) rfl ei79 rfl ?_
          refine pm_goto (tgt := 82) hC dX7_copyFrom_153 (by decide) ?_
          refine pm_lvsub [1, 2, 0] (lv' := [(0, (3, 4)), (1, (3, 15)), (2, (0, x78))]) rfl ?_
          exact ih51 _ (by exact ow_79k_13 b27 hm49 c52 ei79) x78 (pm_up (pm_up (pm_up (pm_up (pm_up V38 9 (x36 : Int).toNat y55) 10 (x36 : Int).toNat y60) 11 (x36 : Int).toNat y65) 12 (x36 : Int).toNat y70) 13 (x36 : Int).toNat y75) ⟨by exact ow_79k_14 b37 ei79, by exact ow_79k_15 b27 c52 ei79⟩ (((((hV39.put1 9 (x36 : Int).toNat (x := y55) (lo := 0) (hi := 999) rfl (by exact ow_79k_16 b57)).put 10 (x36 : Int).toNat (x := y60) (lo := 0) (hi := 99) rfl ⟨by exact ow_79k_17 b62, by exact ow_79k_18 b62⟩).put 11 (x36 : Int).toNat (x := y65) (lo := (-99)) (hi := 99) rfl ⟨by exact ow_79k_19 b67, by exact ow_79k_20 b67⟩).put 12 (x36 : Int).toNat (x := y70) (lo := 0) (hi := 8) rfl ⟨by exact ow_79k_21 b72, by exact ow_79k_22 b72⟩).put 13 (x36 : Int).toNat (x := y75) (lo := 0) (hi := 1) rfl ⟨by exact ow_79k_23 b77, by exact ow_79k_24 b77⟩) (((((hF40.upa 9 (x36 : Int).toNat y55 rfl).upa 10 (x36 : Int).toNat y60 rfl).upa 11 (x36 : Int).toNat y65 rfl).upa 12 (x36 : Int).toNat y70 rfl).upa 13 (x36 : Int).toNat y75 rfl) e41 e42 e43 e44 (hb19.trans (pf_val_inl hb47)) rfl
      refine pm_lvsub [1, 2, 0] (lv' := [(0, (3, 4)), (1, (3, 15)), (2, (0, 0))]) rfl ?_
      exact L48 _ 0 V28 ⟨by decide, by decide⟩ hV30 hF31 e32 e33 e34 e35 hb19 rfl
    · skip
      replace hb19 := hb19.trans (if_neg (Int.not_le.mpr c24))
      refine pm_aload_n hC 0 (by decide) dX7_copyFrom_18 rfl ?_
      have e80 : V12 4 2 = 5 := hV13.one 4 2 (by decide) (by decide) rfl
      refine pm_getf (v := 5) hC 4 fl_X7_19 rfl rfl (by decide) rfl e80 dX7_copyFrom_19 ?_
      refine pm_iload_n hC 2 dX7_copyFrom_22 rfl ?_
      refine pm_aload_n hC 1 (by decide) dX7_copyFrom_23 rfl ?_
      have e81 : V12 15 2 = 16 := hV13.one 15 2 (by decide) (by decide) rfl
      refine pm_getf (v := 16) hC 15 fl_X7_19 rfl rfl (by decide) rfl e81 dX7_copyFrom_24 ?_
      refine pm_iload_n hC 2 dX7_copyFrom_27 rfl ?_
      obtain ⟨y82, e83⟩ : ∃ y, V12 16 (x10 : Int).toNat = y := ⟨_, rfl⟩
      replace hb19 := hb19.trans (pf_let_eq e83)
      have b84 := hV13.get 16 (x10 : Int).toNat (lo := (-30)) (hi := 30) (by decide) (show _ < 10 by exact ow_79k_25 b3 c24) rfl
      rw [e83] at b84
      refine pm_iaload (len := 10) (v := y82) hC 16 rfl rfl (by decide) ⟨by exact ow_79k_26 b11, by exact ow_79k_27 b3 c24⟩ (by decide) e83 dX7_copyFrom_28 ?_
      refine pm_iastore (len := 10) hC 5 rfl rfl (by decide) ⟨by exact ow_79k_26 b11, by exact ow_79k_27 b3 c24⟩ (by decide) dX7_copyFrom_29 ?_
      refine pm_aload_n hC 0 (by decide) dX7_copyFrom_30 rfl ?_
      have e85 : V12 4 3 = 6 := hV13.one 4 3 (by decide) (by decide) rfl
      refine pm_getf (v := 6) hC 4 fl_X7_23 rfl rfl (by decide) rfl e85 dX7_copyFrom_31 ?_
      refine pm_iload_n hC 2 dX7_copyFrom_34 rfl ?_
      refine pm_aload_n hC 1 (by decide) dX7_copyFrom_35 rfl ?_
      have e86 : V12 15 3 = 17 := hV13.one 15 3 (by decide) (by decide) rfl
      refine pm_getf (v := 17) hC 15 fl_X7_23 rfl rfl (by decide) rfl e86 dX7_copyFrom_36 ?_
      refine pm_iload_n hC 2 dX7_copyFrom_39 rfl ?_
      obtain ⟨y87, e88⟩ : ∃ y, V12 17 (x10 : Int).toNat = y := ⟨_, rfl⟩
      replace hb19 := hb19.trans (pf_let_eq e88)
      have b89 := hV13.get 17 (x10 : Int).toNat (lo := (-30)) (hi := 30) (by decide) (show _ < 10 by exact ow_79k_25 b3 c24) rfl
      rw [e88] at b89
      refine pm_iaload (len := 10) (v := y87) hC 17 rfl rfl (by decide) ⟨by exact ow_79k_26 b11, by exact ow_79k_27 b3 c24⟩ (by decide) e88 dX7_copyFrom_40 ?_
      refine pm_iastore (len := 10) hC 6 rfl rfl (by decide) ⟨by exact ow_79k_26 b11, by exact ow_79k_27 b3 c24⟩ (by decide) dX7_copyFrom_41 ?_
      refine pm_aload_n hC 0 (by decide) dX7_copyFrom_42 rfl ?_
      have e90 : V12 4 4 = 7 := hV13.one 4 4 (by decide) (by decide) rfl
      refine pm_getf (v := 7) hC 4 fl_X7_26 rfl rfl (by decide) rfl e90 dX7_copyFrom_43 ?_
      refine pm_iload_n hC 2 dX7_copyFrom_46 rfl ?_
      refine pm_aload_n hC 1 (by decide) dX7_copyFrom_47 rfl ?_
      have e91 : V12 15 4 = 18 := hV13.one 15 4 (by decide) (by decide) rfl
      refine pm_getf (v := 18) hC 15 fl_X7_26 rfl rfl (by decide) rfl e91 dX7_copyFrom_48 ?_
      refine pm_iload_n hC 2 dX7_copyFrom_51 rfl ?_
      obtain ⟨y92, e93⟩ : ∃ y, V12 18 (x10 : Int).toNat = y := ⟨_, rfl⟩
      replace hb19 := hb19.trans (pf_let_eq e93)
      have b94 := hV13.get 18 (x10 : Int).toNat (lo := 0) (hi := 16) (by decide) (show _ < 10 by exact ow_79k_25 b3 c24) rfl
      rw [e93] at b94
      refine pm_iaload (len := 10) (v := y92) hC 18 rfl rfl (by decide) ⟨by exact ow_79k_26 b11, by exact ow_79k_27 b3 c24⟩ (by decide) e93 dX7_copyFrom_52 ?_
      refine pm_iastore (len := 10) hC 7 rfl rfl (by decide) ⟨by exact ow_79k_26 b11, by exact ow_79k_27 b3 c24⟩ (by decide) dX7_copyFrom_53 ?_
      refine pm_aload_n hC 0 (by decide) dX7_copyFrom_54 rfl ?_
      have e95 : V12 4 5 = 8 := hV13.one 4 5 (by decide) (by decide) rfl
      refine pm_getf (v := 8) hC 4 fl_X7_29 rfl rfl (by decide) rfl e95 dX7_copyFrom_55 ?_
      refine pm_iload_n hC 2 dX7_copyFrom_58 rfl ?_
      refine pm_aload_n hC 1 (by decide) dX7_copyFrom_59 rfl ?_
      have e96 : V12 15 5 = 19 := hV13.one 15 5 (by decide) (by decide) rfl
      refine pm_getf (v := 19) hC 15 fl_X7_29 rfl rfl (by decide) rfl e96 dX7_copyFrom_60 ?_
      refine pm_iload_n hC 2 dX7_copyFrom_63 rfl ?_
      obtain ⟨y97, e98⟩ : ∃ y, V12 19 (x10 : Int).toNat = y := ⟨_, rfl⟩
      replace hb19 := hb19.trans (pf_let_eq e98)
      have b99 := hV13.get 19 (x10 : Int).toNat (lo := 0) (hi := 3) (by decide) (show _ < 10 by exact ow_79k_25 b3 c24) rfl
      rw [e98] at b99
      refine pm_iaload (len := 10) (v := y97) hC 19 rfl rfl (by decide) ⟨by exact ow_79k_26 b11, by exact ow_79k_27 b3 c24⟩ (by decide) e98 dX7_copyFrom_64 ?_
      refine pm_iastore (len := 10) hC 8 rfl rfl (by decide) ⟨by exact ow_79k_26 b11, by exact ow_79k_27 b3 c24⟩ (by decide) dX7_copyFrom_65 ?_
      obtain ⟨x100, ei101⟩ : ∃ y : Int, x10 + 1 = y := ⟨_, rfl⟩
      replace hb19 := hb19.trans (pf_let_eq ei101)
      refine pm_iinc (y := x100) (lv' := [(2, (0, x100)), (0, (3, 4)), (1, (3, 15))]) hC 2 dX7_copyFrom_66 (by decide) rfl ei101 rfl ?_
      refine pm_goto (tgt := 10) hC dX7_copyFrom_69 (by decide) ?_
      refine pm_lvsub [1, 2, 0] (lv' := [(0, (3, 4)), (1, (3, 15)), (2, (0, x100))]) rfl ?_
      exact ih23 _ (by exact ow_79k_28 b3 hm21 c24 ei101) x100 (pm_up (pm_up (pm_up (pm_up V12 5 (x10 : Int).toNat y82) 6 (x10 : Int).toNat y87) 7 (x10 : Int).toNat y92) 8 (x10 : Int).toNat y97) ⟨by exact ow_79k_29 b11 ei101, by exact ow_79k_30 b3 c24 ei101⟩ ((((hV13.put 5 (x10 : Int).toNat (x := y82) (lo := (-30)) (hi := 30) rfl ⟨by exact ow_79k_31 b84, by exact ow_79k_32 b84⟩).put 6 (x10 : Int).toNat (x := y87) (lo := (-30)) (hi := 30) rfl ⟨by exact ow_79k_31 b89, by exact ow_79k_32 b89⟩).put 7 (x10 : Int).toNat (x := y92) (lo := 0) (hi := 16) rfl ⟨by exact ow_79k_26 b94, by exact ow_79k_33 b94⟩).put 8 (x10 : Int).toNat (x := y97) (lo := 0) (hi := 3) rfl ⟨by exact ow_79k_34 b99, by exact ow_79k_35 b99⟩) ((((hF14.upa 5 (x10 : Int).toNat y82 rfl).upa 6 (x10 : Int).toNat y87 rfl).upa 7 (x10 : Int).toNat y92 rfl).upa 8 (x10 : Int).toNat y97 rfl) e15 e16 (hT.trans (pf_val_inl hb19)) rfl
  refine pm_lvsub [1, 2, 0] (lv' := [(0, (3, 4)), (1, (3, 15)), (2, (0, 0))]) rfl ?_
  exact L20 _ 0 V4 ⟨by decide, by decide⟩ hV6 hF7 e8 e9 hT rfl
set_option maxHeartbeats 4000000 in
set_option maxRecDepth 100000 in
theorem fD_X7_copyFrom_4_25  : pm_K 1 yX7_copyFrom cX7_copyFrom 3 none (fun av V => av = [(3, 4), (3, 25)] ∧ pm_ok 0 90 V) (fun _ V r V' => r = none ∧ pm_ok 0 90 V' ∧ pm_ff [5, 6, 7, 8, 9, 10, 11, 12, 13] [(4, 1), (4, 6)] V V' ∧ F_X7_copyFrom 4 25 V = (0, V')) := by
  refine pm_MT.of (by decide) ⟨Nat.le_refl _, by decide⟩ (fun av V h => by rw [h.1]; exact (by decide : pm_words [(3, 0), (3, 0)] ≤ 3)) ?_
  rintro X av V0 hC - hR ⟨rfl, hV0⟩
  change pm_J X 0 [(0, (3, 4)), (1, (3, 25))] [] 118 V0
  have hT := F_X7_copyFrom_eq 4 25 V0
  refine pm_aload_n hC 0 (by decide) dX7_copyFrom_0 rfl ?_
  refine pm_aload_n hC 1 (by decide) dX7_copyFrom_1 rfl ?_
  obtain ⟨y1, e2⟩ : ∃ y, V0 25 1 = y := ⟨_, rfl⟩
  have b3 := hV0.get 25 1 (lo := 0) (hi := 10) (by decide) (by decide) rfl
  rw [e2] at b3
  replace hT := hT.trans (pf_let_eq e2)
  refine pm_getf (v := y1) hC 25 fl_X7_15 rfl rfl (by decide) rfl e2 dX7_copyFrom_2 ?_
  refine pm_putf hC 4 fl_X7_15 rfl rfl rfl (by decide) rfl trivial dX7_copyFrom_5 ?_
  refine pm_iconst (v := 0) hC dX7_copyFrom_8 ?_
  refine pm_istore_n (lv' := [(2, (0, 0)), (0, (3, 4)), (1, (3, 25))]) hC dX7_copyFrom_9 (by decide) rfl ?_
  have hV6 := (hV0.put 4 1 (x := y1) (lo := 0) (hi := 10) rfl ⟨by exact ow_79k_0 b3, by exact ow_79k_1 b3⟩)
  have hF7 := ((pm_ff.rf (cs := [5, 6, 7, 8, 9, 10, 11, 12, 13]) (fs := [(4, 1), (4, 6)]) (V := V0)).upf 4 1 y1 rfl)
  obtain ⟨V4, hv5⟩ : ∃ V, V = (pm_up V0 4 1 y1) := ⟨_, rfl⟩
  rw [← hv5] at hV6 hF7
  rw [← hv5]
  replace hT := hT.trans (pf_let_eq hv5.symm)
  have e8 : V4 25 1 = y1 := by rw [hv5]; exact e2
  have e9 : V4 4 1 = y1 := by rw [hv5]; rfl
  obtain ⟨B17, hB18, hT⟩ := pf_loop hT
  have L20 : ∀ (N22 : Nat) (x10 : Int) (V12 : pm_M), (0 ≤ x10 ∧ x10 ≤ 16) → pm_ok 0 90 V12 → pm_ff [5, 6, 7, 8, 9, 10, 11, 12, 13] [(4, 1), (4, 6)] V0 V12 → V12 25 1 = y1 → V12 4 1 = y1 → F_X7_copyFrom 4 25 V0 = pf_val ((0 : Int), V0) B17 (x10, V12) → (Int.toNat (16 - x10)) = N22 → pm_J X 10 [(0, (3, 4)), (1, (3, 25)), (2, (0, x10))] [] 118 V12 := by
    intro N22
    induction N22 using Nat.strongRecOn with
    | _ N22 ih23 =>
    intro x10 V12 b11 hV13 hF14 e15 e16 hT hm21
    have hb19 := congrFun hB18 (x10, V12)
    refine pm_iload_n hC 2 dX7_copyFrom_10 rfl ?_
    refine pm_aload_n hC 0 (by decide) dX7_copyFrom_11 rfl ?_
    refine pm_getf (v := y1) hC 4 fl_X7_15 rfl rfl (by decide) rfl e16 dX7_copyFrom_12 ?_
    refine pm_icmp_ge (tgt := 72) hC ⟨by exact ow_79k_2 b11, by exact ow_79k_3 b11⟩ ⟨by exact ow_79k_4 b3, by exact ow_79k_5 b3⟩ dX7_copyFrom_15 (by decide) (fun c24 => ?_) (fun c24 => ?_)
    · skip
      replace hb19 := hb19.trans (if_pos c24)
      refine pm_aload_n hC 0 (by decide) dX7_copyFrom_72 rfl ?_
      refine pm_aload_n hC 1 (by decide) dX7_copyFrom_73 rfl ?_
      obtain ⟨y25, e26⟩ : ∃ y, V12 25 6 = y := ⟨_, rfl⟩
      have b27 := hV13.get 25 6 (lo := 0) (hi := 60) (by decide) (by decide) rfl
      rw [e26] at b27
      replace hb19 := hb19.trans (pf_let_eq e26)
      refine pm_getf (v := y25) hC 25 fl_X7_32 rfl rfl (by decide) rfl e26 dX7_copyFrom_74 ?_
      refine pm_putf hC 4 fl_X7_32 rfl rfl rfl (by decide) rfl trivial dX7_copyFrom_77 ?_
      refine pm_iconst (v := 0) hC dX7_copyFrom_80 ?_
      refine pm_istore_n (lv' := [(2, (0, 0)), (0, (3, 4)), (1, (3, 25))]) hC dX7_copyFrom_81 (by decide) rfl ?_
      have hV30 := (hV13.put 4 6 (x := y25) (lo := 0) (hi := 60) rfl ⟨by exact ow_79k_6 b27, by exact ow_79k_7 b27⟩)
      have hF31 := (hF14.upf 4 6 y25 rfl)
      obtain ⟨V28, hv29⟩ : ∃ V, V = (pm_up V12 4 6 y25) := ⟨_, rfl⟩
      rw [← hv29] at hV30 hF31
      rw [← hv29]
      replace hb19 := hb19.trans (pf_let_eq hv29.symm)
      have e32 : V28 25 1 = y1 := by rw [hv29]; exact e15
      have e33 : V28 4 1 = y1 := by rw [hv29]; exact e16
      have e34 : V28 25 6 = y25 := by rw [hv29]; exact e26
      have e35 : V28 4 6 = y25 := by rw [hv29]; rfl
      obtain ⟨B45, hB46, hb19⟩ := pf_loop hb19
      have L48 : ∀ (N50 : Nat) (x36 : Int) (V38 : pm_M), (0 ≤ x36 ∧ x36 ≤ 60) → pm_ok 0 90 V38 → pm_ff [5, 6, 7, 8, 9, 10, 11, 12, 13] [(4, 1), (4, 6)] V0 V38 → V38 25 1 = y1 → V38 4 1 = y1 → V38 25 6 = y25 → V38 4 6 = y25 → B17 (x10, V12) = pf_val (.inr ((0 : Int), V0)) B45 (x36, V38) → (Int.toNat (60 - x36)) = N50 → pm_J X 82 [(0, (3, 4)), (1, (3, 25)), (2, (0, x36))] [] 118 V38 := by
        intro N50
        induction N50 using Nat.strongRecOn with
        | _ N50 ih51 =>
        intro x36 V38 b37 hV39 hF40 e41 e42 e43 e44 hb19 hm49
        have hb47 := congrFun hB46 (x36, V38)
        refine pm_iload_n hC 2 dX7_copyFrom_82 rfl ?_
        refine pm_aload_n hC 0 (by decide) dX7_copyFrom_83 rfl ?_
        refine pm_getf (v := y25) hC 4 fl_X7_32 rfl rfl (by decide) rfl e44 dX7_copyFrom_84 ?_
        refine pm_icmp_ge (tgt := 156) hC ⟨by exact ow_79k_8 b37, by exact ow_79k_9 b37⟩ ⟨by exact ow_79k_8 b27, by exact ow_79k_9 b27⟩ dX7_copyFrom_87 (by decide) (fun c52 => ?_) (fun c52 => ?_)
        · skip
          replace hb47 := hb47.trans (if_pos c52)
          replace hb19 := hb19.trans (pf_val_inr hb47)
          replace hT := hT.trans (pf_val_inr hb19)
          exact pm_vret hC hR ⟨rfl, hV39, hF40, hT⟩ dX7_copyFrom_156
        · skip
          replace hb47 := hb47.trans (if_neg (Int.not_le.mpr c52))
          refine pm_aload_n hC 0 (by decide) dX7_copyFrom_90 rfl ?_
          have e53 : V38 4 7 = 9 := hV39.one 4 7 (by decide) (by decide) rfl
          refine pm_getf (v := 9) hC 4 fl_X7_35 rfl rfl (by decide) rfl e53 dX7_copyFrom_91 ?_
          refine pm_iload_n hC 2 dX7_copyFrom_94 rfl ?_
          refine pm_aload_n hC 1 (by decide) dX7_copyFrom_95 rfl ?_
          have e54 : V38 25 7 = 30 := hV39.one 25 7 (by decide) (by decide) rfl
          refine pm_getf (v := 30) hC 25 fl_X7_35 rfl rfl (by decide) rfl e54 dX7_copyFrom_96 ?_
          refine pm_iload_n hC 2 dX7_copyFrom_99 rfl ?_
          obtain ⟨y55, e56⟩ : ∃ y, V38 30 (x36 : Int).toNat = y := ⟨_, rfl⟩
          replace hb47 := hb47.trans (pf_let_eq e56)
          have b57 := hV39.get1 30 (x36 : Int).toNat (lo := 0) (hi := 999) (by decide) (show _ < 60 by exact ow_79k_10 b27 c52) rfl
          rw [e56] at b57
          refine pm_iaload (len := 60) (v := y55) hC 30 rfl rfl (by decide) ⟨by exact ow_79k_6 b37, by exact ow_79k_11 b27 c52⟩ (by decide) e56 dX7_copyFrom_100 ?_
          refine pm_iastore (len := 60) hC 9 rfl rfl (by decide) ⟨by exact ow_79k_6 b37, by exact ow_79k_11 b27 c52⟩ (by decide) dX7_copyFrom_101 ?_
          refine pm_aload_n hC 0 (by decide) dX7_copyFrom_102 rfl ?_
          have e58 : V38 4 8 = 10 := hV39.one 4 8 (by decide) (by decide) rfl
          refine pm_getf (v := 10) hC 4 fl_X7_38 rfl rfl (by decide) rfl e58 dX7_copyFrom_103 ?_
          refine pm_iload_n hC 2 dX7_copyFrom_106 rfl ?_
          refine pm_aload_n hC 1 (by decide) dX7_copyFrom_107 rfl ?_
          have e59 : V38 25 8 = 31 := hV39.one 25 8 (by decide) (by decide) rfl
          refine pm_getf (v := 31) hC 25 fl_X7_38 rfl rfl (by decide) rfl e59 dX7_copyFrom_108 ?_
          refine pm_iload_n hC 2 dX7_copyFrom_111 rfl ?_
          obtain ⟨y60, e61⟩ : ∃ y, V38 31 (x36 : Int).toNat = y := ⟨_, rfl⟩
          replace hb47 := hb47.trans (pf_let_eq e61)
          have b62 := hV39.get 31 (x36 : Int).toNat (lo := 0) (hi := 99) (by decide) (show _ < 60 by exact ow_79k_10 b27 c52) rfl
          rw [e61] at b62
          refine pm_iaload (len := 60) (v := y60) hC 31 rfl rfl (by decide) ⟨by exact ow_79k_6 b37, by exact ow_79k_11 b27 c52⟩ (by decide) e61 dX7_copyFrom_112 ?_
          refine pm_iastore (len := 60) hC 10 rfl rfl (by decide) ⟨by exact ow_79k_6 b37, by exact ow_79k_11 b27 c52⟩ (by decide) dX7_copyFrom_113 ?_
          refine pm_aload_n hC 0 (by decide) dX7_copyFrom_114 rfl ?_
          have e63 : V38 4 9 = 11 := hV39.one 4 9 (by decide) (by decide) rfl
          refine pm_getf (v := 11) hC 4 fl_X7_41 rfl rfl (by decide) rfl e63 dX7_copyFrom_115 ?_
          refine pm_iload_n hC 2 dX7_copyFrom_118 rfl ?_
          refine pm_aload_n hC 1 (by decide) dX7_copyFrom_119 rfl ?_
          have e64 : V38 25 9 = 32 := hV39.one 25 9 (by decide) (by decide) rfl
          refine pm_getf (v := 32) hC 25 fl_X7_41 rfl rfl (by decide) rfl e64 dX7_copyFrom_120 ?_
          refine pm_iload_n hC 2 dX7_copyFrom_123 rfl ?_
          obtain ⟨y65, e66⟩ : ∃ y, V38 32 (x36 : Int).toNat = y := ⟨_, rfl⟩
          replace hb47 := hb47.trans (pf_let_eq e66)
          have b67 := hV39.get 32 (x36 : Int).toNat (lo := (-99)) (hi := 99) (by decide) (show _ < 60 by exact ow_79k_10 b27 c52) rfl
          rw [e66] at b67
          refine pm_iaload (len := 60) (v := y65) hC 32 rfl rfl (by decide) ⟨by exact ow_79k_6 b37, by exact ow_79k_11 b27 c52⟩ (by decide) e66 dX7_copyFrom_124 ?_
          refine pm_iastore (len := 60) hC 11 rfl rfl (by decide) ⟨by exact ow_79k_6 b37, by exact ow_79k_11 b27 c52⟩ (by decide) dX7_copyFrom_125 ?_
          refine pm_aload_n hC 0 (by decide) dX7_copyFrom_126 rfl ?_
          have e68 : V38 4 10 = 12 := hV39.one 4 10 (by decide) (by decide) rfl
          refine pm_getf (v := 12) hC 4 fl_X7_44 rfl rfl (by decide) rfl e68 dX7_copyFrom_127 ?_
          refine pm_iload_n hC 2 dX7_copyFrom_130 rfl ?_
          refine pm_aload_n hC 1 (by decide) dX7_copyFrom_131 rfl ?_
          have e69 : V38 25 10 = 33 := hV39.one 25 10 (by decide) (by decide) rfl
          refine pm_getf (v := 33) hC 25 fl_X7_44 rfl rfl (by decide) rfl e69 dX7_copyFrom_132 ?_
          refine pm_iload_n hC 2 dX7_copyFrom_135 rfl ?_
          obtain ⟨y70, e71⟩ : ∃ y, V38 33 (x36 : Int).toNat = y := ⟨_, rfl⟩
          replace hb47 := hb47.trans (pf_let_eq e71)
          have b72 := hV39.get 33 (x36 : Int).toNat (lo := 0) (hi := 8) (by decide) (show _ < 60 by exact ow_79k_10 b27 c52) rfl
          rw [e71] at b72
          refine pm_iaload (len := 60) (v := y70) hC 33 rfl rfl (by decide) ⟨by exact ow_79k_6 b37, by exact ow_79k_11 b27 c52⟩ (by decide) e71 dX7_copyFrom_136 ?_
          refine pm_iastore (len := 60) hC 12 rfl rfl (by decide) ⟨by exact ow_79k_6 b37, by exact ow_79k_11 b27 c52⟩ (by decide) dX7_copyFrom_137 ?_
          refine pm_aload_n hC 0 (by decide) dX7_copyFrom_138 rfl ?_
          have e73 : V38 4 11 = 13 := hV39.one 4 11 (by decide) (by decide) rfl
          refine pm_getf (v := 13) hC 4 fl_X7_47 rfl rfl (by decide) rfl e73 dX7_copyFrom_139 ?_
          refine pm_iload_n hC 2 dX7_copyFrom_142 rfl ?_
          refine pm_aload_n hC 1 (by decide) dX7_copyFrom_143 rfl ?_
          have e74 : V38 25 11 = 34 := hV39.one 25 11 (by decide) (by decide) rfl
          refine pm_getf (v := 34) hC 25 fl_X7_47 rfl rfl (by decide) rfl e74 dX7_copyFrom_144 ?_
          refine pm_iload_n hC 2 dX7_copyFrom_147 rfl ?_
          obtain ⟨y75, e76⟩ : ∃ y, V38 34 (x36 : Int).toNat = y := ⟨_, rfl⟩
          replace hb47 := hb47.trans (pf_let_eq e76)
          have b77 := hV39.get 34 (x36 : Int).toNat (lo := 0) (hi := 1) (by decide) (show _ < 60 by exact ow_79k_10 b27 c52) rfl
          rw [e76] at b77
          refine pm_zaload (len := 60) (v := y75) hC 34 rfl rfl (by decide) ⟨by exact ow_79k_6 b37, by exact ow_79k_11 b27 c52⟩ (by decide) e76 dX7_copyFrom_148 ?_
          refine pm_zastore (len := 60) hC 13 rfl rfl (by decide) ⟨by exact ow_79k_6 b37, by exact ow_79k_11 b27 c52⟩ (by decide) (by exact ow_79k_12 b77) dX7_copyFrom_149 ?_
          obtain ⟨x78, ei79⟩ : ∃ y : Int, x36 + 1 = y := ⟨_, rfl⟩
          replace hb47 := hb47.trans (pf_let_eq ei79)
          refine pm_iinc (y := x78) (lv' := [(2, (0, x78)), (0, (3, 4)), (1, (3, 25))]) hC 2 dX7_copyFrom_150 (by decide) rfl ei79 rfl ?_
          refine pm_goto (tgt := 82) hC dX7_copyFrom_153 (by decide) ?_
          refine pm_lvsub [1, 2, 0] (lv' := [(0, (3, 4)), (1, (3, 25)), (2, (0, x78))]) rfl ?_
          exact ih51 _ (by exact ow_79k_13 b27 hm49 c52 ei79) x78 (pm_up (pm_up (pm_up (pm_up (pm_up V38 9 (x36 : Int).toNat y55) 10 (x36 : Int).toNat y60) 11 (x36 : Int).toNat y65) 12 (x36 : Int).toNat y70) 13 (x36 : Int).toNat y75) ⟨by exact ow_79k_14 b37 ei79, by exact ow_79k_15 b27 c52 ei79⟩ (((((hV39.put1 9 (x36 : Int).toNat (x := y55) (lo := 0) (hi := 999) rfl (by exact ow_79k_16 b57)).put 10 (x36 : Int).toNat (x := y60) (lo := 0) (hi := 99) rfl ⟨by exact ow_79k_17 b62, by exact ow_79k_18 b62⟩).put 11 (x36 : Int).toNat (x := y65) (lo := (-99)) (hi := 99) rfl ⟨by exact ow_79k_19 b67, by exact ow_79k_20 b67⟩).put 12 (x36 : Int).toNat (x := y70) (lo := 0) (hi := 8) rfl ⟨by exact ow_79k_21 b72, by exact ow_79k_22 b72⟩).put 13 (x36 : Int).toNat (x := y75) (lo := 0) (hi := 1) rfl ⟨by exact ow_79k_23 b77, by exact ow_79k_24 b77⟩) (((((hF40.upa 9 (x36 : Int).toNat y55 rfl).upa 10 (x36 : Int).toNat y60 rfl).upa 11 (x36 : Int).toNat y65 rfl).upa 12 (x36 : Int).toNat y70 rfl).upa 13 (x36 : Int).toNat y75 rfl) e41 e42 e43 e44 (hb19.trans (pf_val_inl hb47)) rfl
      refine pm_lvsub [1, 2, 0] (lv' := [(0, (3, 4)), (1, (3, 25)), (2, (0, 0))]) rfl ?_
      exact L48 _ 0 V28 ⟨by decide, by decide⟩ hV30 hF31 e32 e33 e34 e35 hb19 rfl
    · skip
      replace hb19 := hb19.trans (if_neg (Int.not_le.mpr c24))
      refine pm_aload_n hC 0 (by decide) dX7_copyFrom_18 rfl ?_
      have e80 : V12 4 2 = 5 := hV13.one 4 2 (by decide) (by decide) rfl
      refine pm_getf (v := 5) hC 4 fl_X7_19 rfl rfl (by decide) rfl e80 dX7_copyFrom_19 ?_
      refine pm_iload_n hC 2 dX7_copyFrom_22 rfl ?_
      refine pm_aload_n hC 1 (by decide) dX7_copyFrom_23 rfl ?_
      have e81 : V12 25 2 = 26 := hV13.one 25 2 (by decide) (by decide) rfl
      refine pm_getf (v := 26) hC 25 fl_X7_19 rfl rfl (by decide) rfl e81 dX7_copyFrom_24 ?_
      refine pm_iload_n hC 2 dX7_copyFrom_27 rfl ?_
      obtain ⟨y82, e83⟩ : ∃ y, V12 26 (x10 : Int).toNat = y := ⟨_, rfl⟩
      replace hb19 := hb19.trans (pf_let_eq e83)
      have b84 := hV13.get 26 (x10 : Int).toNat (lo := (-30)) (hi := 30) (by decide) (show _ < 10 by exact ow_79k_25 b3 c24) rfl
      rw [e83] at b84
      refine pm_iaload (len := 10) (v := y82) hC 26 rfl rfl (by decide) ⟨by exact ow_79k_26 b11, by exact ow_79k_27 b3 c24⟩ (by decide) e83 dX7_copyFrom_28 ?_
      refine pm_iastore (len := 10) hC 5 rfl rfl (by decide) ⟨by exact ow_79k_26 b11, by exact ow_79k_27 b3 c24⟩ (by decide) dX7_copyFrom_29 ?_
      refine pm_aload_n hC 0 (by decide) dX7_copyFrom_30 rfl ?_
      have e85 : V12 4 3 = 6 := hV13.one 4 3 (by decide) (by decide) rfl
      refine pm_getf (v := 6) hC 4 fl_X7_23 rfl rfl (by decide) rfl e85 dX7_copyFrom_31 ?_
      refine pm_iload_n hC 2 dX7_copyFrom_34 rfl ?_
      refine pm_aload_n hC 1 (by decide) dX7_copyFrom_35 rfl ?_
      have e86 : V12 25 3 = 27 := hV13.one 25 3 (by decide) (by decide) rfl
      refine pm_getf (v := 27) hC 25 fl_X7_23 rfl rfl (by decide) rfl e86 dX7_copyFrom_36 ?_
      refine pm_iload_n hC 2 dX7_copyFrom_39 rfl ?_
      obtain ⟨y87, e88⟩ : ∃ y, V12 27 (x10 : Int).toNat = y := ⟨_, rfl⟩
      replace hb19 := hb19.trans (pf_let_eq e88)
      have b89 := hV13.get 27 (x10 : Int).toNat (lo := (-30)) (hi := 30) (by decide) (show _ < 10 by exact ow_79k_25 b3 c24) rfl
      rw [e88] at b89
      refine pm_iaload (len := 10) (v := y87) hC 27 rfl rfl (by decide) ⟨by exact ow_79k_26 b11, by exact ow_79k_27 b3 c24⟩ (by decide) e88 dX7_copyFrom_40 ?_
      refine pm_iastore (len := 10) hC 6 rfl rfl (by decide) ⟨by exact ow_79k_26 b11, by exact ow_79k_27 b3 c24⟩ (by decide) dX7_copyFrom_41 ?_
      refine pm_aload_n hC 0 (by decide) dX7_copyFrom_42 rfl ?_
      have e90 : V12 4 4 = 7 := hV13.one 4 4 (by decide) (by decide) rfl
      refine pm_getf (v := 7) hC 4 fl_X7_26 rfl rfl (by decide) rfl e90 dX7_copyFrom_43 ?_
      refine pm_iload_n hC 2 dX7_copyFrom_46 rfl ?_
      refine pm_aload_n hC 1 (by decide) dX7_copyFrom_47 rfl ?_
      have e91 : V12 25 4 = 28 := hV13.one 25 4 (by decide) (by decide) rfl
      refine pm_getf (v := 28) hC 25 fl_X7_26 rfl rfl (by decide) rfl e91 dX7_copyFrom_48 ?_
      refine pm_iload_n hC 2 dX7_copyFrom_51 rfl ?_
      obtain ⟨y92, e93⟩ : ∃ y, V12 28 (x10 : Int).toNat = y := ⟨_, rfl⟩
      replace hb19 := hb19.trans (pf_let_eq e93)
      have b94 := hV13.get 28 (x10 : Int).toNat (lo := 0) (hi := 16) (by decide) (show _ < 10 by exact ow_79k_25 b3 c24) rfl
      rw [e93] at b94
      refine pm_iaload (len := 10) (v := y92) hC 28 rfl rfl (by decide) ⟨by exact ow_79k_26 b11, by exact ow_79k_27 b3 c24⟩ (by decide) e93 dX7_copyFrom_52 ?_
      refine pm_iastore (len := 10) hC 7 rfl rfl (by decide) ⟨by exact ow_79k_26 b11, by exact ow_79k_27 b3 c24⟩ (by decide) dX7_copyFrom_53 ?_
      refine pm_aload_n hC 0 (by decide) dX7_copyFrom_54 rfl ?_
      have e95 : V12 4 5 = 8 := hV13.one 4 5 (by decide) (by decide) rfl
      refine pm_getf (v := 8) hC 4 fl_X7_29 rfl rfl (by decide) rfl e95 dX7_copyFrom_55 ?_
      refine pm_iload_n hC 2 dX7_copyFrom_58 rfl ?_
      refine pm_aload_n hC 1 (by decide) dX7_copyFrom_59 rfl ?_
      have e96 : V12 25 5 = 29 := hV13.one 25 5 (by decide) (by decide) rfl
      refine pm_getf (v := 29) hC 25 fl_X7_29 rfl rfl (by decide) rfl e96 dX7_copyFrom_60 ?_
      refine pm_iload_n hC 2 dX7_copyFrom_63 rfl ?_
      obtain ⟨y97, e98⟩ : ∃ y, V12 29 (x10 : Int).toNat = y := ⟨_, rfl⟩
      replace hb19 := hb19.trans (pf_let_eq e98)
      have b99 := hV13.get 29 (x10 : Int).toNat (lo := 0) (hi := 3) (by decide) (show _ < 10 by exact ow_79k_25 b3 c24) rfl
      rw [e98] at b99
      refine pm_iaload (len := 10) (v := y97) hC 29 rfl rfl (by decide) ⟨by exact ow_79k_26 b11, by exact ow_79k_27 b3 c24⟩ (by decide) e98 dX7_copyFrom_64 ?_
      refine pm_iastore (len := 10) hC 8 rfl rfl (by decide) ⟨by exact ow_79k_26 b11, by exact ow_79k_27 b3 c24⟩ (by decide) dX7_copyFrom_65 ?_
      obtain ⟨x100, ei101⟩ : ∃ y : Int, x10 + 1 = y := ⟨_, rfl⟩
      replace hb19 := hb19.trans (pf_let_eq ei101)
      refine pm_iinc (y := x100) (lv' := [(2, (0, x100)), (0, (3, 4)), (1, (3, 25))]) hC 2 dX7_copyFrom_66 (by decide) rfl ei101 rfl ?_
      refine pm_goto (tgt := 10) hC dX7_copyFrom_69 (by decide) ?_
      refine pm_lvsub [1, 2, 0] (lv' := [(0, (3, 4)), (1, (3, 25)), (2, (0, x100))]) rfl ?_
      exact ih23 _ (by exact ow_79k_28 b3 hm21 c24 ei101) x100 (pm_up (pm_up (pm_up (pm_up V12 5 (x10 : Int).toNat y82) 6 (x10 : Int).toNat y87) 7 (x10 : Int).toNat y92) 8 (x10 : Int).toNat y97) ⟨by exact ow_79k_29 b11 ei101, by exact ow_79k_30 b3 c24 ei101⟩ ((((hV13.put 5 (x10 : Int).toNat (x := y82) (lo := (-30)) (hi := 30) rfl ⟨by exact ow_79k_31 b84, by exact ow_79k_32 b84⟩).put 6 (x10 : Int).toNat (x := y87) (lo := (-30)) (hi := 30) rfl ⟨by exact ow_79k_31 b89, by exact ow_79k_32 b89⟩).put 7 (x10 : Int).toNat (x := y92) (lo := 0) (hi := 16) rfl ⟨by exact ow_79k_26 b94, by exact ow_79k_33 b94⟩).put 8 (x10 : Int).toNat (x := y97) (lo := 0) (hi := 3) rfl ⟨by exact ow_79k_34 b99, by exact ow_79k_35 b99⟩) ((((hF14.upa 5 (x10 : Int).toNat y82 rfl).upa 6 (x10 : Int).toNat y87 rfl).upa 7 (x10 : Int).toNat y92 rfl).upa 8 (x10 : Int).toNat y97 rfl) e15 e16 (hT.trans (pf_val_inl hb19)) rfl
  refine pm_lvsub [1, 2, 0] (lv' := [(0, (3, 4)), (1, (3, 25)), (2, (0, 0))]) rfl ?_
  exact L20 _ 0 V4 ⟨by decide, by decide⟩ hV6 hF7 e8 e9 hT rfl
set_option maxHeartbeats 4000000 in
set_option maxRecDepth 100000 in
theorem fD_X7_copyFrom_4_35  : pm_K 1 yX7_copyFrom cX7_copyFrom 3 none (fun av V => av = [(3, 4), (3, 35)] ∧ pm_ok 0 90 V) (fun _ V r V' => r = none ∧ pm_ok 0 90 V' ∧ pm_ff [5, 6, 7, 8, 9, 10, 11, 12, 13] [(4, 1), (4, 6)] V V' ∧ F_X7_copyFrom 4 35 V = (0, V')) := by
  refine pm_MT.of (by decide) ⟨Nat.le_refl _, by decide⟩ (fun av V h => by rw [h.1]; exact (by decide : pm_words [(3, 0), (3, 0)] ≤ 3)) ?_
  rintro X av V0 hC - hR ⟨rfl, hV0⟩
  change pm_J X 0 [(0, (3, 4)), (1, (3, 35))] [] 118 V0
  have hT := F_X7_copyFrom_eq 4 35 V0
  refine pm_aload_n hC 0 (by decide) dX7_copyFrom_0 rfl ?_
  refine pm_aload_n hC 1 (by decide) dX7_copyFrom_1 rfl ?_
  obtain ⟨y1, e2⟩ : ∃ y, V0 35 1 = y := ⟨_, rfl⟩
  have b3 := hV0.get 35 1 (lo := 0) (hi := 10) (by decide) (by decide) rfl
  rw [e2] at b3
  replace hT := hT.trans (pf_let_eq e2)
  refine pm_getf (v := y1) hC 35 fl_X7_15 rfl rfl (by decide) rfl e2 dX7_copyFrom_2 ?_
  refine pm_putf hC 4 fl_X7_15 rfl rfl rfl (by decide) rfl trivial dX7_copyFrom_5 ?_
  refine pm_iconst (v := 0) hC dX7_copyFrom_8 ?_
  refine pm_istore_n (lv' := [(2, (0, 0)), (0, (3, 4)), (1, (3, 35))]) hC dX7_copyFrom_9 (by decide) rfl ?_
  have hV6 := (hV0.put 4 1 (x := y1) (lo := 0) (hi := 10) rfl ⟨by exact ow_79k_0 b3, by exact ow_79k_1 b3⟩)
  have hF7 := ((pm_ff.rf (cs := [5, 6, 7, 8, 9, 10, 11, 12, 13]) (fs := [(4, 1), (4, 6)]) (V := V0)).upf 4 1 y1 rfl)
  obtain ⟨V4, hv5⟩ : ∃ V, V = (pm_up V0 4 1 y1) := ⟨_, rfl⟩
  rw [← hv5] at hV6 hF7
  rw [← hv5]
  replace hT := hT.trans (pf_let_eq hv5.symm)
  have e8 : V4 35 1 = y1 := by rw [hv5]; exact e2
  have e9 : V4 4 1 = y1 := by rw [hv5]; rfl
  obtain ⟨B17, hB18, hT⟩ := pf_loop hT
  have L20 : ∀ (N22 : Nat) (x10 : Int) (V12 : pm_M), (0 ≤ x10 ∧ x10 ≤ 16) → pm_ok 0 90 V12 → pm_ff [5, 6, 7, 8, 9, 10, 11, 12, 13] [(4, 1), (4, 6)] V0 V12 → V12 35 1 = y1 → V12 4 1 = y1 → F_X7_copyFrom 4 35 V0 = pf_val ((0 : Int), V0) B17 (x10, V12) → (Int.toNat (16 - x10)) = N22 → pm_J X 10 [(0, (3, 4)), (1, (3, 35)), (2, (0, x10))] [] 118 V12 := by
    intro N22
    induction N22 using Nat.strongRecOn with
    | _ N22 ih23 =>
    intro x10 V12 b11 hV13 hF14 e15 e16 hT hm21
    have hb19 := congrFun hB18 (x10, V12)
    refine pm_iload_n hC 2 dX7_copyFrom_10 rfl ?_
    refine pm_aload_n hC 0 (by decide) dX7_copyFrom_11 rfl ?_
    refine pm_getf (v := y1) hC 4 fl_X7_15 rfl rfl (by decide) rfl e16 dX7_copyFrom_12 ?_
    refine pm_icmp_ge (tgt := 72) hC ⟨by exact ow_79k_2 b11, by exact ow_79k_3 b11⟩ ⟨by exact ow_79k_4 b3, by exact ow_79k_5 b3⟩ dX7_copyFrom_15 (by decide) (fun c24 => ?_) (fun c24 => ?_)
    · skip
      replace hb19 := hb19.trans (if_pos c24)
      refine pm_aload_n hC 0 (by decide) dX7_copyFrom_72 rfl ?_
      refine pm_aload_n hC 1 (by decide) dX7_copyFrom_73 rfl ?_
      obtain ⟨y25, e26⟩ : ∃ y, V12 35 6 = y := ⟨_, rfl⟩
      have b27 := hV13.get 35 6 (lo := 0) (hi := 60) (by decide) (by decide) rfl
      rw [e26] at b27
      replace hb19 := hb19.trans (pf_let_eq e26)
      refine pm_getf (v := y25) hC 35 fl_X7_32 rfl rfl (by decide) rfl e26 dX7_copyFrom_74 ?_
      refine pm_putf hC 4 fl_X7_32 rfl rfl rfl (by decide) rfl trivial dX7_copyFrom_77 ?_
      refine pm_iconst (v := 0) hC dX7_copyFrom_80 ?_
      refine pm_istore_n (lv' := [(2, (0, 0)), (0, (3, 4)), (1, (3, 35))]) hC dX7_copyFrom_81 (by decide) rfl ?_
      have hV30 := (hV13.put 4 6 (x := y25) (lo := 0) (hi := 60) rfl ⟨by exact ow_79k_6 b27, by exact ow_79k_7 b27⟩)
      have hF31 := (hF14.upf 4 6 y25 rfl)
      obtain ⟨V28, hv29⟩ : ∃ V, V = (pm_up V12 4 6 y25) := ⟨_, rfl⟩
      rw [← hv29] at hV30 hF31
      rw [← hv29]
      replace hb19 := hb19.trans (pf_let_eq hv29.symm)
      have e32 : V28 35 1 = y1 := by rw [hv29]; exact e15
      have e33 : V28 4 1 = y1 := by rw [hv29]; exact e16
      have e34 : V28 35 6 = y25 := by rw [hv29]; exact e26
      have e35 : V28 4 6 = y25 := by rw [hv29]; rfl
      obtain ⟨B45, hB46, hb19⟩ := pf_loop hb19
      have L48 : ∀ (N50 : Nat) (x36 : Int) (V38 : pm_M), (0 ≤ x36 ∧ x36 ≤ 60) → pm_ok 0 90 V38 → pm_ff [5, 6, 7, 8, 9, 10, 11, 12, 13] [(4, 1), (4, 6)] V0 V38 → V38 35 1 = y1 → V38 4 1 = y1 → V38 35 6 = y25 → V38 4 6 = y25 → B17 (x10, V12) = pf_val (.inr ((0 : Int), V0)) B45 (x36, V38) → (Int.toNat (60 - x36)) = N50 → pm_J X 82 [(0, (3, 4)), (1, (3, 35)), (2, (0, x36))] [] 118 V38 := by
        intro N50
        induction N50 using Nat.strongRecOn with
        | _ N50 ih51 =>
        intro x36 V38 b37 hV39 hF40 e41 e42 e43 e44 hb19 hm49
        have hb47 := congrFun hB46 (x36, V38)
        refine pm_iload_n hC 2 dX7_copyFrom_82 rfl ?_
        refine pm_aload_n hC 0 (by decide) dX7_copyFrom_83 rfl ?_
        refine pm_getf (v := y25) hC 4 fl_X7_32 rfl rfl (by decide) rfl e44 dX7_copyFrom_84 ?_
        refine pm_icmp_ge (tgt := 156) hC ⟨by exact ow_79k_8 b37, by exact ow_79k_9 b37⟩ ⟨by exact ow_79k_8 b27, by exact ow_79k_9 b27⟩ dX7_copyFrom_87 (by decide) (fun c52 => ?_) (fun c52 => ?_)
        · skip
          replace hb47 := hb47.trans (if_pos c52)
          replace hb19 := hb19.trans (pf_val_inr hb47)
          replace hT := hT.trans (pf_val_inr hb19)
          exact pm_vret hC hR ⟨rfl, hV39, hF40, hT⟩ dX7_copyFrom_156
        · skip
          replace hb47 := hb47.trans (if_neg (Int.not_le.mpr c52))
          refine pm_aload_n hC 0 (by decide) dX7_copyFrom_90 rfl ?_
          have e53 : V38 4 7 = 9 := hV39.one 4 7 (by decide) (by decide) rfl
          refine pm_getf (v := 9) hC 4 fl_X7_35 rfl rfl (by decide) rfl e53 dX7_copyFrom_91 ?_
          refine pm_iload_n hC 2 dX7_copyFrom_94 rfl ?_
          refine pm_aload_n hC 1 (by decide) dX7_copyFrom_95 rfl ?_
          have e54 : V38 35 7 = 40 := hV39.one 35 7 (by decide) (by decide) rfl
          refine pm_getf (v := 40) hC 35 fl_X7_35 rfl rfl (by decide) rfl e54 dX7_copyFrom_96 ?_
          refine pm_iload_n hC 2 dX7_copyFrom_99 rfl ?_
          obtain ⟨y55, e56⟩ : ∃ y, V38 40 (x36 : Int).toNat = y := ⟨_, rfl⟩
          replace hb47 := hb47.trans (pf_let_eq e56)
          have b57 := hV39.get1 40 (x36 : Int).toNat (lo := 0) (hi := 999) (by decide) (show _ < 60 by exact ow_79k_10 b27 c52) rfl
          rw [e56] at b57
          refine pm_iaload (len := 60) (v := y55) hC 40 rfl rfl (by decide) ⟨by exact ow_79k_6 b37, by exact ow_79k_11 b27 c52⟩ (by decide) e56 dX7_copyFrom_100 ?_
          refine pm_iastore (len := 60) hC 9 rfl rfl (by decide) ⟨by exact ow_79k_6 b37, by exact ow_79k_11 b27 c52⟩ (by decide) dX7_copyFrom_101 ?_
          refine pm_aload_n hC 0 (by decide) dX7_copyFrom_102 rfl ?_
          have e58 : V38 4 8 = 10 := hV39.one 4 8 (by decide) (by decide) rfl
          refine pm_getf (v := 10) hC 4 fl_X7_38 rfl rfl (by decide) rfl e58 dX7_copyFrom_103 ?_
          refine pm_iload_n hC 2 dX7_copyFrom_106 rfl ?_
          refine pm_aload_n hC 1 (by decide) dX7_copyFrom_107 rfl ?_
          have e59 : V38 35 8 = 41 := hV39.one 35 8 (by decide) (by decide) rfl
          refine pm_getf (v := 41) hC 35 fl_X7_38 rfl rfl (by decide) rfl e59 dX7_copyFrom_108 ?_
          refine pm_iload_n hC 2 dX7_copyFrom_111 rfl ?_
          obtain ⟨y60, e61⟩ : ∃ y, V38 41 (x36 : Int).toNat = y := ⟨_, rfl⟩
          replace hb47 := hb47.trans (pf_let_eq e61)
          have b62 := hV39.get 41 (x36 : Int).toNat (lo := 0) (hi := 99) (by decide) (show _ < 60 by exact ow_79k_10 b27 c52) rfl
          rw [e61] at b62
          refine pm_iaload (len := 60) (v := y60) hC 41 rfl rfl (by decide) ⟨by exact ow_79k_6 b37, by exact ow_79k_11 b27 c52⟩ (by decide) e61 dX7_copyFrom_112 ?_
          refine pm_iastore (len := 60) hC 10 rfl rfl (by decide) ⟨by exact ow_79k_6 b37, by exact ow_79k_11 b27 c52⟩ (by decide) dX7_copyFrom_113 ?_
          refine pm_aload_n hC 0 (by decide) dX7_copyFrom_114 rfl ?_
          have e63 : V38 4 9 = 11 := hV39.one 4 9 (by decide) (by decide) rfl
          refine pm_getf (v := 11) hC 4 fl_X7_41 rfl rfl (by decide) rfl e63 dX7_copyFrom_115 ?_
          refine pm_iload_n hC 2 dX7_copyFrom_118 rfl ?_
          refine pm_aload_n hC 1 (by decide) dX7_copyFrom_119 rfl ?_
          have e64 : V38 35 9 = 42 := hV39.one 35 9 (by decide) (by decide) rfl
          refine pm_getf (v := 42) hC 35 fl_X7_41 rfl rfl (by decide) rfl e64 dX7_copyFrom_120 ?_
          refine pm_iload_n hC 2 dX7_copyFrom_123 rfl ?_
          obtain ⟨y65, e66⟩ : ∃ y, V38 42 (x36 : Int).toNat = y := ⟨_, rfl⟩
          replace hb47 := hb47.trans (pf_let_eq e66)
          have b67 := hV39.get 42 (x36 : Int).toNat (lo := (-99)) (hi := 99) (by decide) (show _ < 60 by exact ow_79k_10 b27 c52) rfl
          rw [e66] at b67
          refine pm_iaload (len := 60) (v := y65) hC 42 rfl rfl (by decide) ⟨by exact ow_79k_6 b37, by exact ow_79k_11 b27 c52⟩ (by decide) e66 dX7_copyFrom_124 ?_
          refine pm_iastore (len := 60) hC 11 rfl rfl (by decide) ⟨by exact ow_79k_6 b37, by exact ow_79k_11 b27 c52⟩ (by decide) dX7_copyFrom_125 ?_
          refine pm_aload_n hC 0 (by decide) dX7_copyFrom_126 rfl ?_
          have e68 : V38 4 10 = 12 := hV39.one 4 10 (by decide) (by decide) rfl
          refine pm_getf (v := 12) hC 4 fl_X7_44 rfl rfl (by decide) rfl e68 dX7_copyFrom_127 ?_
          refine pm_iload_n hC 2 dX7_copyFrom_130 rfl ?_
          refine pm_aload_n hC 1 (by decide) dX7_copyFrom_131 rfl ?_
          have e69 : V38 35 10 = 43 := hV39.one 35 10 (by decide) (by decide) rfl
          refine pm_getf (v := 43) hC 35 fl_X7_44 rfl rfl (by decide) rfl e69 dX7_copyFrom_132 ?_
          refine pm_iload_n hC 2 dX7_copyFrom_135 rfl ?_
          obtain ⟨y70, e71⟩ : ∃ y, V38 43 (x36 : Int).toNat = y := ⟨_, rfl⟩
          replace hb47 := hb47.trans (pf_let_eq e71)
          have b72 := hV39.get 43 (x36 : Int).toNat (lo := 0) (hi := 8) (by decide) (show _ < 60 by exact ow_79k_10 b27 c52) rfl
          rw [e71] at b72
          refine pm_iaload (len := 60) (v := y70) hC 43 rfl rfl (by decide) ⟨by exact ow_79k_6 b37, by exact ow_79k_11 b27 c52⟩ (by decide) e71 dX7_copyFrom_136 ?_
          refine pm_iastore (len := 60) hC 12 rfl rfl (by decide) ⟨by exact ow_79k_6 b37, by exact ow_79k_11 b27 c52⟩ (by decide) dX7_copyFrom_137 ?_
          refine pm_aload_n hC 0 (by decide) dX7_copyFrom_138 rfl ?_
          have e73 : V38 4 11 = 13 := hV39.one 4 11 (by decide) (by decide) rfl
          refine pm_getf (v := 13) hC 4 fl_X7_47 rfl rfl (by decide) rfl e73 dX7_copyFrom_139 ?_
          refine pm_iload_n hC 2 dX7_copyFrom_142 rfl ?_
          refine pm_aload_n hC 1 (by decide) dX7_copyFrom_143 rfl ?_
          have e74 : V38 35 11 = 44 := hV39.one 35 11 (by decide) (by decide) rfl
          refine pm_getf (v := 44) hC 35 fl_X7_47 rfl rfl (by decide) rfl e74 dX7_copyFrom_144 ?_
          refine pm_iload_n hC 2 dX7_copyFrom_147 rfl ?_
          obtain ⟨y75, e76⟩ : ∃ y, V38 44 (x36 : Int).toNat = y := ⟨_, rfl⟩
          replace hb47 := hb47.trans (pf_let_eq e76)
          have b77 := hV39.get 44 (x36 : Int).toNat (lo := 0) (hi := 1) (by decide) (show _ < 60 by exact ow_79k_10 b27 c52) rfl
          rw [e76] at b77
          refine pm_zaload (len := 60) (v := y75) hC 44 rfl rfl (by decide) ⟨by exact ow_79k_6 b37, by exact ow_79k_11 b27 c52⟩ (by decide) e76 dX7_copyFrom_148 ?_
          refine pm_zastore (len := 60) hC 13 rfl rfl (by decide) ⟨by exact ow_79k_6 b37, by exact ow_79k_11 b27 c52⟩ (by decide) (by exact ow_79k_12 b77) dX7_copyFrom_149 ?_
          obtain ⟨x78, ei79⟩ : ∃ y : Int, x36 + 1 = y := ⟨_, rfl⟩
          replace hb47 := hb47.trans (pf_let_eq ei79)
          refine pm_iinc (y := x78) (lv' := [(2, (0, x78)), (0, (3, 4)), (1, (3, 35))]) hC 2 dX7_copyFrom_150 (by decide) rfl ei79 rfl ?_
          refine pm_goto (tgt := 82) hC dX7_copyFrom_153 (by decide) ?_
          refine pm_lvsub [1, 2, 0] (lv' := [(0, (3, 4)), (1, (3, 35)), (2, (0, x78))]) rfl ?_
          exact ih51 _ (by exact ow_79k_13 b27 hm49 c52 ei79) x78 (pm_up (pm_up (pm_up (pm_up (pm_up V38 9 (x36 : Int).toNat y55) 10 (x36 : Int).toNat y60) 11 (x36 : Int).toNat y65) 12 (x36 : Int).toNat y70) 13 (x36 : Int).toNat y75) ⟨by exact ow_79k_14 b37 ei79, by exact ow_79k_15 b27 c52 ei79⟩ (((((hV39.put1 9 (x36 : Int).toNat (x := y55) (lo := 0) (hi := 999) rfl (by exact ow_79k_16 b57)).put 10 (x36 : Int).toNat (x := y60) (lo := 0) (hi := 99) rfl ⟨by exact ow_79k_17 b62, by exact ow_79k_18 b62⟩).put 11 (x36 : Int).toNat (x := y65) (lo := (-99)) (hi := 99) rfl ⟨by exact ow_79k_19 b67, by exact ow_79k_20 b67⟩).put 12 (x36 : Int).toNat (x := y70) (lo := 0) (hi := 8) rfl ⟨by exact ow_79k_21 b72, by exact ow_79k_22 b72⟩).put 13 (x36 : Int).toNat (x := y75) (lo := 0) (hi := 1) rfl ⟨by exact ow_79k_23 b77, by exact ow_79k_24 b77⟩) (((((hF40.upa 9 (x36 : Int).toNat y55 rfl).upa 10 (x36 : Int).toNat y60 rfl).upa 11 (x36 : Int).toNat y65 rfl).upa 12 (x36 : Int).toNat y70 rfl).upa 13 (x36 : Int).toNat y75 rfl) e41 e42 e43 e44 (hb19.trans (pf_val_inl hb47)) rfl
      refine pm_lvsub [1, 2, 0] (lv' := [(0, (3, 4)), (1, (3, 35)), (2, (0, 0))]) rfl ?_
      exact L48 _ 0 V28 ⟨by decide, by decide⟩ hV30 hF31 e32 e33 e34 e35 hb19 rfl
    · skip
      replace hb19 := hb19.trans (if_neg (Int.not_le.mpr c24))
      refine pm_aload_n hC 0 (by decide) dX7_copyFrom_18 rfl ?_
      have e80 : V12 4 2 = 5 := hV13.one 4 2 (by decide) (by decide) rfl
      refine pm_getf (v := 5) hC 4 fl_X7_19 rfl rfl (by decide) rfl e80 dX7_copyFrom_19 ?_
      refine pm_iload_n hC 2 dX7_copyFrom_22 rfl ?_
      refine pm_aload_n hC 1 (by decide) dX7_copyFrom_23 rfl ?_
      have e81 : V12 35 2 = 36 := hV13.one 35 2 (by decide) (by decide) rfl
      refine pm_getf (v := 36) hC 35 fl_X7_19 rfl rfl (by decide) rfl e81 dX7_copyFrom_24 ?_
      refine pm_iload_n hC 2 dX7_copyFrom_27 rfl ?_
      obtain ⟨y82, e83⟩ : ∃ y, V12 36 (x10 : Int).toNat = y := ⟨_, rfl⟩
      replace hb19 := hb19.trans (pf_let_eq e83)
      have b84 := hV13.get 36 (x10 : Int).toNat (lo := (-30)) (hi := 30) (by decide) (show _ < 10 by exact ow_79k_25 b3 c24) rfl
      rw [e83] at b84
      refine pm_iaload (len := 10) (v := y82) hC 36 rfl rfl (by decide) ⟨by exact ow_79k_26 b11, by exact ow_79k_27 b3 c24⟩ (by decide) e83 dX7_copyFrom_28 ?_
      refine pm_iastore (len := 10) hC 5 rfl rfl (by decide) ⟨by exact ow_79k_26 b11, by exact ow_79k_27 b3 c24⟩ (by decide) dX7_copyFrom_29 ?_
      refine pm_aload_n hC 0 (by decide) dX7_copyFrom_30 rfl ?_
      have e85 : V12 4 3 = 6 := hV13.one 4 3 (by decide) (by decide) rfl
      refine pm_getf (v := 6) hC 4 fl_X7_23 rfl rfl (by decide) rfl e85 dX7_copyFrom_31 ?_
      refine pm_iload_n hC 2 dX7_copyFrom_34 rfl ?_
      refine pm_aload_n hC 1 (by decide) dX7_copyFrom_35 rfl ?_
      have e86 : V12 35 3 = 37 := hV13.one 35 3 (by decide) (by decide) rfl
      refine pm_getf (v := 37) hC 35 fl_X7_23 rfl rfl (by decide) rfl e86 dX7_copyFrom_36 ?_
      refine pm_iload_n hC 2 dX7_copyFrom_39 rfl ?_
      obtain ⟨y87, e88⟩ : ∃ y, V12 37 (x10 : Int).toNat = y := ⟨_, rfl⟩
      replace hb19 := hb19.trans (pf_let_eq e88)
      have b89 := hV13.get 37 (x10 : Int).toNat (lo := (-30)) (hi := 30) (by decide) (show _ < 10 by exact ow_79k_25 b3 c24) rfl
      rw [e88] at b89
      refine pm_iaload (len := 10) (v := y87) hC 37 rfl rfl (by decide) ⟨by exact ow_79k_26 b11, by exact ow_79k_27 b3 c24⟩ (by decide) e88 dX7_copyFrom_40 ?_
      refine pm_iastore (len := 10) hC 6 rfl rfl (by decide) ⟨by exact ow_79k_26 b11, by exact ow_79k_27 b3 c24⟩ (by decide) dX7_copyFrom_41 ?_
      refine pm_aload_n hC 0 (by decide) dX7_copyFrom_42 rfl ?_
      have e90 : V12 4 4 = 7 := hV13.one 4 4 (by decide) (by decide) rfl
      refine pm_getf (v := 7) hC 4 fl_X7_26 rfl rfl (by decide) rfl e90 dX7_copyFrom_43 ?_
      refine pm_iload_n hC 2 dX7_copyFrom_46 rfl ?_
      refine pm_aload_n hC 1 (by decide) dX7_copyFrom_47 rfl ?_
      have e91 : V12 35 4 = 38 := hV13.one 35 4 (by decide) (by decide) rfl
      refine pm_getf (v := 38) hC 35 fl_X7_26 rfl rfl (by decide) rfl e91 dX7_copyFrom_48 ?_
      refine pm_iload_n hC 2 dX7_copyFrom_51 rfl ?_
      obtain ⟨y92, e93⟩ : ∃ y, V12 38 (x10 : Int).toNat = y := ⟨_, rfl⟩
      replace hb19 := hb19.trans (pf_let_eq e93)
      have b94 := hV13.get 38 (x10 : Int).toNat (lo := 0) (hi := 16) (by decide) (show _ < 10 by exact ow_79k_25 b3 c24) rfl
      rw [e93] at b94
      refine pm_iaload (len := 10) (v := y92) hC 38 rfl rfl (by decide) ⟨by exact ow_79k_26 b11, by exact ow_79k_27 b3 c24⟩ (by decide) e93 dX7_copyFrom_52 ?_
      refine pm_iastore (len := 10) hC 7 rfl rfl (by decide) ⟨by exact ow_79k_26 b11, by exact ow_79k_27 b3 c24⟩ (by decide) dX7_copyFrom_53 ?_
      refine pm_aload_n hC 0 (by decide) dX7_copyFrom_54 rfl ?_
      have e95 : V12 4 5 = 8 := hV13.one 4 5 (by decide) (by decide) rfl
      refine pm_getf (v := 8) hC 4 fl_X7_29 rfl rfl (by decide) rfl e95 dX7_copyFrom_55 ?_
      refine pm_iload_n hC 2 dX7_copyFrom_58 rfl ?_
      refine pm_aload_n hC 1 (by decide) dX7_copyFrom_59 rfl ?_
      have e96 : V12 35 5 = 39 := hV13.one 35 5 (by decide) (by decide) rfl
      refine pm_getf (v := 39) hC 35 fl_X7_29 rfl rfl (by decide) rfl e96 dX7_copyFrom_60 ?_
      refine pm_iload_n hC 2 dX7_copyFrom_63 rfl ?_
      obtain ⟨y97, e98⟩ : ∃ y, V12 39 (x10 : Int).toNat = y := ⟨_, rfl⟩
      replace hb19 := hb19.trans (pf_let_eq e98)
      have b99 := hV13.get 39 (x10 : Int).toNat (lo := 0) (hi := 3) (by decide) (show _ < 10 by exact ow_79k_25 b3 c24) rfl
      rw [e98] at b99
      refine pm_iaload (len := 10) (v := y97) hC 39 rfl rfl (by decide) ⟨by exact ow_79k_26 b11, by exact ow_79k_27 b3 c24⟩ (by decide) e98 dX7_copyFrom_64 ?_
      refine pm_iastore (len := 10) hC 8 rfl rfl (by decide) ⟨by exact ow_79k_26 b11, by exact ow_79k_27 b3 c24⟩ (by decide) dX7_copyFrom_65 ?_
      obtain ⟨x100, ei101⟩ : ∃ y : Int, x10 + 1 = y := ⟨_, rfl⟩
      replace hb19 := hb19.trans (pf_let_eq ei101)
      refine pm_iinc (y := x100) (lv' := [(2, (0, x100)), (0, (3, 4)), (1, (3, 35))]) hC 2 dX7_copyFrom_66 (by decide) rfl ei101 rfl ?_
      refine pm_goto (tgt := 10) hC dX7_copyFrom_69 (by decide) ?_
      refine pm_lvsub [1, 2, 0] (lv' := [(0, (3, 4)), (1, (3, 35)), (2, (0, x100))]) rfl ?_
      exact ih23 _ (by exact ow_79k_28 b3 hm21 c24 ei101) x100 (pm_up (pm_up (pm_up (pm_up V12 5 (x10 : Int).toNat y82) 6 (x10 : Int).toNat y87) 7 (x10 : Int).toNat y92) 8 (x10 : Int).toNat y97) ⟨by exact ow_79k_29 b11 ei101, by exact ow_79k_30 b3 c24 ei101⟩ ((((hV13.put 5 (x10 : Int).toNat (x := y82) (lo := (-30)) (hi := 30) rfl ⟨by exact ow_79k_31 b84, by exact ow_79k_32 b84⟩).put 6 (x10 : Int).toNat (x := y87) (lo := (-30)) (hi := 30) rfl ⟨by exact ow_79k_31 b89, by exact ow_79k_32 b89⟩).put 7 (x10 : Int).toNat (x := y92) (lo := 0) (hi := 16) rfl ⟨by exact ow_79k_26 b94, by exact ow_79k_33 b94⟩).put 8 (x10 : Int).toNat (x := y97) (lo := 0) (hi := 3) rfl ⟨by exact ow_79k_34 b99, by exact ow_79k_35 b99⟩) ((((hF14.upa 5 (x10 : Int).toNat y82 rfl).upa 6 (x10 : Int).toNat y87 rfl).upa 7 (x10 : Int).toNat y92 rfl).upa 8 (x10 : Int).toNat y97 rfl) e15 e16 (hT.trans (pf_val_inl hb19)) rfl
  refine pm_lvsub [1, 2, 0] (lv' := [(0, (3, 4)), (1, (3, 35)), (2, (0, 0))]) rfl ?_
  exact L20 _ 0 V4 ⟨by decide, by decide⟩ hV6 hF7 e8 e9 hT rfl
set_option maxHeartbeats 4000000 in
set_option maxRecDepth 100000 in
theorem fD_X11_back_0 (a1 : Int) (h0 : (-2147483648) ≤ a1 ∧ a1 ≤ 2147483647) : pm_K 2 yX11_back cX11_back 2 (some .boolean) (fun av V => av = [(3, 0), (0, a1)] ∧ pm_ok 0 90 V) (fun _ V r V' => ∃ y, r = some (0, y) ∧ (0 ≤ y ∧ y ≤ 1) ∧ pm_ok 0 90 V' ∧ pm_ff [5, 6, 7, 8, 9, 10, 11, 12, 13] [(4, 1), (4, 6)] V V' ∧ F_X11_back a1 V = (y, V')) := by
  refine pm_MT.of (by decide) ⟨Nat.le_refl _, by decide⟩ (fun av V h => by rw [h.1]; exact (by decide : pm_words [(3, 0), (0, 0)] ≤ 2)) ?_
  rintro X av V0 hC - hR ⟨rfl, hV0⟩
  change pm_J X 0 [(0, (3, 0)), (1, (0, a1))] [] 118 V0
  have hT := F_X11_back_eq a1 V0
  refine pm_iload_n hC 1 dX11_back_0 rfl ?_
  refine pm_if_lt (tgt := 21) hC ⟨by exact ow_79k_41 h0, by exact ow_79k_42 h0⟩ dX11_back_1 (by decide) (fun c1 => ?_) (fun c1 => ?_)
  · skip
    replace hT := hT.trans (if_pos c1)
    refine pm_iconst (v := 0) hC dX11_back_21 ?_
    exact pm_iret hC hR (pm_narZ (by exact ow_79k_38)) ⟨0, rfl, ⟨by exact ow_79k_39, by exact ow_79k_40⟩, hV0, (pm_ff.rf (cs := [5, 6, 7, 8, 9, 10, 11, 12, 13]) (fs := [(4, 1), (4, 6)]) (V := V0)), hT⟩ dX11_back_22
  · skip
    replace hT := hT.trans (if_neg (Int.not_lt.mpr c1))
    refine pm_iload_n hC 1 dX11_back_4 rfl ?_
    refine pm_iconst (v := 3) hC dX11_back_5 ?_
    refine pm_icmp_ge (tgt := 21) hC ⟨by exact ow_79k_43 c1, by exact ow_79k_42 h0⟩ ⟨by decide, by decide⟩ dX11_back_6 (by decide) (fun c2 => ?_) (fun c2 => ?_)
    · skip
      replace hT := hT.trans (if_pos c2)
      refine pm_iconst (v := 0) hC dX11_back_21 ?_
      exact pm_iret hC hR (pm_narZ (by exact ow_79k_38)) ⟨0, rfl, ⟨by exact ow_79k_39, by exact ow_79k_40⟩, hV0, (pm_ff.rf (cs := [5, 6, 7, 8, 9, 10, 11, 12, 13]) (fs := [(4, 1), (4, 6)]) (V := V0)), hT⟩ dX11_back_22
    · skip
      replace hT := hT.trans (if_neg (Int.not_le.mpr c2))
      refine pm_aload_n hC 0 (by decide) dX11_back_9 rfl ?_
      have e3 : V0 0 4 = 14 := hV0.one 0 4 (by decide) (by decide) rfl
      refine pm_getf (v := 14) hC 0 fl_X11_28 rfl rfl (by decide) rfl e3 dX11_back_10 ?_
      refine pm_iload_n hC 1 dX11_back_13 rfl ?_
      rcases (show a1 = (0 : Int) ∨ a1 = (1 : Int) ∨ a1 = (2 : Int) by exact ow_79k_44 c1 c2) with hk | hk | hk
      · skip
        have e4 : V0 14 (a1 : Int).toNat = 15 := by rw [hk]; exact hV0.one 14 0 (by decide) (by decide) rfl
        replace hT := hT.trans (if_pos hk)
        refine pm_aaload (len := 3) (v := 15) hC 14 rfl rfl (by decide) ⟨by exact ow_79k_45 c1, by exact ow_79k_46 hk⟩ (by decide) e4 dX11_back_14 ?_
        obtain ⟨y5, e6⟩ : ∃ y, V0 15 0 = y := ⟨_, rfl⟩
        have b7 := hV0.get 15 0 (lo := 0) (hi := 1) (by decide) (by decide) rfl
        rw [e6] at b7
        replace hT := hT.trans (pf_let_eq e6)
        refine pm_getf (v := y5) hC 15 fl_X11_132 rfl rfl (by decide) rfl e6 dX11_back_15 ?_
        refine pm_if_ne (tgt := 23) hC ⟨by exact ow_79k_36 b7, by exact ow_79k_37 b7⟩ dX11_back_18 (by decide) (fun c8 => ?_) (fun c8 => ?_)
        · skip
          replace hT := hT.trans (if_pos c8)
          refine pm_aload_n hC 0 (by decide) dX11_back_23 rfl ?_
          have e9 : V0 0 3 = 4 := hV0.one 0 3 (by decide) (by decide) rfl
          refine pm_getf (v := 4) hC 0 fl_X11_24 rfl rfl (by decide) rfl e9 dX11_back_24 ?_
          refine pm_aload_n hC 0 (by decide) dX11_back_27 rfl ?_
          refine pm_getf (v := 14) hC 0 fl_X11_28 rfl rfl (by decide) rfl e3 dX11_back_28 ?_
          refine pm_iload_n hC 1 dX11_back_31 rfl ?_
          rcases (show a1 = (0 : Int) ∨ a1 = (1 : Int) ∨ a1 = (2 : Int) by exact ow_79k_47 c1 hk) with hk | hk | hk
          · skip
            have e10 : V0 14 (a1 : Int).toNat = 15 := by rw [hk]; exact hV0.one 14 0 (by decide) (by decide) rfl
            replace hT := hT.trans (if_pos hk)
            refine pm_aaload (len := 3) (v := 15) hC 14 rfl rfl (by decide) ⟨by exact ow_79k_45 c1, by exact ow_79k_46 hk⟩ (by decide) e10 dX11_back_32 ?_
            refine pm_callV (ci := 7) (as := [(3, 15)]) (st := []) hC 4 fD_X7_copyFrom_4_15 lm_X11_335 li_X7_copyFrom (by decide) (by decide) rfl rfl rfl (by decide) rfl rfl (Nat.le_of_ble_eq_true rfl) ⟨Nat.le_refl _, Or.inl rfl⟩ dX11_back_33 ⟨rfl, hV0⟩ (fun r11 V12 hp13 => ?_)
            obtain ⟨rfl, hV14, hF15, hE16⟩ := hp13
            replace hT := hT.trans (pf_call_eq hE16)
            change pm_J X 36 [(0, (3, 0)), (1, (0, a1))] [] 118 V12
            have hF17 := pm_ff.tr (pm_ff.rf (cs := [5, 6, 7, 8, 9, 10, 11, 12, 13]) (fs := [(4, 1), (4, 6)]) (V := V0)) hF15 (by decide) (by decide)
            have e18 : V12 0 4 = 14 := by rw [hF15 0 4 (by decide) (by decide)]; exact e3
            have e19 : V12 15 0 = y5 := by rw [hF15 15 0 (by decide) (by decide)]; exact e6
            have e20 : V12 0 3 = 4 := by rw [hF15 0 3 (by decide) (by decide)]; exact e9
            refine pm_iconst (v := 1) hC dX11_back_36 ?_
            exact pm_iret hC hR (pm_narZ (by exact ow_79k_48)) ⟨1, rfl, ⟨by exact ow_79k_40, by exact ow_79k_49⟩, hV14, hF17, hT⟩ dX11_back_37
          · skip
            have e21 : V0 14 (a1 : Int).toNat = 25 := by rw [hk]; exact hV0.one 14 1 (by decide) (by decide) rfl
            replace hT := hT.trans (if_neg (by exact ow_79k_59 e4 e21))
            replace hT := hT.trans (if_pos hk)
            refine pm_aaload (len := 3) (v := 25) hC 14 rfl rfl (by decide) ⟨by exact ow_79k_60 e4 e21, by exact ow_79k_61 e4 e21⟩ (by decide) e21 dX11_back_32 ?_
            refine pm_callV (ci := 7) (as := [(3, 25)]) (st := []) hC 4 fD_X7_copyFrom_4_25 lm_X11_335 li_X7_copyFrom (by decide) (by decide) rfl rfl rfl (by decide) rfl rfl (Nat.le_of_ble_eq_true rfl) ⟨Nat.le_refl _, Or.inl rfl⟩ dX11_back_33 ⟨rfl, hV0⟩ (fun r22 V23 hp24 => ?_)
            obtain ⟨rfl, hV25, hF26, hE27⟩ := hp24
            replace hT := hT.trans (pf_call_eq hE27)
            change pm_J X 36 [(0, (3, 0)), (1, (0, a1))] [] 118 V23
            have hF28 := pm_ff.tr (pm_ff.rf (cs := [5, 6, 7, 8, 9, 10, 11, 12, 13]) (fs := [(4, 1), (4, 6)]) (V := V0)) hF26 (by decide) (by decide)
            have e29 : V23 0 4 = 14 := by rw [hF26 0 4 (by decide) (by decide)]; exact e3
            have e30 : V23 15 0 = y5 := by rw [hF26 15 0 (by decide) (by decide)]; exact e6
            have e31 : V23 0 3 = 4 := by rw [hF26 0 3 (by decide) (by decide)]; exact e9
            refine pm_iconst (v := 1) hC dX11_back_36 ?_
            exact pm_iret hC hR (pm_narZ (by exact ow_79k_62 e4 e21)) ⟨1, rfl, ⟨by exact ow_79k_40, by exact ow_79k_49⟩, hV25, hF28, hT⟩ dX11_back_37
          · skip
            have e32 : V0 14 (a1 : Int).toNat = 35 := by rw [hk]; exact hV0.one 14 2 (by decide) (by decide) rfl
            replace hT := hT.trans (if_neg (by exact ow_79k_63 e4 e32))
            replace hT := hT.trans (if_neg (by exact ow_79k_64 e4 e32))
            refine pm_aaload (len := 3) (v := 35) hC 14 rfl rfl (by decide) ⟨by exact ow_79k_65 e4 e32, by exact ow_79k_66 e4 e32⟩ (by decide) e32 dX11_back_32 ?_
            refine pm_callV (ci := 7) (as := [(3, 35)]) (st := []) hC 4 fD_X7_copyFrom_4_35 lm_X11_335 li_X7_copyFrom (by decide) (by decide) rfl rfl rfl (by decide) rfl rfl (Nat.le_of_ble_eq_true rfl) ⟨Nat.le_refl _, Or.inl rfl⟩ dX11_back_33 ⟨rfl, hV0⟩ (fun r33 V34 hp35 => ?_)
            obtain ⟨rfl, hV36, hF37, hE38⟩ := hp35
            replace hT := hT.trans (pf_call_eq hE38)
            change pm_J X 36 [(0, (3, 0)), (1, (0, a1))] [] 118 V34
            have hF39 := pm_ff.tr (pm_ff.rf (cs := [5, 6, 7, 8, 9, 10, 11, 12, 13]) (fs := [(4, 1), (4, 6)]) (V := V0)) hF37 (by decide) (by decide)
            have e40 : V34 0 4 = 14 := by rw [hF37 0 4 (by decide) (by decide)]; exact e3
            have e41 : V34 15 0 = y5 := by rw [hF37 15 0 (by decide) (by decide)]; exact e6
            have e42 : V34 0 3 = 4 := by rw [hF37 0 3 (by decide) (by decide)]; exact e9
            refine pm_iconst (v := 1) hC dX11_back_36 ?_
            exact pm_iret hC hR (pm_narZ (by exact ow_79k_67 e4 e32)) ⟨1, rfl, ⟨by exact ow_79k_40, by exact ow_79k_49⟩, hV36, hF39, hT⟩ dX11_back_37
        · skip
          replace hT := hT.trans (if_neg (fun q => q c8))
          refine pm_iconst (v := 0) hC dX11_back_21 ?_
          exact pm_iret hC hR (pm_narZ (by exact ow_79k_38)) ⟨0, rfl, ⟨by exact ow_79k_39, by exact ow_79k_40⟩, hV0, (pm_ff.rf (cs := [5, 6, 7, 8, 9, 10, 11, 12, 13]) (fs := [(4, 1), (4, 6)]) (V := V0)), hT⟩ dX11_back_22
      · skip
        have e43 : V0 14 (a1 : Int).toNat = 25 := by rw [hk]; exact hV0.one 14 1 (by decide) (by decide) rfl
        replace hT := hT.trans (if_neg (by exact ow_79k_50 hk))
        replace hT := hT.trans (if_pos hk)
        refine pm_aaload (len := 3) (v := 25) hC 14 rfl rfl (by decide) ⟨by exact ow_79k_51 hk, by exact ow_79k_52 hk⟩ (by decide) e43 dX11_back_14 ?_
        obtain ⟨y44, e45⟩ : ∃ y, V0 25 0 = y := ⟨_, rfl⟩
        have b46 := hV0.get 25 0 (lo := 0) (hi := 1) (by decide) (by decide) rfl
        rw [e45] at b46
        replace hT := hT.trans (pf_let_eq e45)
        refine pm_getf (v := y44) hC 25 fl_X11_132 rfl rfl (by decide) rfl e45 dX11_back_15 ?_
        refine pm_if_ne (tgt := 23) hC ⟨by exact ow_79k_36 b46, by exact ow_79k_37 b46⟩ dX11_back_18 (by decide) (fun c47 => ?_) (fun c47 => ?_)
        · skip
          replace hT := hT.trans (if_pos c47)
          refine pm_aload_n hC 0 (by decide) dX11_back_23 rfl ?_
          have e48 : V0 0 3 = 4 := hV0.one 0 3 (by decide) (by decide) rfl
          refine pm_getf (v := 4) hC 0 fl_X11_24 rfl rfl (by decide) rfl e48 dX11_back_24 ?_
          refine pm_aload_n hC 0 (by decide) dX11_back_27 rfl ?_
          refine pm_getf (v := 14) hC 0 fl_X11_28 rfl rfl (by decide) rfl e3 dX11_back_28 ?_
          refine pm_iload_n hC 1 dX11_back_31 rfl ?_
          rcases (show a1 = (0 : Int) ∨ a1 = (1 : Int) ∨ a1 = (2 : Int) by exact ow_79k_57 hk) with hk | hk | hk
          · skip
            have e49 : V0 14 (a1 : Int).toNat = 15 := by rw [hk]; exact hV0.one 14 0 (by decide) (by decide) rfl
            replace hT := hT.trans (if_pos hk)
            refine pm_aaload (len := 3) (v := 15) hC 14 rfl rfl (by decide) ⟨by exact ow_79k_68 e43 e49, by exact ow_79k_69 e43 e49⟩ (by decide) e49 dX11_back_32 ?_
            refine pm_callV (ci := 7) (as := [(3, 15)]) (st := []) hC 4 fD_X7_copyFrom_4_15 lm_X11_335 li_X7_copyFrom (by decide) (by decide) rfl rfl rfl (by decide) rfl rfl (Nat.le_of_ble_eq_true rfl) ⟨Nat.le_refl _, Or.inl rfl⟩ dX11_back_33 ⟨rfl, hV0⟩ (fun r50 V51 hp52 => ?_)
            obtain ⟨rfl, hV53, hF54, hE55⟩ := hp52
            replace hT := hT.trans (pf_call_eq hE55)
            change pm_J X 36 [(0, (3, 0)), (1, (0, a1))] [] 118 V51
            have hF56 := pm_ff.tr (pm_ff.rf (cs := [5, 6, 7, 8, 9, 10, 11, 12, 13]) (fs := [(4, 1), (4, 6)]) (V := V0)) hF54 (by decide) (by decide)
            have e57 : V51 0 4 = 14 := by rw [hF54 0 4 (by decide) (by decide)]; exact e3
            have e58 : V51 25 0 = y44 := by rw [hF54 25 0 (by decide) (by decide)]; exact e45
            have e59 : V51 0 3 = 4 := by rw [hF54 0 3 (by decide) (by decide)]; exact e48
            refine pm_iconst (v := 1) hC dX11_back_36 ?_
            exact pm_iret hC hR (pm_narZ (by exact ow_79k_70 e43 e49)) ⟨1, rfl, ⟨by exact ow_79k_40, by exact ow_79k_49⟩, hV53, hF56, hT⟩ dX11_back_37
          · skip
            have e60 : V0 14 (a1 : Int).toNat = 25 := by rw [hk]; exact hV0.one 14 1 (by decide) (by decide) rfl
            replace hT := hT.trans (if_neg (by exact ow_79k_50 hk))
            replace hT := hT.trans (if_pos hk)
            refine pm_aaload (len := 3) (v := 25) hC 14 rfl rfl (by decide) ⟨by exact ow_79k_51 hk, by exact ow_79k_52 hk⟩ (by decide) e60 dX11_back_32 ?_
            refine pm_callV (ci := 7) (as := [(3, 25)]) (st := []) hC 4 fD_X7_copyFrom_4_25 lm_X11_335 li_X7_copyFrom (by decide) (by decide) rfl rfl rfl (by decide) rfl rfl (Nat.le_of_ble_eq_true rfl) ⟨Nat.le_refl _, Or.inl rfl⟩ dX11_back_33 ⟨rfl, hV0⟩ (fun r61 V62 hp63 => ?_)
            obtain ⟨rfl, hV64, hF65, hE66⟩ := hp63
            replace hT := hT.trans (pf_call_eq hE66)
            change pm_J X 36 [(0, (3, 0)), (1, (0, a1))] [] 118 V62
            have hF67 := pm_ff.tr (pm_ff.rf (cs := [5, 6, 7, 8, 9, 10, 11, 12, 13]) (fs := [(4, 1), (4, 6)]) (V := V0)) hF65 (by decide) (by decide)
            have e68 : V62 0 4 = 14 := by rw [hF65 0 4 (by decide) (by decide)]; exact e3
            have e69 : V62 25 0 = y44 := by rw [hF65 25 0 (by decide) (by decide)]; exact e45
            have e70 : V62 0 3 = 4 := by rw [hF65 0 3 (by decide) (by decide)]; exact e48
            refine pm_iconst (v := 1) hC dX11_back_36 ?_
            exact pm_iret hC hR (pm_narZ (by exact ow_79k_48)) ⟨1, rfl, ⟨by exact ow_79k_40, by exact ow_79k_49⟩, hV64, hF67, hT⟩ dX11_back_37
          · skip
            have e71 : V0 14 (a1 : Int).toNat = 35 := by rw [hk]; exact hV0.one 14 2 (by decide) (by decide) rfl
            replace hT := hT.trans (if_neg (by exact ow_79k_71 e43 e71))
            replace hT := hT.trans (if_neg (by exact ow_79k_72 e43 e71))
            refine pm_aaload (len := 3) (v := 35) hC 14 rfl rfl (by decide) ⟨by exact ow_79k_73 e43 e71, by exact ow_79k_74 e43 e71⟩ (by decide) e71 dX11_back_32 ?_
            refine pm_callV (ci := 7) (as := [(3, 35)]) (st := []) hC 4 fD_X7_copyFrom_4_35 lm_X11_335 li_X7_copyFrom (by decide) (by decide) rfl rfl rfl (by decide) rfl rfl (Nat.le_of_ble_eq_true rfl) ⟨Nat.le_refl _, Or.inl rfl⟩ dX11_back_33 ⟨rfl, hV0⟩ (fun r72 V73 hp74 => ?_)
            obtain ⟨rfl, hV75, hF76, hE77⟩ := hp74
            replace hT := hT.trans (pf_call_eq hE77)
            change pm_J X 36 [(0, (3, 0)), (1, (0, a1))] [] 118 V73
            have hF78 := pm_ff.tr (pm_ff.rf (cs := [5, 6, 7, 8, 9, 10, 11, 12, 13]) (fs := [(4, 1), (4, 6)]) (V := V0)) hF76 (by decide) (by decide)
            have e79 : V73 0 4 = 14 := by rw [hF76 0 4 (by decide) (by decide)]; exact e3
            have e80 : V73 25 0 = y44 := by rw [hF76 25 0 (by decide) (by decide)]; exact e45
            have e81 : V73 0 3 = 4 := by rw [hF76 0 3 (by decide) (by decide)]; exact e48
            refine pm_iconst (v := 1) hC dX11_back_36 ?_
            exact pm_iret hC hR (pm_narZ (by exact ow_79k_75 e43 e71)) ⟨1, rfl, ⟨by exact ow_79k_40, by exact ow_79k_49⟩, hV75, hF78, hT⟩ dX11_back_37
        · skip
          replace hT := hT.trans (if_neg (fun q => q c47))
          refine pm_iconst (v := 0) hC dX11_back_21 ?_
          exact pm_iret hC hR (pm_narZ (by exact ow_79k_38)) ⟨0, rfl, ⟨by exact ow_79k_39, by exact ow_79k_40⟩, hV0, (pm_ff.rf (cs := [5, 6, 7, 8, 9, 10, 11, 12, 13]) (fs := [(4, 1), (4, 6)]) (V := V0)), hT⟩ dX11_back_22
      · skip
        have e82 : V0 14 (a1 : Int).toNat = 35 := by rw [hk]; exact hV0.one 14 2 (by decide) (by decide) rfl
        replace hT := hT.trans (if_neg (by exact ow_79k_53 hk))
        replace hT := hT.trans (if_neg (by exact ow_79k_54 hk))
        refine pm_aaload (len := 3) (v := 35) hC 14 rfl rfl (by decide) ⟨by exact ow_79k_55 hk, by exact ow_79k_56 c2⟩ (by decide) e82 dX11_back_14 ?_
        obtain ⟨y83, e84⟩ : ∃ y, V0 35 0 = y := ⟨_, rfl⟩
        have b85 := hV0.get 35 0 (lo := 0) (hi := 1) (by decide) (by decide) rfl
        rw [e84] at b85
        replace hT := hT.trans (pf_let_eq e84)
        refine pm_getf (v := y83) hC 35 fl_X11_132 rfl rfl (by decide) rfl e84 dX11_back_15 ?_
        refine pm_if_ne (tgt := 23) hC ⟨by exact ow_79k_36 b85, by exact ow_79k_37 b85⟩ dX11_back_18 (by decide) (fun c86 => ?_) (fun c86 => ?_)
        · skip
          replace hT := hT.trans (if_pos c86)
          refine pm_aload_n hC 0 (by decide) dX11_back_23 rfl ?_
          have e87 : V0 0 3 = 4 := hV0.one 0 3 (by decide) (by decide) rfl
          refine pm_getf (v := 4) hC 0 fl_X11_24 rfl rfl (by decide) rfl e87 dX11_back_24 ?_
          refine pm_aload_n hC 0 (by decide) dX11_back_27 rfl ?_
          refine pm_getf (v := 14) hC 0 fl_X11_28 rfl rfl (by decide) rfl e3 dX11_back_28 ?_
          refine pm_iload_n hC 1 dX11_back_31 rfl ?_
          rcases (show a1 = (0 : Int) ∨ a1 = (1 : Int) ∨ a1 = (2 : Int) by exact ow_79k_58 c2 hk) with hk | hk | hk
          · skip
            have e88 : V0 14 (a1 : Int).toNat = 15 := by rw [hk]; exact hV0.one 14 0 (by decide) (by decide) rfl
            replace hT := hT.trans (if_pos hk)
            refine pm_aaload (len := 3) (v := 15) hC 14 rfl rfl (by decide) ⟨by exact ow_79k_76 e82 e88, by exact ow_79k_77 e82 e88⟩ (by decide) e88 dX11_back_32 ?_
            refine pm_callV (ci := 7) (as := [(3, 15)]) (st := []) hC 4 fD_X7_copyFrom_4_15 lm_X11_335 li_X7_copyFrom (by decide) (by decide) rfl rfl rfl (by decide) rfl rfl (Nat.le_of_ble_eq_true rfl) ⟨Nat.le_refl _, Or.inl rfl⟩ dX11_back_33 ⟨rfl, hV0⟩ (fun r89 V90 hp91 => ?_)
            obtain ⟨rfl, hV92, hF93, hE94⟩ := hp91
            replace hT := hT.trans (pf_call_eq hE94)
            change pm_J X 36 [(0, (3, 0)), (1, (0, a1))] [] 118 V90
            have hF95 := pm_ff.tr (pm_ff.rf (cs := [5, 6, 7, 8, 9, 10, 11, 12, 13]) (fs := [(4, 1), (4, 6)]) (V := V0)) hF93 (by decide) (by decide)
            have e96 : V90 0 4 = 14 := by rw [hF93 0 4 (by decide) (by decide)]; exact e3
            have e97 : V90 35 0 = y83 := by rw [hF93 35 0 (by decide) (by decide)]; exact e84
            have e98 : V90 0 3 = 4 := by rw [hF93 0 3 (by decide) (by decide)]; exact e87
            refine pm_iconst (v := 1) hC dX11_back_36 ?_
            exact pm_iret hC hR (pm_narZ (by exact ow_79k_78 e82 e88)) ⟨1, rfl, ⟨by exact ow_79k_40, by exact ow_79k_49⟩, hV92, hF95, hT⟩ dX11_back_37
          · skip
            have e99 : V0 14 (a1 : Int).toNat = 25 := by rw [hk]; exact hV0.one 14 1 (by decide) (by decide) rfl
            replace hT := hT.trans (if_neg (by exact ow_79k_79 e82 e99))
            replace hT := hT.trans (if_pos hk)
            refine pm_aaload (len := 3) (v := 25) hC 14 rfl rfl (by decide) ⟨by exact ow_79k_80 e82 e99, by exact ow_79k_81 e82 e99⟩ (by decide) e99 dX11_back_32 ?_
            refine pm_callV (ci := 7) (as := [(3, 25)]) (st := []) hC 4 fD_X7_copyFrom_4_25 lm_X11_335 li_X7_copyFrom (by decide) (by decide) rfl rfl rfl (by decide) rfl rfl (Nat.le_of_ble_eq_true rfl) ⟨Nat.le_refl _, Or.inl rfl⟩ dX11_back_33 ⟨rfl, hV0⟩ (fun r100 V101 hp102 => ?_)
            obtain ⟨rfl, hV103, hF104, hE105⟩ := hp102
            replace hT := hT.trans (pf_call_eq hE105)
            change pm_J X 36 [(0, (3, 0)), (1, (0, a1))] [] 118 V101
            have hF106 := pm_ff.tr (pm_ff.rf (cs := [5, 6, 7, 8, 9, 10, 11, 12, 13]) (fs := [(4, 1), (4, 6)]) (V := V0)) hF104 (by decide) (by decide)
            have e107 : V101 0 4 = 14 := by rw [hF104 0 4 (by decide) (by decide)]; exact e3
            have e108 : V101 35 0 = y83 := by rw [hF104 35 0 (by decide) (by decide)]; exact e84
            have e109 : V101 0 3 = 4 := by rw [hF104 0 3 (by decide) (by decide)]; exact e87
            refine pm_iconst (v := 1) hC dX11_back_36 ?_
            exact pm_iret hC hR (pm_narZ (by exact ow_79k_82 e82 e99)) ⟨1, rfl, ⟨by exact ow_79k_40, by exact ow_79k_49⟩, hV103, hF106, hT⟩ dX11_back_37
          · skip
            have e110 : V0 14 (a1 : Int).toNat = 35 := by rw [hk]; exact hV0.one 14 2 (by decide) (by decide) rfl
            replace hT := hT.trans (if_neg (by exact ow_79k_53 hk))
            replace hT := hT.trans (if_neg (by exact ow_79k_54 hk))
            refine pm_aaload (len := 3) (v := 35) hC 14 rfl rfl (by decide) ⟨by exact ow_79k_55 hk, by exact ow_79k_56 c2⟩ (by decide) e110 dX11_back_32 ?_
            refine pm_callV (ci := 7) (as := [(3, 35)]) (st := []) hC 4 fD_X7_copyFrom_4_35 lm_X11_335 li_X7_copyFrom (by decide) (by decide) rfl rfl rfl (by decide) rfl rfl (Nat.le_of_ble_eq_true rfl) ⟨Nat.le_refl _, Or.inl rfl⟩ dX11_back_33 ⟨rfl, hV0⟩ (fun r111 V112 hp113 => ?_)
            obtain ⟨rfl, hV114, hF115, hE116⟩ := hp113
            replace hT := hT.trans (pf_call_eq hE116)
            change pm_J X 36 [(0, (3, 0)), (1, (0, a1))] [] 118 V112
            have hF117 := pm_ff.tr (pm_ff.rf (cs := [5, 6, 7, 8, 9, 10, 11, 12, 13]) (fs := [(4, 1), (4, 6)]) (V := V0)) hF115 (by decide) (by decide)
            have e118 : V112 0 4 = 14 := by rw [hF115 0 4 (by decide) (by decide)]; exact e3
            have e119 : V112 35 0 = y83 := by rw [hF115 35 0 (by decide) (by decide)]; exact e84
            have e120 : V112 0 3 = 4 := by rw [hF115 0 3 (by decide) (by decide)]; exact e87
            refine pm_iconst (v := 1) hC dX11_back_36 ?_
            exact pm_iret hC hR (pm_narZ (by exact ow_79k_48)) ⟨1, rfl, ⟨by exact ow_79k_40, by exact ow_79k_49⟩, hV114, hF117, hT⟩ dX11_back_37
        · skip
          replace hT := hT.trans (if_neg (fun q => q c86))
          refine pm_iconst (v := 0) hC dX11_back_21 ?_
          exact pm_iret hC hR (pm_narZ (by exact ow_79k_38)) ⟨0, rfl, ⟨by exact ow_79k_39, by exact ow_79k_40⟩, hV0, (pm_ff.rf (cs := [5, 6, 7, 8, 9, 10, 11, 12, 13]) (fs := [(4, 1), (4, 6)]) (V := V0)), hT⟩ dX11_back_22
set_option maxHeartbeats 4000000 in
set_option maxRecDepth 100000 in
theorem fD_X11_count_0 (a1 : Int) (h0 : (-2147483648) ≤ a1 ∧ a1 ≤ 2147483647) : pm_K 2 yX11_count cX11_count 2 (some .int) (fun av V => av = [(3, 0), (0, a1)] ∧ pm_ok 0 90 V) (fun _ V r V' => ∃ y, r = some (0, y) ∧ ((-1) ≤ y ∧ y ≤ 500) ∧ V = V' ∧ F_X11_count a1 V = (y, V)) := by
  refine pm_MT.of (by decide) ⟨Nat.le_refl _, by decide⟩ (fun av V h => by rw [h.1]; exact (by decide : pm_words [(3, 0), (0, 0)] ≤ 2)) ?_
  rintro X av V0 hC - hR ⟨rfl, hV0⟩
  change pm_J X 0 [(0, (3, 0)), (1, (0, a1))] [] 118 V0
  have hT := F_X11_count_eq a1 V0
  refine pm_iload_n hC 1 dX11_count_0 rfl ?_
  rcases (show (a1 < 0 ∨ 7 < a1) ∨ a1 = (0 : Int) ∨ a1 = (1 : Int) ∨ a1 = (2 : Int) ∨ a1 = (3 : Int) ∨ a1 = (4 : Int) ∨ a1 = (5 : Int) ∨ a1 = (6 : Int) ∨ a1 = (7 : Int) by exact ow_79k_83) with c1 | c1 | c1 | c1 | c1 | c1 | c1 | c1 | c1
  · skip
    refine pm_tableOut (tgt := 134) hC ⟨by exact ow_79k_41 h0, by exact ow_79k_42 h0⟩ dX11_count_1 c1 (by decide) ?_
    replace hT := hT.trans (if_pos c1)
    refine pm_iconst (v := (-1)) hC dX11_count_134 ?_
    exact pm_iret hC hR pm_nar0 ⟨(-1), rfl, ⟨by exact ow_79k_84, by exact ow_79k_85⟩, rfl, hT⟩ dX11_count_135
  · skip
    refine pm_tableIn (tgt := 48) (off := 47) hC ⟨by exact ow_79k_86 c1, by exact ow_79k_87 c1⟩ dX11_count_1 (by exact ow_79k_88 c1) (by exact ow_79k_89 c1) (by rw [c1]; rfl) (by decide) ?_
    replace hT := hT.trans (if_neg (by exact ow_79k_90 c1))
    replace hT := hT.trans (if_pos c1)
    refine pm_aload_n hC 0 (by decide) dX11_count_48 rfl ?_
    rcases hV0.get2 0 8 (lo := 45) (hi := 51) (by decide) (by decide) rfl with e2 | e2
    · skip
      replace hT := hT.trans (if_pos e2)
      refine pm_getf (v := 45) hC 0 fl_X11_35 rfl rfl (by decide) rfl e2 dX11_count_49 ?_
      obtain ⟨y3, e4⟩ : ∃ y, V0 45 0 = y := ⟨_, rfl⟩
      have b5 := hV0.get 45 0 (lo := 0) (hi := 9) (by decide) (by decide) rfl
      rw [e4] at b5
      replace hT := hT.trans (pf_let_eq e4)
      refine pm_getf (v := y3) hC 45 fl_X11_136 rfl rfl (by decide) rfl e4 dX11_count_52 ?_
      exact pm_iret hC hR pm_nar0 ⟨y3, rfl, ⟨by exact ow_79k_91 b5, by exact ow_79k_92 b5⟩, rfl, hT⟩ dX11_count_55
    · skip
      replace hT := hT.trans (if_neg (by rw [e2]; decide))
      refine pm_getf (v := 51) hC 0 fl_X11_35 rfl rfl (by decide) rfl e2 dX11_count_49 ?_
      obtain ⟨y6, e7⟩ : ∃ y, V0 51 0 = y := ⟨_, rfl⟩
      have b8 := hV0.get 51 0 (lo := 0) (hi := 9) (by decide) (by decide) rfl
      rw [e7] at b8
      replace hT := hT.trans (pf_let_eq e7)
      refine pm_getf (v := y6) hC 51 fl_X11_136 rfl rfl (by decide) rfl e7 dX11_count_52 ?_
      exact pm_iret hC hR pm_nar0 ⟨y6, rfl, ⟨by exact ow_79k_91 b8, by exact ow_79k_92 b8⟩, rfl, hT⟩ dX11_count_55
  · skip
    refine pm_tableIn (tgt := 56) (off := 55) hC ⟨by exact ow_79k_93 c1, by exact ow_79k_94 c1⟩ dX11_count_1 (by exact ow_79k_51 c1) (by exact ow_79k_95 c1) (by rw [c1]; rfl) (by decide) ?_
    replace hT := hT.trans (if_neg (by exact ow_79k_96 c1))
    replace hT := hT.trans (if_neg (by exact ow_79k_50 c1))
    replace hT := hT.trans (if_pos c1)
    refine pm_aload_n hC 0 (by decide) dX11_count_56 rfl ?_
    rcases hV0.get2 0 8 (lo := 45) (hi := 51) (by decide) (by decide) rfl with e9 | e9
    · skip
      replace hT := hT.trans (if_pos e9)
      refine pm_getf (v := 45) hC 0 fl_X11_35 rfl rfl (by decide) rfl e9 dX11_count_57 ?_
      obtain ⟨y10, e11⟩ : ∃ y, V0 45 10 = y := ⟨_, rfl⟩
      have b12 := hV0.get 45 10 (lo := 0) (hi := 12) (by decide) (by decide) rfl
      rw [e11] at b12
      replace hT := hT.trans (pf_let_eq e11)
      refine pm_getf (v := y10) hC 45 fl_X11_156 rfl rfl (by decide) rfl e11 dX11_count_60 ?_
      exact pm_iret hC hR pm_nar0 ⟨y10, rfl, ⟨by exact ow_79k_97 b12, by exact ow_79k_98 b12⟩, rfl, hT⟩ dX11_count_63
    · skip
      replace hT := hT.trans (if_neg (by rw [e9]; decide))
      refine pm_getf (v := 51) hC 0 fl_X11_35 rfl rfl (by decide) rfl e9 dX11_count_57 ?_
      obtain ⟨y13, e14⟩ : ∃ y, V0 51 10 = y := ⟨_, rfl⟩
      have b15 := hV0.get 51 10 (lo := 0) (hi := 12) (by decide) (by decide) rfl
      rw [e14] at b15
      replace hT := hT.trans (pf_let_eq e14)
      refine pm_getf (v := y13) hC 51 fl_X11_156 rfl rfl (by decide) rfl e14 dX11_count_60 ?_
      exact pm_iret hC hR pm_nar0 ⟨y13, rfl, ⟨by exact ow_79k_97 b15, by exact ow_79k_98 b15⟩, rfl, hT⟩ dX11_count_63
  · skip
    refine pm_tableIn (tgt := 64) (off := 63) hC ⟨by exact ow_79k_99 c1, by exact ow_79k_100 c1⟩ dX11_count_1 (by exact ow_79k_55 c1) (by exact ow_79k_101 c1) (by rw [c1]; rfl) (by decide) ?_
    replace hT := hT.trans (if_neg (by exact ow_79k_102 c1))
    replace hT := hT.trans (if_neg (by exact ow_79k_53 c1))
    replace hT := hT.trans (if_neg (by exact ow_79k_54 c1))
    replace hT := hT.trans (if_pos c1)
    refine pm_aload_n hC 0 (by decide) dX11_count_64 rfl ?_
    have e16 : V0 0 3 = 4 := hV0.one 0 3 (by decide) (by decide) rfl
    refine pm_getf (v := 4) hC 0 fl_X11_24 rfl rfl (by decide) rfl e16 dX11_count_65 ?_
    obtain ⟨y17, e18⟩ : ∃ y, V0 4 1 = y := ⟨_, rfl⟩
    have b19 := hV0.get 4 1 (lo := 0) (hi := 10) (by decide) (by decide) rfl
    rw [e18] at b19
    replace hT := hT.trans (pf_let_eq e18)
    refine pm_getf (v := y17) hC 4 fl_X11_159 rfl rfl (by decide) rfl e18 dX11_count_68 ?_
    exact pm_iret hC hR pm_nar0 ⟨y17, rfl, ⟨by exact ow_79k_103 b19, by exact ow_79k_104 b19⟩, rfl, hT⟩ dX11_count_71
  · skip
    refine pm_tableIn (tgt := 72) (off := 71) hC ⟨by exact ow_79k_105 c1, by exact ow_79k_106 c1⟩ dX11_count_1 (by exact ow_79k_107 c1) (by exact ow_79k_108 c1) (by rw [c1]; rfl) (by decide) ?_
    replace hT := hT.trans (if_neg (by exact ow_79k_109 c1))
    replace hT := hT.trans (if_neg (by exact ow_79k_110 c1))
    replace hT := hT.trans (if_neg (by exact ow_79k_111 c1))
    replace hT := hT.trans (if_neg (by exact ow_79k_112 c1))
    replace hT := hT.trans (if_pos c1)
    refine pm_aload_n hC 0 (by decide) dX11_count_72 rfl ?_
    have e20 : V0 0 3 = 4 := hV0.one 0 3 (by decide) (by decide) rfl
    refine pm_getf (v := 4) hC 0 fl_X11_24 rfl rfl (by decide) rfl e20 dX11_count_73 ?_
    obtain ⟨y21, e22⟩ : ∃ y, V0 4 6 = y := ⟨_, rfl⟩
    have b23 := hV0.get 4 6 (lo := 0) (hi := 60) (by decide) (by decide) rfl
    rw [e22] at b23
    replace hT := hT.trans (pf_let_eq e22)
    refine pm_getf (v := y21) hC 4 fl_X11_162 rfl rfl (by decide) rfl e22 dX11_count_76 ?_
    exact pm_iret hC hR pm_nar0 ⟨y21, rfl, ⟨by exact ow_79k_113 b23, by exact ow_79k_114 b23⟩, rfl, hT⟩ dX11_count_79
  · skip
    refine pm_tableIn (tgt := 80) (off := 79) hC ⟨by exact ow_79k_115 c1, by exact ow_79k_116 c1⟩ dX11_count_1 (by exact ow_79k_117 c1) (by exact ow_79k_118 c1) (by rw [c1]; rfl) (by decide) ?_
    replace hT := hT.trans (if_neg (by exact ow_79k_119 c1))
    replace hT := hT.trans (if_neg (by exact ow_79k_120 c1))
    replace hT := hT.trans (if_neg (by exact ow_79k_121 c1))
    replace hT := hT.trans (if_neg (by exact ow_79k_122 c1))
    replace hT := hT.trans (if_neg (by exact ow_79k_123 c1))
    replace hT := hT.trans (if_pos c1)
    refine pm_aload_n hC 0 (by decide) dX11_count_80 rfl ?_
    rcases hV0.get2 0 10 (lo := 57) (hi := 63) (by decide) (by decide) rfl with e24 | e24
    · skip
      replace hT := hT.trans (if_pos e24)
      refine pm_getf (v := 57) hC 0 fl_X11_45 rfl rfl (by decide) rfl e24 dX11_count_81 ?_
      obtain ⟨y25, e26⟩ : ∃ y, V0 57 0 = y := ⟨_, rfl⟩
      have b27 := hV0.get 57 0 (lo := 0) (hi := 10) (by decide) (by decide) rfl
      rw [e26] at b27
      replace hT := hT.trans (pf_let_eq e26)
      refine pm_getf (v := y25) hC 57 fl_X11_139 rfl rfl (by decide) rfl e26 dX11_count_84 ?_
      exact pm_iret hC hR pm_nar0 ⟨y25, rfl, ⟨by exact ow_79k_103 b27, by exact ow_79k_104 b27⟩, rfl, hT⟩ dX11_count_87
    · skip
      replace hT := hT.trans (if_neg (by rw [e24]; decide))
      refine pm_getf (v := 63) hC 0 fl_X11_45 rfl rfl (by decide) rfl e24 dX11_count_81 ?_
      obtain ⟨y28, e29⟩ : ∃ y, V0 63 0 = y := ⟨_, rfl⟩
      have b30 := hV0.get 63 0 (lo := 0) (hi := 10) (by decide) (by decide) rfl
      rw [e29] at b30
      replace hT := hT.trans (pf_let_eq e29)
      refine pm_getf (v := y28) hC 63 fl_X11_139 rfl rfl (by decide) rfl e29 dX11_count_84 ?_
      exact pm_iret hC hR pm_nar0 ⟨y28, rfl, ⟨by exact ow_79k_103 b30, by exact ow_79k_104 b30⟩, rfl, hT⟩ dX11_count_87
  · skip
    refine pm_tableIn (tgt := 88) (off := 87) hC ⟨by exact ow_79k_124 c1, by exact ow_79k_125 c1⟩ dX11_count_1 (by exact ow_79k_126 c1) (by exact ow_79k_127 c1) (by rw [c1]; rfl) (by decide) ?_
    replace hT := hT.trans (if_neg (by exact ow_79k_128 c1))
    replace hT := hT.trans (if_neg (by exact ow_79k_129 c1))
    replace hT := hT.trans (if_neg (by exact ow_79k_130 c1))
    replace hT := hT.trans (if_neg (by exact ow_79k_131 c1))
    replace hT := hT.trans (if_neg (by exact ow_79k_132 c1))
    replace hT := hT.trans (if_neg (by exact ow_79k_133 c1))
    replace hT := hT.trans (if_pos c1)
    refine pm_aload_n hC 0 (by decide) dX11_count_88 rfl ?_
    refine pm_callV (ci := 11) (as := []) (st := []) hC 0 fD_X11_hasScene_0 lm_X11_165 li_X11_hasScene (by decide) (by decide) rfl rfl rfl (by decide) rfl rfl (Nat.le_of_ble_eq_true rfl) ⟨Nat.le_refl _, Or.inl rfl⟩ dX11_count_89 ⟨rfl, hV0⟩ (fun r31 V32 hp33 => ?_)
    obtain ⟨y34, rfl, b35, rfl, hE36⟩ := hp33
    replace hT := hT.trans (pf_call_eq hE36)
    change pm_J X 92 [(0, (3, 0)), (1, (0, a1))] [(0, y34)] 118 V0
    refine pm_if_eq (tgt := 105) hC ⟨by exact ow_79k_36 b35, by exact ow_79k_37 b35⟩ dX11_count_92 (by decide) (fun c37 => ?_) (fun c37 => ?_)
    · skip
      replace hT := hT.trans (if_pos c37)
      refine pm_iconst (v := 0) hC dX11_count_105 ?_
      exact pm_iret hC hR pm_nar0 ⟨0, rfl, ⟨by exact ow_79k_134, by exact ow_79k_135⟩, rfl, hT⟩ dX11_count_106
    · skip
      replace hT := hT.trans (if_neg c37)
      refine pm_aload_n hC 0 (by decide) dX11_count_95 rfl ?_
      rcases hV0.get2 0 8 (lo := 45) (hi := 51) (by decide) (by decide) rfl with e38 | e38
      · skip
        replace hT := hT.trans (if_pos e38)
        refine pm_getf (v := 45) hC 0 fl_X11_35 rfl rfl (by decide) rfl e38 dX11_count_96 ?_
        obtain ⟨y39, e40⟩ : ∃ y, V0 45 8 = y := ⟨_, rfl⟩
        have b41 := hV0.get 45 8 (lo := 0) (hi := 16) (by decide) (by decide) rfl
        rw [e40] at b41
        replace hT := hT.trans (pf_let_eq e40)
        refine pm_getf (v := y39) hC 45 fl_X11_126 rfl rfl (by decide) rfl e40 dX11_count_99 ?_
        refine pm_goto (tgt := 106) hC dX11_count_102 (by decide) ?_
        exact pm_iret hC hR pm_nar0 ⟨y39, rfl, ⟨by exact ow_79k_136 b41, by exact ow_79k_137 b41⟩, rfl, hT⟩ dX11_count_106
      · skip
        replace hT := hT.trans (if_neg (by rw [e38]; decide))
        refine pm_getf (v := 51) hC 0 fl_X11_35 rfl rfl (by decide) rfl e38 dX11_count_96 ?_
        obtain ⟨y42, e43⟩ : ∃ y, V0 51 8 = y := ⟨_, rfl⟩
        have b44 := hV0.get 51 8 (lo := 0) (hi := 16) (by decide) (by decide) rfl
        rw [e43] at b44
        replace hT := hT.trans (pf_let_eq e43)
        refine pm_getf (v := y42) hC 51 fl_X11_126 rfl rfl (by decide) rfl e43 dX11_count_99 ?_
        refine pm_goto (tgt := 106) hC dX11_count_102 (by decide) ?_
        exact pm_iret hC hR pm_nar0 ⟨y42, rfl, ⟨by exact ow_79k_136 b44, by exact ow_79k_137 b44⟩, rfl, hT⟩ dX11_count_106
  · skip
    refine pm_tableIn (tgt := 107) (off := 106) hC ⟨by exact ow_79k_138 c1, by exact ow_79k_139 c1⟩ dX11_count_1 (by exact ow_79k_140 c1) (by exact ow_79k_141 c1) (by rw [c1]; rfl) (by decide) ?_
    replace hT := hT.trans (if_neg (by exact ow_79k_142 c1))
    replace hT := hT.trans (if_neg (by exact ow_79k_143 c1))
    replace hT := hT.trans (if_neg (by exact ow_79k_144 c1))
    replace hT := hT.trans (if_neg (by exact ow_79k_145 c1))
    replace hT := hT.trans (if_neg (by exact ow_79k_146 c1))
    replace hT := hT.trans (if_neg (by exact ow_79k_147 c1))
    replace hT := hT.trans (if_neg (by exact ow_79k_148 c1))
    replace hT := hT.trans (if_pos c1)
    refine pm_aload_n hC 0 (by decide) dX11_count_107 rfl ?_
    refine pm_callV (ci := 11) (as := []) (st := []) hC 0 fD_X11_hasScene_0 lm_X11_165 li_X11_hasScene (by decide) (by decide) rfl rfl rfl (by decide) rfl rfl (Nat.le_of_ble_eq_true rfl) ⟨Nat.le_refl _, Or.inl rfl⟩ dX11_count_108 ⟨rfl, hV0⟩ (fun r45 V46 hp47 => ?_)
    obtain ⟨y48, rfl, b49, rfl, hE50⟩ := hp47
    replace hT := hT.trans (pf_call_eq hE50)
    change pm_J X 111 [(0, (3, 0)), (1, (0, a1))] [(0, y48)] 118 V0
    refine pm_if_eq (tgt := 124) hC ⟨by exact ow_79k_36 b49, by exact ow_79k_37 b49⟩ dX11_count_111 (by decide) (fun c51 => ?_) (fun c51 => ?_)
    · skip
      replace hT := hT.trans (if_pos c51)
      refine pm_iconst (v := 0) hC dX11_count_124 ?_
      exact pm_iret hC hR pm_nar0 ⟨0, rfl, ⟨by exact ow_79k_134, by exact ow_79k_135⟩, rfl, hT⟩ dX11_count_125
    · skip
      replace hT := hT.trans (if_neg c51)
      refine pm_aload_n hC 0 (by decide) dX11_count_114 rfl ?_
      rcases hV0.get2 0 8 (lo := 45) (hi := 51) (by decide) (by decide) rfl with e52 | e52
      · skip
        replace hT := hT.trans (if_pos e52)
        refine pm_getf (v := 45) hC 0 fl_X11_35 rfl rfl (by decide) rfl e52 dX11_count_115 ?_
        obtain ⟨y53, e54⟩ : ∃ y, V0 45 9 = y := ⟨_, rfl⟩
        have b55 := hV0.get 45 9 (lo := 0) (hi := 99) (by decide) (by decide) rfl
        rw [e54] at b55
        replace hT := hT.trans (pf_let_eq e54)
        refine pm_getf (v := y53) hC 45 fl_X11_169 rfl rfl (by decide) rfl e54 dX11_count_118 ?_
        refine pm_goto (tgt := 125) hC dX11_count_121 (by decide) ?_
        exact pm_iret hC hR pm_nar0 ⟨y53, rfl, ⟨by exact ow_79k_149 b55, by exact ow_79k_150 b55⟩, rfl, hT⟩ dX11_count_125
      · skip
        replace hT := hT.trans (if_neg (by rw [e52]; decide))
        refine pm_getf (v := 51) hC 0 fl_X11_35 rfl rfl (by decide) rfl e52 dX11_count_115 ?_
        obtain ⟨y56, e57⟩ : ∃ y, V0 51 9 = y := ⟨_, rfl⟩
        have b58 := hV0.get 51 9 (lo := 0) (hi := 99) (by decide) (by decide) rfl
        rw [e57] at b58
        replace hT := hT.trans (pf_let_eq e57)
        refine pm_getf (v := y56) hC 51 fl_X11_169 rfl rfl (by decide) rfl e57 dX11_count_118 ?_
        refine pm_goto (tgt := 125) hC dX11_count_121 (by decide) ?_
        exact pm_iret hC hR pm_nar0 ⟨y56, rfl, ⟨by exact ow_79k_149 b58, by exact ow_79k_150 b58⟩, rfl, hT⟩ dX11_count_125
  · skip
    refine pm_tableIn (tgt := 126) (off := 125) hC ⟨by exact ow_79k_151 c1, by exact ow_79k_152 c1⟩ dX11_count_1 (by exact ow_79k_153 c1) (by exact ow_79k_154 c1) (by rw [c1]; rfl) (by decide) ?_
    replace hT := hT.trans (if_neg (by exact ow_79k_155 c1))
    replace hT := hT.trans (if_neg (by exact ow_79k_156 c1))
    replace hT := hT.trans (if_neg (by exact ow_79k_157 c1))
    replace hT := hT.trans (if_neg (by exact ow_79k_158 c1))
    replace hT := hT.trans (if_neg (by exact ow_79k_159 c1))
    replace hT := hT.trans (if_neg (by exact ow_79k_160 c1))
    replace hT := hT.trans (if_neg (by exact ow_79k_161 c1))
    replace hT := hT.trans (if_neg (by exact ow_79k_162 c1))
    replace hT := hT.trans (if_pos c1)
    refine pm_aload_n hC 0 (by decide) dX11_count_126 rfl ?_
    have e59 : V0 0 0 = 1 := hV0.one 0 0 (by decide) (by decide) rfl
    refine pm_getf (v := 1) hC 0 fl_X11_10 rfl rfl (by decide) rfl e59 dX11_count_127 ?_
    obtain ⟨y60, e61⟩ : ∃ y, V0 1 1 = y := ⟨_, rfl⟩
    have b62 := hV0.get 1 1 (lo := 0) (hi := 500) (by decide) (by decide) rfl
    rw [e61] at b62
    replace hT := hT.trans (pf_let_eq e61)
    refine pm_getf (v := y60) hC 1 fl_X11_111 rfl rfl (by decide) rfl e61 dX11_count_130 ?_
    exact pm_iret hC hR pm_nar0 ⟨y60, rfl, ⟨by exact ow_79k_163 b62, by exact ow_79k_164 b62⟩, rfl, hT⟩ dX11_count_133
