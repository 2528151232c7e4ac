theorem ow_94c_0 {a0 : Int} (h0 : ((0 ≤ (a0 : Int)) ∧ (a0 ≤ (500 : Int)))) : ((-2147483648) ≤ ((a0 + 20) : Int)) := by omega
theorem ow_94c_1 {a0 : Int} (h0 : ((0 ≤ (a0 : Int)) ∧ (a0 ≤ (500 : Int)))) : ((a0 + 20) ≤ (2147483647 : Int)) := by omega
theorem ow_94c_2 {a0 : Int} (h0 : ((0 ≤ (a0 : Int)) ∧ (a0 ≤ (20 : Int)))) : ((-2147483648) ≤ (a0 : Int)) := by omega
theorem ow_94c_3 {a0 : Int} (h0 : ((0 ≤ (a0 : Int)) ∧ (a0 ≤ (20 : Int)))) : (a0 ≤ (2147483647 : Int)) := by omega
theorem ow_94c_4 {a0 a1 a2 a3 : Int} (h0 : ((0 ≤ (a0 : Int)) ∧ (a0 ≤ (500 : Int)))) (h1 : (a1 = ((a0 + a2) : Int))) (h2 : (20 ≤ (a2 : Int))) (h3 : (a1 = (a3 : Int))) : ((-1) ≤ (a3 : Int)) := by omega
theorem ow_94c_5 {a0 : Int} (h0 : ((0 ≤ (a0 : Int)) ∧ (a0 ≤ (500 : Int)))) : (a0 ≤ (500 : Int)) := by omega
theorem ow_94c_6 {a0 : Int} (h0 : (a0 < (20 : Int))) : (a0 ≤ (2147483647 : Int)) := by omega
theorem ow_94c_7 {a0 : Int} (h0 : (4 ≤ (a0 : Int))) : ((-2147483648) ≤ (a0 : Int)) := by omega
theorem ow_94c_8 {a0 : Int} (h0 : (8 ≤ (a0 : Int))) : ((-2147483648) ≤ (a0 : Int)) := by omega
theorem ow_94c_9 {a0 : Int} (h0 : (12 ≤ (a0 : Int))) : ((-2147483648) ≤ (a0 : Int)) := by omega
theorem ow_94c_10 {a0 : Int} (h0 : (16 ≤ (a0 : Int))) : (0 ≤ (a0 : Int)) := by omega
theorem ow_94c_11 {a0 : Int} (h0 : (16 ≤ (a0 : Int))) : ((-2147483648) ≤ (a0 : Int)) := by omega
theorem ow_94c_12 {a0 a1 a2 a3 : Int} (h0 : ((0 ≤ (a0 : Int)) ∧ (a0 ≤ (500 : Int)))) (h1 : (a1 = ((a0 + a2) : Int))) (h2 : (16 ≤ (a2 : Int))) (h3 : (a1 = (a3 : Int))) : (0 ≤ (a3 : Int)) := by omega
theorem ow_94c_13 {a0 a1 a2 a3 : Int} (h0 : ((a0 + 20) ≤ (500 : Int))) (h1 : (a1 = ((a0 + a2) : Int))) (h2 : (a2 < (20 : Int))) (h3 : (a1 = (a3 : Int))) : (a3 < (((500 : Nat) : Int) : Int)) := by omega
theorem ow_94c_14 {a0 : Int} (h0 : (((-128) ≤ (a0 : Int)) ∧ (a0 ≤ (127 : Int)))) : (((-128) ≤ (a0 : Int)) ∧ (a0 ≤ (127 : Int))) := by omega
theorem ow_94c_15 {a0 a2 : Int} {k1 : Nat} (h0 : (((20 - a0) : Int).toNat = (k1 : Nat))) (h1 : (a0 < (20 : Int))) (h2 : ((a0 + 1) = (a2 : Int))) : (((20 - a2) : Int).toNat < (k1 : Nat)) := by omega
theorem ow_94c_16 {a0 a1 : Int} (h0 : (16 ≤ (a0 : Int))) (h1 : ((a0 + 1) = (a1 : Int))) : (0 ≤ (a1 : Int)) := by omega
theorem ow_94c_17 {a0 a1 : Int} (h0 : (a0 < (20 : Int))) (h1 : ((a0 + 1) = (a1 : Int))) : (a1 ≤ (20 : Int)) := by omega
theorem ow_94c_18 {a0 : Int} (h0 : (((-128) ≤ (a0 : Int)) ∧ (a0 ≤ (127 : Int)))) : ((-128) ≤ (a0 : Int)) := by omega
theorem ow_94c_19 {a0 : Int} (h0 : (((-128) ≤ (a0 : Int)) ∧ (a0 ≤ (127 : Int)))) : (a0 ≤ (127 : Int)) := by omega
theorem ow_94c_20 {a0 a1 a2 a3 : Int} (h0 : ((0 ≤ (a0 : Int)) ∧ (a0 ≤ (500 : Int)))) (h1 : (a1 = ((a0 + a2) : Int))) (h2 : (16 ≤ (a2 : Int))) (h3 : (a1 = (a3 : Int))) : (0 ≤ ((a3 + 1) : Int)) := by omega
theorem ow_94c_21 {a0 a1 a2 a3 : Int} (h0 : ((a0 + 20) ≤ (500 : Int))) (h1 : (a1 = ((a0 + a2) : Int))) (h2 : (a2 < (20 : Int))) (h3 : (a1 = (a3 : Int))) : ((a3 + 1) ≤ (500 : Int)) := by omega
theorem ow_94c_22 {a0 a1 a2 a3 a4 : Int} (h0 : (a0 = ((a1 + a2) : Int))) (h1 : (a0 = (a3 : Int))) (h2 : ((a2 + 1) = (a4 : Int))) : ((a3 + 1) = ((a1 + a4) : Int)) := by omega
theorem ow_94c_23 {a0 : Int} (h0 : (12 ≤ (a0 : Int))) : (0 ≤ (a0 : Int)) := by omega
theorem ow_94c_24 {a0 : Int} (h0 : (a0 < (16 : Int))) : (a0 ≤ (2147483647 : Int)) := by omega
theorem ow_94c_25 {a0 a1 a2 a3 : Int} (h0 : ((0 ≤ (a0 : Int)) ∧ (a0 ≤ (500 : Int)))) (h1 : (a1 = ((a0 + a2) : Int))) (h2 : (12 ≤ (a2 : Int))) (h3 : (a1 = (a3 : Int))) : (0 ≤ (a3 : Int)) := by omega
theorem ow_94c_26 {a0 a1 a2 a3 : Int} (h0 : ((a0 + 20) ≤ (500 : Int))) (h1 : (a1 = ((a0 + a2) : Int))) (h2 : (a2 < (16 : Int))) (h3 : (a1 = (a3 : Int))) : (a3 < (((500 : Nat) : Int) : Int)) := by omega
theorem ow_94c_27 {a0 a2 : Int} {k1 : Nat} (h0 : (((20 - a0) : Int).toNat = (k1 : Nat))) (h1 : (a0 < (16 : Int))) (h2 : ((a0 + 1) = (a2 : Int))) : (((20 - a2) : Int).toNat < (k1 : Nat)) := by omega
theorem ow_94c_28 {a0 a1 : Int} (h0 : (12 ≤ (a0 : Int))) (h1 : ((a0 + 1) = (a1 : Int))) : (0 ≤ (a1 : Int)) := by omega
theorem ow_94c_29 {a0 a1 : Int} (h0 : (a0 < (16 : Int))) (h1 : ((a0 + 1) = (a1 : Int))) : (a1 ≤ (20 : Int)) := by omega
theorem ow_94c_30 {a0 a1 a2 a3 : Int} (h0 : ((0 ≤ (a0 : Int)) ∧ (a0 ≤ (500 : Int)))) (h1 : (a1 = ((a0 + a2) : Int))) (h2 : (12 ≤ (a2 : Int))) (h3 : (a1 = (a3 : Int))) : (0 ≤ ((a3 + 1) : Int)) := by omega
theorem ow_94c_31 {a0 a1 a2 a3 : Int} (h0 : ((a0 + 20) ≤ (500 : Int))) (h1 : (a1 = ((a0 + a2) : Int))) (h2 : (a2 < (16 : Int))) (h3 : (a1 = (a3 : Int))) : ((a3 + 1) ≤ (500 : Int)) := by omega
theorem ow_94c_32 {a0 : Int} (h0 : (8 ≤ (a0 : Int))) : (0 ≤ (a0 : Int)) := by omega
theorem ow_94c_33 {a0 : Int} (h0 : (a0 < (12 : Int))) : (a0 ≤ (2147483647 : Int)) := by omega
theorem ow_94c_34 {a0 a1 a2 a3 : Int} (h0 : ((0 ≤ (a0 : Int)) ∧ (a0 ≤ (500 : Int)))) (h1 : (a1 = ((a0 + a2) : Int))) (h2 : (8 ≤ (a2 : Int))) (h3 : (a1 = (a3 : Int))) : (0 ≤ (a3 : Int)) := by omega
theorem ow_94c_35 {a0 a1 a2 a3 : Int} (h0 : ((a0 + 20) ≤ (500 : Int))) (h1 : (a1 = ((a0 + a2) : Int))) (h2 : (a2 < (12 : Int))) (h3 : (a1 = (a3 : Int))) : (a3 < (((500 : Nat) : Int) : Int)) := by omega
theorem ow_94c_36 {a0 a2 : Int} {k1 : Nat} (h0 : (((20 - a0) : Int).toNat = (k1 : Nat))) (h1 : (a0 < (12 : Int))) (h2 : ((a0 + 1) = (a2 : Int))) : (((20 - a2) : Int).toNat < (k1 : Nat)) := by omega
theorem ow_94c_37 {a0 a1 : Int} (h0 : (8 ≤ (a0 : Int))) (h1 : ((a0 + 1) = (a1 : Int))) : (0 ≤ (a1 : Int)) := by omega
theorem ow_94c_38 {a0 a1 : Int} (h0 : (a0 < (12 : Int))) (h1 : ((a0 + 1) = (a1 : Int))) : (a1 ≤ (20 : Int)) := by omega
theorem ow_94c_39 {a0 a1 a2 a3 : Int} (h0 : ((0 ≤ (a0 : Int)) ∧ (a0 ≤ (500 : Int)))) (h1 : (a1 = ((a0 + a2) : Int))) (h2 : (8 ≤ (a2 : Int))) (h3 : (a1 = (a3 : Int))) : (0 ≤ ((a3 + 1) : Int)) := by omega
theorem ow_94c_40 {a0 a1 a2 a3 : Int} (h0 : ((a0 + 20) ≤ (500 : Int))) (h1 : (a1 = ((a0 + a2) : Int))) (h2 : (a2 < (12 : Int))) (h3 : (a1 = (a3 : Int))) : ((a3 + 1) ≤ (500 : Int)) := by omega
theorem ow_94c_41 {a0 : Int} (h0 : (4 ≤ (a0 : Int))) : (0 ≤ (a0 : Int)) := by omega
theorem ow_94c_42 {a0 : Int} (h0 : (a0 < (8 : Int))) : (a0 ≤ (2147483647 : Int)) := by omega
theorem ow_94c_43 {a0 a1 a2 a3 : Int} (h0 : ((0 ≤ (a0 : Int)) ∧ (a0 ≤ (500 : Int)))) (h1 : (a1 = ((a0 + a2) : Int))) (h2 : (4 ≤ (a2 : Int))) (h3 : (a1 = (a3 : Int))) : (0 ≤ (a3 : Int)) := by omega
theorem ow_94c_44 {a0 a1 a2 a3 : Int} (h0 : ((a0 + 20) ≤ (500 : Int))) (h1 : (a1 = ((a0 + a2) : Int))) (h2 : (a2 < (8 : Int))) (h3 : (a1 = (a3 : Int))) : (a3 < (((500 : Nat) : Int) : Int)) := by omega
theorem ow_94c_45 {a0 a2 : Int} {k1 : Nat} (h0 : (((20 - a0) : Int).toNat = (k1 : Nat))) (h1 : (a0 < (8 : Int))) (h2 : ((a0 + 1) = (a2 : Int))) : (((20 - a2) : Int).toNat < (k1 : Nat)) := by omega
theorem ow_94c_46 {a0 a1 : Int} (h0 : (4 ≤ (a0 : Int))) (h1 : ((a0 + 1) = (a1 : Int))) : (0 ≤ (a1 : Int)) := by omega
theorem ow_94c_47 {a0 a1 : Int} (h0 : (a0 < (8 : Int))) (h1 : ((a0 + 1) = (a1 : Int))) : (a1 ≤ (20 : Int)) := by omega
theorem ow_94c_48 {a0 a1 a2 a3 : Int} (h0 : ((0 ≤ (a0 : Int)) ∧ (a0 ≤ (500 : Int)))) (h1 : (a1 = ((a0 + a2) : Int))) (h2 : (4 ≤ (a2 : Int))) (h3 : (a1 = (a3 : Int))) : (0 ≤ ((a3 + 1) : Int)) := by omega
theorem ow_94c_49 {a0 a1 a2 a3 : Int} (h0 : ((a0 + 20) ≤ (500 : Int))) (h1 : (a1 = ((a0 + a2) : Int))) (h2 : (a2 < (8 : Int))) (h3 : (a1 = (a3 : Int))) : ((a3 + 1) ≤ (500 : Int)) := by omega
theorem ow_94c_50 {a0 : Int} (h0 : ((0 ≤ (a0 : Int)) ∧ (a0 ≤ (20 : Int)))) : (0 ≤ (a0 : Int)) := by omega
theorem ow_94c_51 {a0 : Int} (h0 : (a0 < (4 : Int))) : (a0 ≤ (2147483647 : Int)) := by omega
theorem ow_94c_52 {a0 : Int} (h0 : ((0 ≤ (a0 : Int)) ∧ (a0 ≤ (500 : Int)))) : (0 ≤ (a0 : Int)) := by omega
theorem ow_94c_53 {a0 a1 a2 a3 : Int} (h0 : ((a0 + 20) ≤ (500 : Int))) (h1 : (a1 = ((a0 + a2) : Int))) (h2 : (a2 < (4 : Int))) (h3 : (a1 = (a3 : Int))) : (a3 < (((500 : Nat) : Int) : Int)) := by omega
theorem ow_94c_54 {a0 a2 : Int} {k1 : Nat} (h0 : (((20 - a0) : Int).toNat = (k1 : Nat))) (h1 : (a0 < (4 : Int))) (h2 : ((a0 + 1) = (a2 : Int))) : (((20 - a2) : Int).toNat < (k1 : Nat)) := by omega
theorem ow_94c_55 {a0 a1 : Int} (h0 : ((0 ≤ (a0 : Int)) ∧ (a0 ≤ (20 : Int)))) (h1 : ((a0 + 1) = (a1 : Int))) : (0 ≤ (a1 : Int)) := by omega
theorem ow_94c_56 {a0 a1 : Int} (h0 : (a0 < (4 : Int))) (h1 : ((a0 + 1) = (a1 : Int))) : (a1 ≤ (20 : Int)) := by omega
theorem ow_94c_57 {a0 : Int} (h0 : ((0 ≤ (a0 : Int)) ∧ (a0 ≤ (500 : Int)))) : (0 ≤ ((a0 + 1) : Int)) := by omega
theorem ow_94c_58 {a0 a1 a2 a3 : Int} (h0 : ((a0 + 20) ≤ (500 : Int))) (h1 : (a1 = ((a0 + a2) : Int))) (h2 : (a2 < (4 : Int))) (h3 : (a1 = (a3 : Int))) : ((a3 + 1) ≤ (500 : Int)) := by omega
theorem ow_94c_59 {a0 : Int} : (a0 = ((a0 + 0) : Int)) := by omega
theorem ow_94c_60 : ((-1) ≤ ((-1) : Int)) := by omega
theorem ow_94c_61 : ((-1) ≤ (500 : Int)) := by omega
theorem ow_94c_62 {a0 : Int} (h0 : (((-2147483648) ≤ (a0 : Int)) ∧ (a0 ≤ (2147483647 : Int)))) : ((-2147483648) ≤ (a0 : Int)) := by omega
theorem ow_94c_63 {a0 : Int} (h0 : (((-2147483648) ≤ (a0 : Int)) ∧ (a0 ≤ (2147483647 : Int)))) : (a0 ≤ (2147483647 : Int)) := by omega
theorem ow_94c_64 : ((0 = (0 : Int)) ∨ (0 = (1 : Int))) := by omega
theorem ow_94c_65 : (0 ≤ (0 : Int)) := by omega
theorem ow_94c_66 : (0 ≤ (1 : Int)) := by omega
theorem ow_94c_67 {a0 a1 a2 : Int} : ((0 = (1 : Int)) → ((a0 ≤ (a1 : Int)) ∧ (a1 ≤ (a2 : Int)))) := by omega
theorem ow_94c_68 : ((1 = (0 : Int)) ∨ (1 = (1 : Int))) := by omega
theorem ow_94c_69 : (1 ≤ (1 : Int)) := by omega
theorem ow_94c_70 {a0 a1 a2 : Int} (h0 : (a0 ≤ (a1 : Int))) (h1 : (a1 ≤ (a2 : Int))) : ((1 = (1 : Int)) → ((a0 ≤ (a1 : Int)) ∧ (a1 ≤ (a2 : Int)))) := by omega
theorem ow_94c_71 {a0 : Int} (h0 : ((0 ≤ (a0 : Int)) ∧ (a0 ≤ (500 : Int)))) : ((-2147483648) ≤ (a0 : Int)) := by omega
theorem ow_94c_72 {a0 : Int} (h0 : ((0 ≤ (a0 : Int)) ∧ (a0 ≤ (500 : Int)))) : (a0 ≤ (2147483647 : Int)) := by omega
theorem ow_94c_73 {a0 a1 a2 : Int} (h0 : ((0 ≤ (a0 : Int)) ∧ ((a0 ≤ (1 : Int)) ∧ ((a0 = (1 : Int)) → ((0 ≤ (a1 : Int)) ∧ (a1 ≤ (a2 : Int))))))) : ((-2147483648) ≤ (a0 : Int)) := by omega
theorem ow_94c_74 {a0 a1 a2 : Int} (h0 : ((0 ≤ (a0 : Int)) ∧ ((a0 ≤ (1 : Int)) ∧ ((a0 = (1 : Int)) → ((0 ≤ (a1 : Int)) ∧ (a1 ≤ (a2 : Int))))))) : (a0 ≤ (2147483647 : Int)) := by omega
theorem ow_94c_75 {a0 a1 a2 : Int} (h0 : ((0 ≤ (a0 : Int)) ∧ ((a0 ≤ (1 : Int)) ∧ ((a0 = (1 : Int)) → ((0 ≤ (a1 : Int)) ∧ (a1 ≤ (a2 : Int))))))) (h1 : ¬((a0 = (0 : Int)))) : (0 ≤ (a1 : Int)) := by omega
theorem ow_94c_76 {a0 a1 a2 : Int} (h0 : ((0 ≤ (a0 : Int)) ∧ (a0 ≤ (500 : Int)))) (h1 : ((0 ≤ (a1 : Int)) ∧ ((a1 ≤ (1 : Int)) ∧ ((a1 = (1 : Int)) → ((0 ≤ (a2 : Int)) ∧ (a2 ≤ (a0 : Int))))))) (h2 : ¬((a1 = (0 : Int)))) : (a2 ≤ (500 : Int)) := by omega
theorem ow_94c_77 : ((-2147483648) ≤ ((-2147483648) : Int)) := by omega
theorem ow_94c_78 : ((-2147483648) ≤ (500 : Int)) := by omega
theorem ow_94c_79 {a0 : Int} (h0 : (((-1) ≤ (a0 : Int)) ∧ (a0 ≤ (500 : Int)))) : ((-2147483648) ≤ (a0 : Int)) := by omega
theorem ow_94c_80 {a0 : Int} (h0 : (((-1) ≤ (a0 : Int)) ∧ (a0 ≤ (500 : Int)))) : (a0 ≤ (500 : Int)) := by omega
theorem ow_94c_81 {a0 : Int} (h0 : (((-1) ≤ (a0 : Int)) ∧ (a0 ≤ (500 : Int)))) : (a0 ≤ (2147483647 : Int)) := by omega
theorem ow_94c_82 {a0 : Int} (h0 : ((0 ≤ (a0 : Int)) ∧ (a0 ≤ (10 : Int)))) : (0 ≤ (a0 : Int)) := by omega
theorem ow_94c_83 {a0 : Int} (h0 : ((0 ≤ (a0 : Int)) ∧ (a0 ≤ (10 : Int)))) : (a0 ≤ (10 : Int)) := by omega
theorem ow_94c_84 {a0 : Int} (h0 : ((0 ≤ (a0 : Int)) ∧ (a0 ≤ (100000 : Int)))) : ((-2147483648) ≤ (a0 : Int)) := by omega
theorem ow_94c_85 {a0 : Int} (h0 : ((0 ≤ (a0 : Int)) ∧ (a0 ≤ (100000 : Int)))) : (a0 ≤ (2147483647 : Int)) := by omega
theorem ow_94c_86 {a0 : Int} (h0 : ((0 ≤ (a0 : Int)) ∧ (a0 ≤ (600 : Int)))) : ((-2147483648) ≤ ((2 * a0) : Int)) := by omega
theorem ow_94c_87 {a0 : Int} (h0 : ((0 ≤ (a0 : Int)) ∧ (a0 ≤ (600 : Int)))) : ((2 * a0) ≤ (2147483647 : Int)) := by omega
theorem ow_94c_88 {a0 : Int} (h0 : ((0 ≤ (a0 : Int)) ∧ (a0 ≤ (10 : Int)))) : ((-1) ≤ (a0 : Int)) := by omega
theorem ow_94c_89 {a0 : Int} (h0 : (((-1) ≤ (a0 : Int)) ∧ (a0 ≤ (500 : Int)))) (h1 : (a0 = ((-1) : Int))) : (a0 = ((-1) : Int)) := by omega
theorem ow_94c_90 {a0 : Int} (h0 : ((0 ≤ (a0 : Int)) ∧ (a0 ≤ (600 : Int)))) : (0 ≤ (a0 : Int)) := by omega
theorem ow_94c_91 {a0 a1 : Int} {k2 : Nat} (h0 : ((2 * a0) ≤ (a1 : Int))) (h1 : (((k2 : Nat) : Int) < ((2 * a0) : Int))) : (((k2 : Nat) : Int) < (a1 : Int)) := by omega
theorem ow_94c_92 {a0 a1 : Int} (h0 : ((0 ≤ (a0 : Int)) ∧ (a0 ≤ (600 : Int)))) (h1 : (a1 < ((2 * a0) : Int))) : ((a1 : Int).toNat < (1200 : Nat)) := by omega
theorem ow_94c_93 {a0 : Int} (h0 : ((0 ≤ (a0 : Int)) ∧ (a0 ≤ (100000 : Int)))) : (0 ≤ (a0 : Int)) := by omega
theorem ow_94c_94 {a0 a1 : Int} (h0 : ((0 ≤ (a0 : Int)) ∧ (a0 ≤ (600 : Int)))) (h1 : (a1 < ((2 * a0) : Int))) : (a1 < (((1200 : Nat) : Int) : Int)) := by omega
theorem ow_94c_95 {a0 a1 a3 : Int} {k2 : Nat} (h0 : ((0 ≤ (a0 : Int)) ∧ (a0 ≤ (600 : Int)))) (h1 : (((100000 - a1) : Int).toNat = (k2 : Nat))) (h2 : (a1 < ((2 * a0) : Int))) (h3 : ((a1 + 1) = (a3 : Int))) : (((100000 - a3) : Int).toNat < (k2 : Nat)) := by omega
theorem ow_94c_96 {a0 a1 : Int} (h0 : ((0 ≤ (a0 : Int)) ∧ (a0 ≤ (100000 : Int)))) (h1 : ((a0 + 1) = (a1 : Int))) : (0 ≤ (a1 : Int)) := by omega
theorem ow_94c_97 {a0 a1 a2 : Int} (h0 : ((0 ≤ (a0 : Int)) ∧ (a0 ≤ (600 : Int)))) (h1 : (a1 < ((2 * a0) : Int))) (h2 : ((a1 + 1) = (a2 : Int))) : (a2 ≤ (100000 : Int)) := by omega
theorem ow_94c_98 {a0 : Int} : (((a0 : Int).toNat % 2) = (((a0 : Int).toNat % 2) : Nat)) := by omega
theorem ow_94c_99 {a0 a1 : Int} {k2 : Nat} (h0 : ((a0 + 1) = (a1 : Int))) (h1 : (((k2 : Nat) : Int) < (a1 : Int))) (h2 : ¬((k2 = ((a0 : Int).toNat : Nat)))) : (((k2 : Nat) : Int) < (a0 : Int)) := by omega
theorem ow_94c_100 {k0 : Nat} (h0 : (((k0 : Nat) : Int) < (0 : Int))) : ¬((((k0 : Nat) : Int) < (0 : Int))) := by omega
theorem ow_94c_101 : ((-1) ≤ (10 : Int)) := by omega
theorem ow_94c_102 {a0 : Int} (h0 : ¬((a0 = ((-1) : Int)))) : (a0 ≠ ((-1) : Int)) := by omega
theorem ow_94c_103 {a0 : Int} (h0 : ((0 ≤ (a0 : Int)) ∧ (a0 ≤ (9 : Int)))) : (0 ≤ (a0 : Int)) := by omega
theorem ow_94c_104 {a0 : Int} (h0 : ((0 ≤ (a0 : Int)) ∧ (a0 ≤ (9 : Int)))) : (a0 ≤ (9 : Int)) := by omega
theorem ow_94c_105 {a0 : Int} (h0 : ((0 ≤ (a0 : Int)) ∧ (a0 ≤ (12 : Int)))) : (0 ≤ (a0 : Int)) := by omega
theorem ow_94c_106 {a0 : Int} (h0 : ((0 ≤ (a0 : Int)) ∧ (a0 ≤ (12 : Int)))) : (a0 ≤ (12 : Int)) := by omega
theorem ow_94c_107 {a0 : Int} (h0 : ((0 ≤ (a0 : Int)) ∧ (a0 ≤ (60 : Int)))) : ((-2147483648) ≤ (a0 : Int)) := by omega
theorem ow_94c_108 {a0 : Int} (h0 : ((0 ≤ (a0 : Int)) ∧ (a0 ≤ (60 : Int)))) : (a0 ≤ (2147483647 : Int)) := by omega
theorem ow_94c_109 {a0 : Int} (h0 : ((0 ≤ (a0 : Int)) ∧ (a0 ≤ (8 : Int)))) : ((-2147483648) ≤ (a0 : Int)) := by omega
theorem ow_94c_110 {a0 : Int} (h0 : ((0 ≤ (a0 : Int)) ∧ (a0 ≤ (8 : Int)))) : (a0 ≤ (2147483647 : Int)) := by omega
theorem ow_94c_111 {a0 : Int} (h0 : (((-1) ≤ (a0 : Int)) ∧ (a0 ≤ (16 : Int)))) : ((-2147483648) ≤ (a0 : Int)) := by omega
theorem ow_94c_112 {a0 : Int} (h0 : (((-1) ≤ (a0 : Int)) ∧ (a0 ≤ (16 : Int)))) : (a0 ≤ (2147483647 : Int)) := by omega
theorem ow_94c_113 {a0 : Int} (h0 : (((-1) ≤ (a0 : Int)) ∧ (a0 ≤ (16 : Int)))) (h1 : ¬((a0 = ((-1) : Int)))) : (0 ≤ (a0 : Int)) := by omega
theorem ow_94c_114 {a0 : Int} (h0 : (((-1) ≤ (a0 : Int)) ∧ (a0 ≤ (16 : Int)))) : (a0 ≤ (16 : Int)) := by omega
theorem ow_94c_115 {a0 : Int} (h0 : ((0 ≤ (a0 : Int)) ∧ (a0 ≤ (99 : Int)))) : (0 ≤ (a0 : Int)) := by omega
theorem ow_94c_116 {a0 : Int} (h0 : ((0 ≤ (a0 : Int)) ∧ (a0 ≤ (99 : Int)))) : (a0 ≤ (99 : Int)) := by omega
theorem ow_94c_117 : (((0 : Int).toNat % 4) = (0 : Nat)) := by omega
theorem ow_94c_118 {a0 : Int} (h0 : ((0 ≤ (a0 : Int)) ∧ (a0 ≤ (3 : Int)))) : ((-2147483648) ≤ (a0 : Int)) := by omega
theorem ow_94c_119 {a0 : Int} (h0 : ((0 ≤ (a0 : Int)) ∧ (a0 ≤ (3 : Int)))) : (a0 ≤ (2147483647 : Int)) := by omega
theorem ow_94c_120 {a0 : Int} (h0 : ((0 ≤ (a0 : Int)) ∧ (a0 ≤ (9 : Int)))) : ((-1) ≤ (a0 : Int)) := by omega
theorem ow_94c_121 {a0 : Int} (h0 : (((-1) ≤ (a0 : Int)) ∧ (a0 ≤ (16 : Int)))) (h1 : ¬((a0 = ((-1) : Int)))) (h2 : (a0 = ((-1) : Int))) : False := by omega
theorem ow_94c_122 {k0 : Nat} (h0 : (k0 < (27 : Nat))) : (((k0 : Nat) : Int) < (27 : Int)) := by omega
theorem ow_94c_123 {k0 : Nat} (h0 : (k0 < (4 : Nat))) : (((k0 : Nat) : Int) < (4 : Int)) := by omega
theorem ow_94c_124 {k0 : Nat} (h0 : (k0 < (36 : Nat))) : (((k0 : Nat) : Int) < (36 : Int)) := by omega
theorem ow_94c_125 {a0 : Int} {k1 : Nat} (h0 : (3 ≤ (a0 : Int))) (h1 : (k1 < (3 : Nat))) : (((k1 : Nat) : Int) < (a0 : Int)) := by omega
theorem ow_94c_126 {a0 : Int} (h0 : ((0 ≤ (a0 : Int)) ∧ (a0 ≤ (3 : Int)))) : (0 ≤ (a0 : Int)) := by omega
theorem ow_94c_127 {a0 : Int} (h0 : (a0 < (3 : Int))) : (a0 < (((3 : Nat) : Int) : Int)) := by omega
theorem ow_94c_128 {a0 a2 : Int} {k1 : Nat} (h0 : (((3 - a0) : Int).toNat = (k1 : Nat))) (h1 : (a0 < (3 : Int))) (h2 : ((a0 + 1) = (a2 : Int))) : (((3 - a2) : Int).toNat < (k1 : Nat)) := by omega
theorem ow_94c_129 {a0 a1 : Int} (h0 : ((0 ≤ (a0 : Int)) ∧ (a0 ≤ (3 : Int)))) (h1 : ((a0 + 1) = (a1 : Int))) : (0 ≤ (a1 : Int)) := by omega
theorem ow_94c_130 {a0 a1 : Int} (h0 : (a0 < (3 : Int))) (h1 : ((a0 + 1) = (a1 : Int))) : (a1 ≤ (3 : Int)) := by omega
theorem ow_94c_131 {k0 : Nat} (h0 : (((k0 : Nat) : Int) < (27 : Int))) : (((k0 : Nat) : Int) < (27 : Int)) := by omega
theorem ow_94c_132 {k0 : Nat} (h0 : (((k0 : Nat) : Int) < (4 : Int))) : (((k0 : Nat) : Int) < (4 : Int)) := by omega
theorem ow_94c_133 {a0 : Int} {k1 : Nat} (h0 : (36 ≤ (a0 : Int))) (h1 : (((k1 : Nat) : Int) < (36 : Int))) : (((k1 : Nat) : Int) < (a0 : Int)) := by omega
theorem ow_94c_134 {a0 : Int} (h0 : (a0 = ((-1) : Int))) : (a0 ≤ (2147483647 : Int)) := by omega
theorem ow_94c_135 {a0 : Int} (h0 : (((-1) ≤ (a0 : Int)) ∧ (a0 ≤ (16 : Int)))) (h1 : (a0 = ((-1) : Int))) (h2 : ¬((a0 = ((-1) : Int)))) : False := by omega
theorem ow_94c_136 {a0 : Int} (h0 : (((-1) ≤ (a0 : Int)) ∧ (a0 ≤ (16 : Int)))) (h1 : (a0 = ((-1) : Int))) : (a0 = ((-1) : Int)) := by omega
theorem ow_94c_137 {a0 : Int} (h0 : (a0 < (36 : Int))) : ((a0 : Int).toNat < (36 : Nat)) := by omega
theorem ow_94c_138 {a0 : Int} (h0 : ((0 ≤ (a0 : Int)) ∧ (a0 ≤ (60 : Int)))) : (0 ≤ (a0 : Int)) := by omega
theorem ow_94c_139 {a0 : Int} (h0 : (a0 < (36 : Int))) : (a0 < (((36 : Nat) : Int) : Int)) := by omega
theorem ow_94c_140 {a0 a2 : Int} {k1 : Nat} (h0 : (((60 - a0) : Int).toNat = (k1 : Nat))) (h1 : (a0 < (36 : Int))) (h2 : ((a0 + 1) = (a2 : Int))) : (((60 - a2) : Int).toNat < (k1 : Nat)) := by omega
theorem ow_94c_141 {a0 a1 : Int} (h0 : ((0 ≤ (a0 : Int)) ∧ (a0 ≤ (60 : Int)))) (h1 : ((a0 + 1) = (a1 : Int))) : (0 ≤ (a1 : Int)) := by omega
theorem ow_94c_142 {a0 a1 : Int} (h0 : (a0 < (36 : Int))) (h1 : ((a0 + 1) = (a1 : Int))) : (a1 ≤ (60 : Int)) := by omega
theorem ow_94c_143 {a0 : Int} (h0 : (((-1) ≤ (a0 : Int)) ∧ (a0 ≤ (8 : Int)))) : ((-1) ≤ (a0 : Int)) := by omega
theorem ow_94c_144 {a0 : Int} (h0 : (((-1) ≤ (a0 : Int)) ∧ (a0 ≤ (8 : Int)))) : (a0 ≤ (8 : Int)) := by omega
theorem ow_94c_145 {a0 : Int} {k1 : Nat} (h0 : (4 ≤ (a0 : Int))) (h1 : (((k1 : Nat) : Int) < (4 : Int))) : (((k1 : Nat) : Int) < (a0 : Int)) := by omega
theorem ow_94c_146 {a0 : Int} (h0 : (a0 < (4 : Int))) : ((a0 : Int).toNat < (4 : Nat)) := by omega
theorem ow_94c_147 {a0 : Int} (h0 : ((0 ≤ (a0 : Int)) ∧ (a0 ≤ (8 : Int)))) : (0 ≤ (a0 : Int)) := by omega
theorem ow_94c_148 {a0 : Int} (h0 : (a0 < (4 : Int))) : (a0 < (((4 : Nat) : Int) : Int)) := by omega
theorem ow_94c_149 {a0 a2 : Int} {k1 : Nat} (h0 : (((8 - a0) : Int).toNat = (k1 : Nat))) (h1 : (a0 < (4 : Int))) (h2 : ((a0 + 1) = (a2 : Int))) : (((8 - a2) : Int).toNat < (k1 : Nat)) := by omega
theorem ow_94c_150 {a0 a1 : Int} (h0 : ((0 ≤ (a0 : Int)) ∧ (a0 ≤ (8 : Int)))) (h1 : ((a0 + 1) = (a1 : Int))) : (0 ≤ (a1 : Int)) := by omega
theorem ow_94c_151 {a0 a1 : Int} (h0 : (a0 < (4 : Int))) (h1 : ((a0 + 1) = (a1 : Int))) : (a1 ≤ (8 : Int)) := by omega
theorem ow_94c_152 {a0 : Int} {k1 : Nat} (h0 : (27 ≤ (a0 : Int))) (h1 : (((k1 : Nat) : Int) < (27 : Int))) : (((k1 : Nat) : Int) < (a0 : Int)) := by omega
theorem ow_94c_153 {a0 : Int} (h0 : (a0 < (27 : Int))) : ((a0 : Int).toNat < (27 : Nat)) := by omega
theorem ow_94c_154 {a0 : Int} (h0 : (a0 < (27 : Int))) : (a0 < (((27 : Nat) : Int) : Int)) := by omega
theorem ow_94c_155 {a0 a2 : Int} {k1 : Nat} (h0 : (((60 - a0) : Int).toNat = (k1 : Nat))) (h1 : (a0 < (27 : Int))) (h2 : ((a0 + 1) = (a2 : Int))) : (((60 - a2) : Int).toNat < (k1 : Nat)) := by omega
theorem ow_94c_156 {a0 a1 : Int} (h0 : (a0 < (27 : Int))) (h1 : ((a0 + 1) = (a1 : Int))) : (a1 ≤ (60 : Int)) := by omega
theorem ow_94c_157 {a0 : Int} : (((a0 : Int).toNat % 3) = (((a0 : Int).toNat % 3) : Nat)) := by omega
theorem ow_94c_158 : ((-1) ≤ (9 : Int)) := by omega
theorem ow_94c_159 {a0 : Int} : (((a0 < (0 : Int)) ∨ (7 < (a0 : Int))) ∨ ((a0 = (0 : Int)) ∨ ((a0 = (1 : Int)) ∨ ((a0 = (2 : Int)) ∨ ((a0 = (3 : Int)) ∨ ((a0 = (4 : Int)) ∨ ((a0 = (5 : Int)) ∨ ((a0 = (6 : Int)) ∨ (a0 = (7 : Int)))))))))) := by omega
theorem ow_94c_160 {a0 : Int} (h0 : (a0 = (0 : Int))) : ((-2147483648) ≤ (a0 : Int)) := by omega
theorem ow_94c_161 {a0 : Int} (h0 : (a0 = (0 : Int))) : (a0 ≤ (2147483647 : Int)) := by omega
theorem ow_94c_162 {a0 : Int} (h0 : (a0 = (0 : Int))) : (0 ≤ (a0 : Int)) := by omega
theorem ow_94c_163 {a0 : Int} (h0 : (a0 = (0 : Int))) : (a0 ≤ (7 : Int)) := by omega
theorem ow_94c_164 {a0 : Int} (h0 : (a0 = (0 : Int))) : ¬(((a0 < (0 : Int)) ∨ (7 < (a0 : Int)))) := by omega
theorem ow_94c_165 {a0 : Int} (h0 : ((0 ≤ (a0 : Int)) ∧ (a0 ≤ (9 : Int)))) : (a0 ≤ (500 : Int)) := by omega
theorem ow_94c_166 {a0 : Int} (h0 : (a0 = (1 : Int))) : ((-2147483648) ≤ (a0 : Int)) := by omega
theorem ow_94c_167 {a0 : Int} (h0 : (a0 = (1 : Int))) : (a0 ≤ (2147483647 : Int)) := by omega
theorem ow_94c_168 {a0 : Int} (h0 : (a0 = (1 : Int))) : (0 ≤ (a0 : Int)) := by omega
theorem ow_94c_169 {a0 : Int} (h0 : (a0 = (1 : Int))) : (a0 ≤ (7 : Int)) := by omega
theorem ow_94c_170 {a0 : Int} (h0 : (a0 = (1 : Int))) : ¬(((a0 < (0 : Int)) ∨ (7 < (a0 : Int)))) := by omega
theorem ow_94c_171 {a0 : Int} (h0 : (a0 = (1 : Int))) : ¬((a0 = (0 : Int))) := by omega
theorem ow_94c_172 {a0 : Int} (h0 : ((0 ≤ (a0 : Int)) ∧ (a0 ≤ (12 : Int)))) : ((-1) ≤ (a0 : Int)) := by omega
theorem ow_94c_173 {a0 : Int} (h0 : ((0 ≤ (a0 : Int)) ∧ (a0 ≤ (12 : Int)))) : (a0 ≤ (500 : Int)) := by omega
theorem ow_94c_174 {a0 : Int} (h0 : (a0 = (2 : Int))) : ((-2147483648) ≤ (a0 : Int)) := by omega
theorem ow_94c_175 {a0 : Int} (h0 : (a0 = (2 : Int))) : (a0 ≤ (2147483647 : Int)) := by omega
theorem ow_94c_176 {a0 : Int} (h0 : (a0 = (2 : Int))) : (0 ≤ (a0 : Int)) := by omega
theorem ow_94c_177 {a0 : Int} (h0 : (a0 = (2 : Int))) : (a0 ≤ (7 : Int)) := by omega
theorem ow_94c_178 {a0 : Int} (h0 : (a0 = (2 : Int))) : ¬(((a0 < (0 : Int)) ∨ (7 < (a0 : Int)))) := by omega
theorem ow_94c_179 {a0 : Int} (h0 : (a0 = (2 : Int))) : ¬((a0 = (0 : Int))) := by omega
theorem ow_94c_180 {a0 : Int} (h0 : (a0 = (2 : Int))) : ¬((a0 = (1 : Int))) := by omega
theorem ow_94c_181 {a0 : Int} (h0 : ((0 ≤ (a0 : Int)) ∧ (a0 ≤ (10 : Int)))) : (a0 ≤ (500 : Int)) := by omega
theorem ow_94c_182 {a0 : Int} (h0 : (a0 = (3 : Int))) : ((-2147483648) ≤ (a0 : Int)) := by omega
theorem ow_94c_183 {a0 : Int} (h0 : (a0 = (3 : Int))) : (a0 ≤ (2147483647 : Int)) := by omega
theorem ow_94c_184 {a0 : Int} (h0 : (a0 = (3 : Int))) : (0 ≤ (a0 : Int)) := by omega
theorem ow_94c_185 {a0 : Int} (h0 : (a0 = (3 : Int))) : (a0 ≤ (7 : Int)) := by omega
theorem ow_94c_186 {a0 : Int} (h0 : (a0 = (3 : Int))) : ¬(((a0 < (0 : Int)) ∨ (7 < (a0 : Int)))) := by omega
theorem ow_94c_187 {a0 : Int} (h0 : (a0 = (3 : Int))) : ¬((a0 = (0 : Int))) := by omega
theorem ow_94c_188 {a0 : Int} (h0 : (a0 = (3 : Int))) : ¬((a0 = (1 : Int))) := by omega
theorem ow_94c_189 {a0 : Int} (h0 : (a0 = (3 : Int))) : ¬((a0 = (2 : Int))) := by omega
theorem ow_94c_190 {a0 : Int} (h0 : ((0 ≤ (a0 : Int)) ∧ (a0 ≤ (60 : Int)))) : ((-1) ≤ (a0 : Int)) := by omega
theorem ow_94c_191 {a0 : Int} (h0 : ((0 ≤ (a0 : Int)) ∧ (a0 ≤ (60 : Int)))) : (a0 ≤ (500 : Int)) := by omega
theorem ow_94c_192 {a0 : Int} (h0 : (a0 = (4 : Int))) : ((-2147483648) ≤ (a0 : Int)) := by omega
theorem ow_94c_193 {a0 : Int} (h0 : (a0 = (4 : Int))) : (a0 ≤ (2147483647 : Int)) := by omega
theorem ow_94c_194 {a0 : Int} (h0 : (a0 = (4 : Int))) : (0 ≤ (a0 : Int)) := by omega
theorem ow_94c_195 {a0 : Int} (h0 : (a0 = (4 : Int))) : (a0 ≤ (7 : Int)) := by omega
theorem ow_94c_196 {a0 : Int} (h0 : (a0 = (4 : Int))) : ¬(((a0 < (0 : Int)) ∨ (7 < (a0 : Int)))) := by omega
theorem ow_94c_197 {a0 : Int} (h0 : (a0 = (4 : Int))) : ¬((a0 = (0 : Int))) := by omega
theorem ow_94c_198 {a0 : Int} (h0 : (a0 = (4 : Int))) : ¬((a0 = (1 : Int))) := by omega
theorem ow_94c_199 {a0 : Int} (h0 : (a0 = (4 : Int))) : ¬((a0 = (2 : Int))) := by omega
theorem ow_94c_200 {a0 : Int} (h0 : (a0 = (4 : Int))) : ¬((a0 = (3 : Int))) := by omega
theorem ow_94c_201 {a0 : Int} (h0 : (a0 = (5 : Int))) : ((-2147483648) ≤ (a0 : Int)) := by omega
theorem ow_94c_202 {a0 : Int} (h0 : (a0 = (5 : Int))) : (a0 ≤ (2147483647 : Int)) := by omega
theorem ow_94c_203 {a0 : Int} (h0 : (a0 = (5 : Int))) : (0 ≤ (a0 : Int)) := by omega
theorem ow_94c_204 {a0 : Int} (h0 : (a0 = (5 : Int))) : (a0 ≤ (7 : Int)) := by omega
theorem ow_94c_205 {a0 : Int} (h0 : (a0 = (5 : Int))) : ¬(((a0 < (0 : Int)) ∨ (7 < (a0 : Int)))) := by omega
theorem ow_94c_206 {a0 : Int} (h0 : (a0 = (5 : Int))) : ¬((a0 = (0 : Int))) := by omega
theorem ow_94c_207 {a0 : Int} (h0 : (a0 = (5 : Int))) : ¬((a0 = (1 : Int))) := by omega
theorem ow_94c_208 {a0 : Int} (h0 : (a0 = (5 : Int))) : ¬((a0 = (2 : Int))) := by omega
theorem ow_94c_209 {a0 : Int} (h0 : (a0 = (5 : Int))) : ¬((a0 = (3 : Int))) := by omega
theorem ow_94c_210 {a0 : Int} (h0 : (a0 = (5 : Int))) : ¬((a0 = (4 : Int))) := by omega
theorem ow_94c_211 {a0 : Int} (h0 : ((0 ≤ (a0 : Int)) ∧ (a0 ≤ (16 : Int)))) : ((-1) ≤ (a0 : Int)) := by omega
theorem ow_94c_212 {a0 : Int} (h0 : ((0 ≤ (a0 : Int)) ∧ (a0 ≤ (16 : Int)))) : (a0 ≤ (500 : Int)) := by omega
theorem ow_94c_213 {a0 : Int} (h0 : (a0 = (6 : Int))) : ((-2147483648) ≤ (a0 : Int)) := by omega
theorem ow_94c_214 {a0 : Int} (h0 : (a0 = (6 : Int))) : (a0 ≤ (2147483647 : Int)) := by omega
theorem ow_94c_215 {a0 : Int} (h0 : (a0 = (6 : Int))) : (0 ≤ (a0 : Int)) := by omega
theorem ow_94c_216 {a0 : Int} (h0 : (a0 = (6 : Int))) : (a0 ≤ (7 : Int)) := by omega
theorem ow_94c_217 {a0 : Int} (h0 : (a0 = (6 : Int))) : ¬(((a0 < (0 : Int)) ∨ (7 < (a0 : Int)))) := by omega
theorem ow_94c_218 {a0 : Int} (h0 : (a0 = (6 : Int))) : ¬((a0 = (0 : Int))) := by omega
theorem ow_94c_219 {a0 : Int} (h0 : (a0 = (6 : Int))) : ¬((a0 = (1 : Int))) := by omega
theorem ow_94c_220 {a0 : Int} (h0 : (a0 = (6 : Int))) : ¬((a0 = (2 : Int))) := by omega
theorem ow_94c_221 {a0 : Int} (h0 : (a0 = (6 : Int))) : ¬((a0 = (3 : Int))) := by omega
theorem ow_94c_222 {a0 : Int} (h0 : (a0 = (6 : Int))) : ¬((a0 = (4 : Int))) := by omega
theorem ow_94c_223 {a0 : Int} (h0 : (a0 = (6 : Int))) : ¬((a0 = (5 : Int))) := by omega
theorem ow_94c_224 {a0 : Int} (h0 : ((0 ≤ (a0 : Int)) ∧ (a0 ≤ (99 : Int)))) : ((-1) ≤ (a0 : Int)) := by omega
theorem ow_94c_225 {a0 : Int} (h0 : ((0 ≤ (a0 : Int)) ∧ (a0 ≤ (99 : Int)))) : (a0 ≤ (500 : Int)) := by omega
theorem ow_94c_226 {a0 : Int} (h0 : (a0 = (7 : Int))) : ((-2147483648) ≤ (a0 : Int)) := by omega
theorem ow_94c_227 {a0 : Int} (h0 : (a0 = (7 : Int))) : (a0 ≤ (2147483647 : Int)) := by omega
theorem ow_94c_228 {a0 : Int} (h0 : (a0 = (7 : Int))) : (0 ≤ (a0 : Int)) := by omega
theorem ow_94c_229 {a0 : Int} (h0 : (a0 = (7 : Int))) : (a0 ≤ (7 : Int)) := by omega
theorem ow_94c_230 {a0 : Int} (h0 : (a0 = (7 : Int))) : ¬(((a0 < (0 : Int)) ∨ (7 < (a0 : Int)))) := by omega
theorem ow_94c_231 {a0 : Int} (h0 : (a0 = (7 : Int))) : ¬((a0 = (0 : Int))) := by omega
theorem ow_94c_232 {a0 : Int} (h0 : (a0 = (7 : Int))) : ¬((a0 = (1 : Int))) := by omega
theorem ow_94c_233 {a0 : Int} (h0 : (a0 = (7 : Int))) : ¬((a0 = (2 : Int))) := by omega
theorem ow_94c_234 {a0 : Int} (h0 : (a0 = (7 : Int))) : ¬((a0 = (3 : Int))) := by omega
theorem ow_94c_235 {a0 : Int} (h0 : (a0 = (7 : Int))) : ¬((a0 = (4 : Int))) := by omega
theorem ow_94c_236 {a0 : Int} (h0 : (a0 = (7 : Int))) : ¬((a0 = (5 : Int))) := by omega
theorem ow_94c_237 {a0 : Int} (h0 : (a0 = (7 : Int))) : ¬((a0 = (6 : Int))) := by omega
theorem ow_94c_238 {a0 : Int} (h0 : ((0 ≤ (a0 : Int)) ∧ (a0 ≤ (500 : Int)))) : ((-1) ≤ (a0 : Int)) := by omega
noncomputable def F_X12_feed (a1 a2 a3 a4 a5 : Int) (V0 : pm_M) : Int × pm_M := pf_let (V0 90 1) fun y1 => (if (y1 + 20) ≤ 500 then (pf_val ((0 : Int), V0) (fun (q : Int × pm_M) => match q with | (x5, V7) => ((if 20 ≤ x5 then (pf_let (V7 90 1) fun y19 => (.inr (y19, V7))) else ((if 4 ≤ x5 then ((if 8 ≤ x5 then ((if 12 ≤ x5 then ((if 16 ≤ x5 then (pf_let (V7 90 1) fun y27 => pf_let ((pm_ishrV a5 (24 - (8 * (x5 % 4))))) fun y30 => pf_let (Int.bmod y30 256) fun y32 => pf_let (x5 + 1) fun x34 => (.inl (x34, (pm_up (pm_up V7 91 (y27 : Int).toNat y32) 90 1 (y27 + 1))))) else (pf_let (V7 90 1) fun y37 => pf_let ((pm_ishrV a4 (24 - (8 * (x5 % 4))))) fun y40 => pf_let (Int.bmod y40 256) fun y42 => pf_let (x5 + 1) fun x44 => (.inl (x44, (pm_up (pm_up V7 91 (y37 : Int).toNat y42) 90 1 (y37 + 1))))))) else (pf_let (V7 90 1) fun y47 => pf_let ((pm_ishrV a3 (24 - (8 * (x5 % 4))))) fun y50 => pf_let (Int.bmod y50 256) fun y52 => pf_let (x5 + 1) fun x54 => (.inl (x54, (pm_up (pm_up V7 91 (y47 : Int).toNat y52) 90 1 (y47 + 1))))))) else (pf_let (V7 90 1) fun y57 => pf_let ((pm_ishrV a2 (24 - (8 * (x5 % 4))))) fun y60 => pf_let (Int.bmod y60 256) fun y62 => pf_let (x5 + 1) fun x64 => (.inl (x64, (pm_up (pm_up V7 91 (y57 : Int).toNat y62) 90 1 (y57 + 1))))))) else (pf_let (V7 90 1) fun y67 => pf_let ((pm_ishrV a1 (24 - (8 * (x5 % 4))))) fun y70 => pf_let (Int.bmod y70 256) fun y72 => pf_let (x5 + 1) fun x74 => (.inl (x74, (pm_up (pm_up V7 91 (y67 : Int).toNat y72) 90 1 (y67 + 1)))))))))) (0, V0)) else (((-1), V0)))
theorem F_X12_feed_eq (a1 a2 a3 a4 a5 : Int) (V0 : pm_M) : F_X12_feed a1 a2 a3 a4 a5 V0 = pf_let (V0 90 1) fun y1 => (if (y1 + 20) ≤ 500 then (pf_val ((0 : Int), V0) (fun (q : Int × pm_M) => match q with | (x5, V7) => ((if 20 ≤ x5 then (pf_let (V7 90 1) fun y19 => (.inr (y19, V7))) else ((if 4 ≤ x5 then ((if 8 ≤ x5 then ((if 12 ≤ x5 then ((if 16 ≤ x5 then (pf_let (V7 90 1) fun y27 => pf_let ((pm_ishrV a5 (24 - (8 * (x5 % 4))))) fun y30 => pf_let (Int.bmod y30 256) fun y32 => pf_let (x5 + 1) fun x34 => (.inl (x34, (pm_up (pm_up V7 91 (y27 : Int).toNat y32) 90 1 (y27 + 1))))) else (pf_let (V7 90 1) fun y37 => pf_let ((pm_ishrV a4 (24 - (8 * (x5 % 4))))) fun y40 => pf_let (Int.bmod y40 256) fun y42 => pf_let (x5 + 1) fun x44 => (.inl (x44, (pm_up (pm_up V7 91 (y37 : Int).toNat y42) 90 1 (y37 + 1))))))) else (pf_let (V7 90 1) fun y47 => pf_let ((pm_ishrV a3 (24 - (8 * (x5 % 4))))) fun y50 => pf_let (Int.bmod y50 256) fun y52 => pf_let (x5 + 1) fun x54 => (.inl (x54, (pm_up (pm_up V7 91 (y47 : Int).toNat y52) 90 1 (y47 + 1))))))) else (pf_let (V7 90 1) fun y57 => pf_let ((pm_ishrV a2 (24 - (8 * (x5 % 4))))) fun y60 => pf_let (Int.bmod y60 256) fun y62 => pf_let (x5 + 1) fun x64 => (.inl (x64, (pm_up (pm_up V7 91 (y57 : Int).toNat y62) 90 1 (y57 + 1))))))) else (pf_let (V7 90 1) fun y67 => pf_let ((pm_ishrV a1 (24 - (8 * (x5 % 4))))) fun y70 => pf_let (Int.bmod y70 256) fun y72 => pf_let (x5 + 1) fun x74 => (.inl (x74, (pm_up (pm_up V7 91 (y67 : Int).toNat y72) 90 1 (y67 + 1)))))))))) (0, V0)) else (((-1), V0))) := rfl
noncomputable def F_X12_end (a1 : Int) (V0 : pm_M) : Int × pm_M := pf_let (V0 90 1) fun y1 => pf_call (F_X12_in a1 0 y1 V0) fun y7 _ => (if ¬ (y7 = 0) then ((1, (pm_up V0 90 1 a1))) else ((0, V0)))
theorem F_X12_end_eq (a1 : Int) (V0 : pm_M) : F_X12_end a1 V0 = pf_let (V0 90 1) fun y1 => pf_call (F_X12_in a1 0 y1 V0) fun y7 _ => (if ¬ (y7 = 0) then ((1, (pm_up V0 90 1 a1))) else ((0, V0))) := rfl
noncomputable def F_X12_fault (a1 : Int) (V0 : pm_M) : Int × pm_M := (if ¬ (a1 = 0) then ((if ¬ (a1 = 1) then (((-2147483648), V0)) else (pf_call (F_X12_rulesFault  V0) fun y6 V4 => (y6, V4)))) else (pf_call (F_X12_sceneFault  V0) fun y19 V17 => (y19, V17)))
theorem F_X12_fault_eq (a1 : Int) (V0 : pm_M) : F_X12_fault a1 V0 = (if ¬ (a1 = 0) then ((if ¬ (a1 = 1) then (((-2147483648), V0)) else (pf_call (F_X12_rulesFault  V0) fun y6 V4 => (y6, V4)))) else (pf_call (F_X12_sceneFault  V0) fun y19 V17 => (y19, V17))) := rfl
noncomputable def F_X12_rules (V0 : pm_M) : Int × pm_M := pf_call (F_X12_rulesFault  V0) fun y4 V2 => pf_let (V2 90 32) fun y15 => pf_let (V2 90 33) fun y18 => (if y4 = (-1) then (pf_let ((pm_up V2 90 35 y15)) fun V22 => pf_val ((0 : Int), V0) (fun (q : Int × pm_M) => match q with | (x31, V33) => ((if (2 * y18) ≤ x31 then ((.inr (y15, (pm_up V33 90 1 0)))) else (pf_let (V33 107 (x31 : Int).toNat) fun y53 => pf_let (x31 + 1) fun x57 => (.inl (x57, (pm_up V33 108 (x31 : Int).toNat y53))))))) (0, V22)) else (((-1), V2)))
theorem F_X12_rules_eq (V0 : pm_M) : F_X12_rules V0 = pf_call (F_X12_rulesFault  V0) fun y4 V2 => pf_let (V2 90 32) fun y15 => pf_let (V2 90 33) fun y18 => (if y4 = (-1) then (pf_let ((pm_up V2 90 35 y15)) fun V22 => pf_val ((0 : Int), V0) (fun (q : Int × pm_M) => match q with | (x31, V33) => ((if (2 * y18) ≤ x31 then ((.inr (y15, (pm_up V33 90 1 0)))) else (pf_let (V33 107 (x31 : Int).toNat) fun y53 => pf_let (x31 + 1) fun x57 => (.inl (x57, (pm_up V33 108 (x31 : Int).toNat y53))))))) (0, V22)) else (((-1), V2))) := rfl
noncomputable def F_X12_scene (V0 : pm_M) : Int × pm_M := pf_call (F_X12_sceneFault  V0) fun y4 V2 => pf_let (V2 90 6) fun y11 => pf_let (V2 90 13) fun y14 => pf_let (V2 90 11) fun y17 => pf_let (V2 90 12) fun y20 => (if y4 = (-1) then (pf_let ((pm_up (pm_up (pm_up V2 90 15 1) 90 16 y11) 90 21 y14)) fun V24 => pf_val ((0 : Int), V0) (fun (q : Int × pm_M) => match q with | (x36, V38) => ((if 27 ≤ x36 then (pf_val (.inr ((0 : Int), V0)) (fun (q : Int × pm_M) => match q with | (x61, V63) => ((if 4 ≤ x61 then (pf_val (.inr (.inr ((0 : Int), V0))) (fun (q : Int × pm_M) => match q with | (x86, V88) => ((if 36 ≤ x86 then ((if ¬ (y17 = (-1)) then ((if ¬ (y17 = (-1)) then (pf_let ((pm_up (pm_up (pm_up (pm_up (pm_up (pm_up (pm_up (pm_up V88 90 19 y17) 90 20 y20) 90 23 1) 100 (0 : Int).toNat 0) 100 (1 : Int).toNat 0) 100 (2 : Int).toNat y17) 100 (3 : Int).toNat 0) 90 25 0)) fun V114 => pf_val (.inr (.inr (.inr ((0 : Int), V0)))) (fun (q : Int × pm_M) => match q with | (x131, V133) => ((if 3 ≤ x131 then ((.inr (.inr (.inr (.inr (y11, (pm_up V133 90 1 0))))))) else (pf_let (x131 + 1) fun x162 => (.inl (x162, (pm_up V133 102 (x131 : Int).toNat 0))))))) (0, V114)) else ((.inr (.inr (.inr ((0 : Int), V0))))))) else ((if ¬ (y17 = (-1)) then ((.inr (.inr (.inr ((0 : Int), V0))))) else (pf_let ((pm_up (pm_up (pm_up (pm_up (pm_up (pm_up (pm_up (pm_up V88 90 19 16) 90 20 99) 90 23 1) 100 (0 : Int).toNat 0) 100 (1 : Int).toNat 0) 100 (2 : Int).toNat 16) 100 (3 : Int).toNat 0) 90 25 0)) fun V166 => pf_val (.inr (.inr (.inr ((0 : Int), V0)))) (fun (q : Int × pm_M) => match q with | (x183, V185) => ((if 3 ≤ x183 then ((.inr (.inr (.inr (.inr (y11, (pm_up V185 90 1 0))))))) else (pf_let (x183 + 1) fun x214 => (.inl (x214, (pm_up V185 102 (x183 : Int).toNat 0))))))) (0, V166)))))) else (pf_let (V88 96 (x86 : Int).toNat) fun y218 => pf_let (x86 + 1) fun x221 => (.inl (x221, (pm_up V88 99 (x86 : Int).toNat y218))))))) (0, V63)) else (pf_let (V63 95 (x61 : Int).toNat) fun y225 => pf_let (x61 + 1) fun x229 => (.inl (x229, (pm_up V63 98 (x61 : Int).toNat y225))))))) (0, V38)) else (pf_let (V38 93 (x36 : Int).toNat) fun y233 => pf_let (x36 + 1) fun x237 => (.inl (x237, (pm_up V38 97 (x36 : Int).toNat y233))))))) (0, V24)) else (((-1), V2)))
theorem F_X12_scene_eq (V0 : pm_M) : F_X12_scene V0 = pf_call (F_X12_sceneFault  V0) fun y4 V2 => pf_let (V2 90 6) fun y11 => pf_let (V2 90 13) fun y14 => pf_let (V2 90 11) fun y17 => pf_let (V2 90 12) fun y20 => (if y4 = (-1) then (pf_let ((pm_up (pm_up (pm_up V2 90 15 1) 90 16 y11) 90 21 y14)) fun V24 => pf_val ((0 : Int), V0) (fun (q : Int × pm_M) => match q with | (x36, V38) => ((if 27 ≤ x36 then (pf_val (.inr ((0 : Int), V0)) (fun (q : Int × pm_M) => match q with | (x61, V63) => ((if 4 ≤ x61 then (pf_val (.inr (.inr ((0 : Int), V0))) (fun (q : Int × pm_M) => match q with | (x86, V88) => ((if 36 ≤ x86 then ((if ¬ (y17 = (-1)) then ((if ¬ (y17 = (-1)) then (pf_let ((pm_up (pm_up (pm_up (pm_up (pm_up (pm_up (pm_up (pm_up V88 90 19 y17) 90 20 y20) 90 23 1) 100 (0 : Int).toNat 0) 100 (1 : Int).toNat 0) 100 (2 : Int).toNat y17) 100 (3 : Int).toNat 0) 90 25 0)) fun V114 => pf_val (.inr (.inr (.inr ((0 : Int), V0)))) (fun (q : Int × pm_M) => match q with | (x131, V133) => ((if 3 ≤ x131 then ((.inr (.inr (.inr (.inr (y11, (pm_up V133 90 1 0))))))) else (pf_let (x131 + 1) fun x162 => (.inl (x162, (pm_up V133 102 (x131 : Int).toNat 0))))))) (0, V114)) else ((.inr (.inr (.inr ((0 : Int), V0))))))) else ((if ¬ (y17 = (-1)) then ((.inr (.inr (.inr ((0 : Int), V0))))) else (pf_let ((pm_up (pm_up (pm_up (pm_up (pm_up (pm_up (pm_up (pm_up V88 90 19 16) 90 20 99) 90 23 1) 100 (0 : Int).toNat 0) 100 (1 : Int).toNat 0) 100 (2 : Int).toNat 16) 100 (3 : Int).toNat 0) 90 25 0)) fun V166 => pf_val (.inr (.inr (.inr ((0 : Int), V0)))) (fun (q : Int × pm_M) => match q with | (x183, V185) => ((if 3 ≤ x183 then ((.inr (.inr (.inr (.inr (y11, (pm_up V185 90 1 0))))))) else (pf_let (x183 + 1) fun x214 => (.inl (x214, (pm_up V185 102 (x183 : Int).toNat 0))))))) (0, V166)))))) else (pf_let (V88 96 (x86 : Int).toNat) fun y218 => pf_let (x86 + 1) fun x221 => (.inl (x221, (pm_up V88 99 (x86 : Int).toNat y218))))))) (0, V63)) else (pf_let (V63 95 (x61 : Int).toNat) fun y225 => pf_let (x61 + 1) fun x229 => (.inl (x229, (pm_up V63 98 (x61 : Int).toNat y225))))))) (0, V38)) else (pf_let (V38 93 (x36 : Int).toNat) fun y233 => pf_let (x36 + 1) fun x237 => (.inl (x237, (pm_up V38 97 (x36 : Int).toNat y233))))))) (0, V24)) else (((-1), V2))) := rfl
noncomputable def F_X12_count (a1 : Int) (V0 : pm_M) : Int × pm_M := (if a1 < 0 ∨ 7 < a1 then (((-1), V0)) else (if a1 = 0 then (pf_let (V0 90 16) fun y2 => (y2, V0)) else (if a1 = 1 then (pf_let (V0 90 21) fun y5 => (y5, V0)) else (if a1 = 2 then (pf_let (V0 90 23) fun y8 => (y8, V0)) else (if a1 = 3 then (pf_let (V0 90 25) fun y11 => (y11, V0)) else (if a1 = 4 then (pf_let (V0 90 35) fun y14 => (y14, V0)) else (if a1 = 5 then (pf_let (V0 90 19) fun y17 => (y17, V0)) else (if a1 = 6 then (pf_let (V0 90 20) fun y20 => (y20, V0)) else (if a1 = 7 then (pf_let (V0 90 1) fun y23 => (y23, V0)) else (((0 : Int), V0)))))))))))
theorem F_X12_count_eq (a1 : Int) (V0 : pm_M) : F_X12_count a1 V0 = (if a1 < 0 ∨ 7 < a1 then (((-1), V0)) else (if a1 = 0 then (pf_let (V0 90 16) fun y2 => (y2, V0)) else (if a1 = 1 then (pf_let (V0 90 21) fun y5 => (y5, V0)) else (if a1 = 2 then (pf_let (V0 90 23) fun y8 => (y8, V0)) else (if a1 = 3 then (pf_let (V0 90 25) fun y11 => (y11, V0)) else (if a1 = 4 then (pf_let (V0 90 35) fun y14 => (y14, V0)) else (if a1 = 5 then (pf_let (V0 90 19) fun y17 => (y17, V0)) else (if a1 = 6 then (pf_let (V0 90 20) fun y20 => (y20, V0)) else (if a1 = 7 then (pf_let (V0 90 1) fun y23 => (y23, V0)) else (((0 : Int), V0))))))))))) := rfl
set_option maxHeartbeats 4000000 in
set_option maxRecDepth 100000 in
theorem fP_X12_feed (a1 a2 a3 a4 a5 : Int) (h0 : (-2147483648) ≤ a1 ∧ a1 ≤ 2147483647) (h1 : (-2147483648) ≤ a2 ∧ a2 ≤ 2147483647) (h2 : (-2147483648) ≤ a3 ∧ a3 ≤ 2147483647) (h3 : (-2147483648) ≤ a4 ∧ a4 ≤ 2147483647) (h4 : (-2147483648) ≤ a5 ∧ a5 ≤ 2147483647) : pm_K 1 yX12_feed cX12_feed 8 (some .int) (fun av V => av = [(3, 90), (0, a1), (0, a2), (0, a3), (0, a4), (0, a5)] ∧ pm_oq pm_qP V) (fun _ V r V' => ∃ y, r = some (0, y) ∧ ((-1) ≤ y ∧ y ≤ 500) ∧ pm_oq pm_qP V' ∧ pm_fs [91] [1] V V' ∧ F_X12_feed a1 a2 a3 a4 a5 V = (y, V')) := by
  refine pm_MT.of (by decide) ⟨Nat.le_refl _, by decide⟩ (fun av V h => by rw [h.1]; exact (by decide : pm_words [(3, 0), (0, 0), (0, 0), (0, 0), (0, 0), (0, 0)] ≤ 8)) ?_
  rintro X av V0 hC - hR ⟨rfl, hV0⟩
  change pm_J X 0 [(0, (3, 90)), (1, (0, a1)), (2, (0, a2)), (3, (0, a3)), (4, (0, a4)), (5, (0, a5))] [] 118 V0
  have hT := F_X12_feed_eq a1 a2 a3 a4 a5 V0
  obtain ⟨y1, e2⟩ : ∃ y, V0 90 1 = y := ⟨_, rfl⟩
  have b3 := hV0.get 90 1 (lo := 0) (hi := 500) (by decide) (by decide) rfl
  rw [e2] at b3
  replace hT := hT.trans (pf_let_eq e2)
  refine pm_aload_n hC 0 (by decide) dX12_feed_0 rfl ?_
  refine pm_getf (v := y1) hC 90 fl_X12_94 rfl rfl (by decide) rfl e2 dX12_feed_1 ?_
  refine pm_bipush (v := 20) hC dX12_feed_4 (by decide) ?_
  refine pm_iadd hC dX12_feed_6 ?_
  refine pm_sipush (v := 500) hC dX12_feed_7 (by decide) ?_
  refine pm_icmp_le (tgt := 15) hC ⟨by exact ow_94c_0 b3, by exact ow_94c_1 b3⟩ ⟨by decide, by decide⟩ dX12_feed_10 (by decide) (fun c4 => ?_) (fun c4 => ?_)
  · skip
    replace hT := hT.trans (if_pos c4)
    refine pm_iconst (v := 0) hC dX12_feed_15 ?_
    refine pm_istore (lv' := [(6, (0, 0)), (0, (3, 90)), (1, (0, a1)), (2, (0, a2)), (3, (0, a3)), (4, (0, a4)), (5, (0, a5))]) hC dX12_feed_16 (by decide) rfl ?_
    obtain ⟨B11, hB12, hT⟩ := pf_loop hT
    have L14 : ∀ (N16 : Nat) (x5 : Int) (V7 : pm_M), (0 ≤ x5 ∧ x5 ≤ 20) → pm_oq pm_qP V7 → pm_fs [91] [1] V0 V7 → (V7 90 1 = y1 + x5) → F_X12_feed a1 a2 a3 a4 a5 V0 = pf_val ((0 : Int), V0) B11 (x5, V7) → (Int.toNat (20 - x5)) = N16 → pm_J X 18 [(0, (3, 90)), (1, (0, a1)), (2, (0, a2)), (3, (0, a3)), (4, (0, a4)), (5, (0, a5)), (6, (0, x5))] [] 118 V7 := by
      intro N16
      induction N16 using Nat.strongRecOn with
      | _ N16 ih17 =>
      intro x5 V7 b6 hV8 hF9 hm10 hT hm15
      have hb13 := congrFun hB12 (x5, V7)
      refine pm_iload hC 6 dX12_feed_18 rfl ?_
      refine pm_bipush (v := 20) hC dX12_feed_20 (by decide) ?_
      refine pm_icmp_ge (tgt := 112) hC ⟨by exact ow_94c_2 b6, by exact ow_94c_3 b6⟩ ⟨by decide, by decide⟩ dX12_feed_22 (by decide) (fun c18 => ?_) (fun c18 => ?_)
      · skip
        replace hb13 := hb13.trans (if_pos c18)
        refine pm_aload_n hC 0 (by decide) dX12_feed_112 rfl ?_
        obtain ⟨y19, e20⟩ : ∃ y, V7 90 1 = y := ⟨_, rfl⟩
        have b21 := hV8.get 90 1 (lo := 0) (hi := 500) (by decide) (by decide) rfl
        rw [e20] at b21
        replace hb13 := hb13.trans (pf_let_eq e20)
        refine pm_getf (v := y19) hC 90 fl_X12_94 rfl rfl (by decide) rfl e20 dX12_feed_113 ?_
        replace hT := hT.trans (pf_val_inr hb13)
        exact pm_iret hC hR pm_nar0 ⟨y19, rfl, ⟨by exact ow_94c_4 b3 hm10 c18 e20, by exact ow_94c_5 b21⟩, hV8, hF9, hT⟩ dX12_feed_116
      · skip
        replace hb13 := hb13.trans (if_neg (Int.not_le.mpr c18))
        refine pm_iload hC 6 dX12_feed_25 rfl ?_
        refine pm_iconst (v := 4) hC dX12_feed_27 ?_
        refine pm_icmp_ge (tgt := 35) hC ⟨by exact ow_94c_2 b6, by exact ow_94c_6 c18⟩ ⟨by decide, by decide⟩ dX12_feed_28 (by decide) (fun c22 => ?_) (fun c22 => ?_)
        · skip
          replace hb13 := hb13.trans (if_pos c22)
          refine pm_iload hC 6 dX12_feed_35 rfl ?_
          refine pm_bipush (v := 8) hC dX12_feed_37 (by decide) ?_
          refine pm_icmp_ge (tgt := 46) hC ⟨by exact ow_94c_7 c22, by exact ow_94c_6 c18⟩ ⟨by decide, by decide⟩ dX12_feed_39 (by decide) (fun c23 => ?_) (fun c23 => ?_)
          · skip
            replace hb13 := hb13.trans (if_pos c23)
            refine pm_iload hC 6 dX12_feed_46 rfl ?_
            refine pm_bipush (v := 12) hC dX12_feed_48 (by decide) ?_
            refine pm_icmp_ge (tgt := 57) hC ⟨by exact ow_94c_8 c23, by exact ow_94c_6 c18⟩ ⟨by decide, by decide⟩ dX12_feed_50 (by decide) (fun c24 => ?_) (fun c24 => ?_)
            · skip
              replace hb13 := hb13.trans (if_pos c24)
              refine pm_iload hC 6 dX12_feed_57 rfl ?_
              refine pm_bipush (v := 16) hC dX12_feed_59 (by decide) ?_
              refine pm_icmp_ge (tgt := 69) hC ⟨by exact ow_94c_9 c24, by exact ow_94c_6 c18⟩ ⟨by decide, by decide⟩ dX12_feed_61 (by decide) (fun c25 => ?_) (fun c25 => ?_)
              · skip
                replace hb13 := hb13.trans (if_pos c25)
                refine pm_iload hC 5 dX12_feed_69 rfl ?_
                refine pm_istore (lv' := [(7, (0, a5)), (0, (3, 90)), (1, (0, a1)), (2, (0, a2)), (3, (0, a3)), (4, (0, a4)), (5, (0, a5)), (6, (0, x5))]) hC dX12_feed_71 (by decide) rfl ?_
                refine pm_aload_n hC 1 (by decide) dX12_feed_73 rfl ?_
                have e26 : V7 90 0 = 91 := hV8.one 90 0 (by decide) (by decide) rfl
                refine pm_getf (v := 91) hC 90 fl_X12_9 rfl rfl (by decide) rfl e26 dX12_feed_74 ?_
                refine pm_aload_n hC 1 (by decide) dX12_feed_77 rfl ?_
                obtain ⟨y27, e28⟩ : ∃ y, V7 90 1 = y := ⟨_, rfl⟩
                have b29 := hV8.get 90 1 (lo := 0) (hi := 500) (by decide) (by decide) rfl
                rw [e28] at b29
                replace hb13 := hb13.trans (pf_let_eq e28)
                refine pm_getf (v := y27) hC 90 fl_X12_94 rfl rfl (by decide) rfl e28 dX12_feed_78 ?_
                refine pm_iload hC 0 dX12_feed_81 rfl ?_
                refine pm_bipush (v := 24) hC dX12_feed_83 (by decide) ?_
                refine pm_bipush (v := 8) hC dX12_feed_85 (by decide) ?_
                refine pm_iload hC 7 dX12_feed_87 rfl ?_
                refine pm_iconst (v := 4) hC dX12_feed_89 ?_
                refine pm_irem hC ⟨by exact ow_94c_10 c25, by exact ow_94c_11 c25, by exact ow_94c_6 c18⟩ ⟨by decide, by decide, by decide⟩ dX12_feed_90 ?_
                refine pm_imul hC dX12_feed_91 ?_
                refine pm_isub hC dX12_feed_92 ?_
                refine pm_ishr hC dX12_feed_93 ?_
                have b31 := pm_ishrr a5 (24 - (8 * (x5 % 4)))
                obtain ⟨y30, hey30⟩ : ∃ z, (pm_ishrV a5 (24 - (8 * (x5 % 4)))) = z := ⟨_, rfl⟩
                rw [hey30] at b31 ⊢
                replace hb13 := hb13.trans (pf_let_eq hey30)
                refine pm_i2b hC dX12_feed_94 ?_
                obtain ⟨y32, b33⟩ : ∃ y, y = Int.bmod y30 256 := ⟨_, rfl⟩
                rw [← b33]
                replace hb13 := hb13.trans (pf_let_eq b33.symm)
                have b33 : -128 ≤ y32 ∧ y32 ≤ 127 := by rw [b33]; exact pm_bm8 _
                refine pm_bastore (len := 500) hC 91 rfl rfl (by decide) ⟨by exact ow_94c_12 b3 hm10 c25 e28, by exact ow_94c_13 c4 hm10 c18 e28⟩ (by decide) (by exact ow_94c_14 b33) dX12_feed_95 ?_
                refine pm_aload_n hC 1 (by decide) dX12_feed_96 rfl ?_
                refine pm_dup hC rfl dX12_feed_97 ?_
                refine pm_getf (v := y27) hC 90 fl_X12_94 rfl rfl (by decide) rfl e28 dX12_feed_98 ?_
                refine pm_iconst (v := 1) hC dX12_feed_101 ?_
                refine pm_iadd hC dX12_feed_102 ?_
                refine pm_putf hC 90 fl_X12_94 rfl rfl rfl (by decide) rfl trivial dX12_feed_103 ?_
                obtain ⟨x34, ei35⟩ : ∃ y : Int, x5 + 1 = y := ⟨_, rfl⟩
                replace hb13 := hb13.trans (pf_let_eq ei35)
                refine pm_iinc (y := x34) (lv' := [(6, (0, x34)), (7, (0, a5)), (0, (3, 90)), (1, (0, a1)), (2, (0, a2)), (3, (0, a3)), (4, (0, a4)), (5, (0, a5))]) hC 7 dX12_feed_106 (by decide) rfl ei35 rfl ?_
                refine pm_goto (tgt := 18) hC dX12_feed_109 (by decide) ?_
                refine pm_lvsub [2, 3, 4, 5, 6, 7, 0] (lv' := [(0, (3, 90)), (1, (0, a1)), (2, (0, a2)), (3, (0, a3)), (4, (0, a4)), (5, (0, a5)), (6, (0, x34))]) rfl ?_
                exact ih17 _ (by exact ow_94c_15 hm15 c18 ei35) x34 (pm_up (pm_up V7 91 (y27 : Int).toNat y32) 90 1 (y27 + 1)) ⟨by exact ow_94c_16 c25 ei35, by exact ow_94c_17 c18 ei35⟩ ((hV8.put 91 (y27 : Int).toNat (x := y32) (lo := (-128)) (hi := 127) rfl ⟨by exact ow_94c_18 b33, by exact ow_94c_19 b33⟩).put 90 1 (x := (y27 + 1)) (lo := 0) (hi := 500) rfl ⟨by exact ow_94c_20 b3 hm10 c25 e28, by exact ow_94c_21 c4 hm10 c18 e28⟩) ((hF9.up 91 (y27 : Int).toNat y32 (by decide) rfl).upf 1 (y27 + 1) rfl) (show (y27 + 1) = y1 + x34 by exact ow_94c_22 hm10 e28 ei35) (hT.trans (pf_val_inl hb13)) rfl
              · skip
                replace hb13 := hb13.trans (if_neg (Int.not_le.mpr c25))
                refine pm_iload hC 4 dX12_feed_64 rfl ?_
                refine pm_goto (tgt := 71) hC dX12_feed_66 (by decide) ?_
                refine pm_istore (lv' := [(7, (0, a4)), (0, (3, 90)), (1, (0, a1)), (2, (0, a2)), (3, (0, a3)), (4, (0, a4)), (5, (0, a5)), (6, (0, x5))]) hC dX12_feed_71 (by decide) rfl ?_
                refine pm_aload_n hC 1 (by decide) dX12_feed_73 rfl ?_
                have e36 : V7 90 0 = 91 := hV8.one 90 0 (by decide) (by decide) rfl
                refine pm_getf (v := 91) hC 90 fl_X12_9 rfl rfl (by decide) rfl e36 dX12_feed_74 ?_
                refine pm_aload_n hC 1 (by decide) dX12_feed_77 rfl ?_
                obtain ⟨y37, e38⟩ : ∃ y, V7 90 1 = y := ⟨_, rfl⟩
                have b39 := hV8.get 90 1 (lo := 0) (hi := 500) (by decide) (by decide) rfl
                rw [e38] at b39
                replace hb13 := hb13.trans (pf_let_eq e38)
                refine pm_getf (v := y37) hC 90 fl_X12_94 rfl rfl (by decide) rfl e38 dX12_feed_78 ?_
                refine pm_iload hC 0 dX12_feed_81 rfl ?_
                refine pm_bipush (v := 24) hC dX12_feed_83 (by decide) ?_
                refine pm_bipush (v := 8) hC dX12_feed_85 (by decide) ?_
                refine pm_iload hC 7 dX12_feed_87 rfl ?_
                refine pm_iconst (v := 4) hC dX12_feed_89 ?_
                refine pm_irem hC ⟨by exact ow_94c_23 c24, by exact ow_94c_9 c24, by exact ow_94c_24 c25⟩ ⟨by decide, by decide, by decide⟩ dX12_feed_90 ?_
                refine pm_imul hC dX12_feed_91 ?_
                refine pm_isub hC dX12_feed_92 ?_
                refine pm_ishr hC dX12_feed_93 ?_
                have b41 := pm_ishrr a4 (24 - (8 * (x5 % 4)))
                obtain ⟨y40, hey40⟩ : ∃ z, (pm_ishrV a4 (24 - (8 * (x5 % 4)))) = z := ⟨_, rfl⟩
                rw [hey40] at b41 ⊢
                replace hb13 := hb13.trans (pf_let_eq hey40)
                refine pm_i2b hC dX12_feed_94 ?_
                obtain ⟨y42, b43⟩ : ∃ y, y = Int.bmod y40 256 := ⟨_, rfl⟩
                rw [← b43]
                replace hb13 := hb13.trans (pf_let_eq b43.symm)
                have b43 : -128 ≤ y42 ∧ y42 ≤ 127 := by rw [b43]; exact pm_bm8 _
                refine pm_bastore (len := 500) hC 91 rfl rfl (by decide) ⟨by exact ow_94c_25 b3 hm10 c24 e38, by exact ow_94c_26 c4 hm10 c25 e38⟩ (by decide) (by exact ow_94c_14 b43) dX12_feed_95 ?_
                refine pm_aload_n hC 1 (by decide) dX12_feed_96 rfl ?_
                refine pm_dup hC rfl dX12_feed_97 ?_
                refine pm_getf (v := y37) hC 90 fl_X12_94 rfl rfl (by decide) rfl e38 dX12_feed_98 ?_
                refine pm_iconst (v := 1) hC dX12_feed_101 ?_
                refine pm_iadd hC dX12_feed_102 ?_
                refine pm_putf hC 90 fl_X12_94 rfl rfl rfl (by decide) rfl trivial dX12_feed_103 ?_
                obtain ⟨x44, ei45⟩ : ∃ y : Int, x5 + 1 = y := ⟨_, rfl⟩
                replace hb13 := hb13.trans (pf_let_eq ei45)
                refine pm_iinc (y := x44) (lv' := [(6, (0, x44)), (7, (0, a4)), (0, (3, 90)), (1, (0, a1)), (2, (0, a2)), (3, (0, a3)), (4, (0, a4)), (5, (0, a5))]) hC 7 dX12_feed_106 (by decide) rfl ei45 rfl ?_
                refine pm_goto (tgt := 18) hC dX12_feed_109 (by decide) ?_
                refine pm_lvsub [2, 3, 4, 5, 6, 7, 0] (lv' := [(0, (3, 90)), (1, (0, a1)), (2, (0, a2)), (3, (0, a3)), (4, (0, a4)), (5, (0, a5)), (6, (0, x44))]) rfl ?_
                exact ih17 _ (by exact ow_94c_27 hm15 c25 ei45) x44 (pm_up (pm_up V7 91 (y37 : Int).toNat y42) 90 1 (y37 + 1)) ⟨by exact ow_94c_28 c24 ei45, by exact ow_94c_29 c25 ei45⟩ ((hV8.put 91 (y37 : Int).toNat (x := y42) (lo := (-128)) (hi := 127) rfl ⟨by exact ow_94c_18 b43, by exact ow_94c_19 b43⟩).put 90 1 (x := (y37 + 1)) (lo := 0) (hi := 500) rfl ⟨by exact ow_94c_30 b3 hm10 c24 e38, by exact ow_94c_31 c4 hm10 c25 e38⟩) ((hF9.up 91 (y37 : Int).toNat y42 (by decide) rfl).upf 1 (y37 + 1) rfl) (show (y37 + 1) = y1 + x44 by exact ow_94c_22 hm10 e38 ei45) (hT.trans (pf_val_inl hb13)) rfl
            · skip
              replace hb13 := hb13.trans (if_neg (Int.not_le.mpr c24))
              refine pm_iload_n hC 3 dX12_feed_53 rfl ?_
              refine pm_goto (tgt := 71) hC dX12_feed_54 (by decide) ?_
              refine pm_istore (lv' := [(7, (0, a3)), (0, (3, 90)), (1, (0, a1)), (2, (0, a2)), (3, (0, a3)), (4, (0, a4)), (5, (0, a5)), (6, (0, x5))]) hC dX12_feed_71 (by decide) rfl ?_
              refine pm_aload_n hC 1 (by decide) dX12_feed_73 rfl ?_
              have e46 : V7 90 0 = 91 := hV8.one 90 0 (by decide) (by decide) rfl
              refine pm_getf (v := 91) hC 90 fl_X12_9 rfl rfl (by decide) rfl e46 dX12_feed_74 ?_
              refine pm_aload_n hC 1 (by decide) dX12_feed_77 rfl ?_
              obtain ⟨y47, e48⟩ : ∃ y, V7 90 1 = y := ⟨_, rfl⟩
              have b49 := hV8.get 90 1 (lo := 0) (hi := 500) (by decide) (by decide) rfl
              rw [e48] at b49
              replace hb13 := hb13.trans (pf_let_eq e48)
              refine pm_getf (v := y47) hC 90 fl_X12_94 rfl rfl (by decide) rfl e48 dX12_feed_78 ?_
              refine pm_iload hC 0 dX12_feed_81 rfl ?_
              refine pm_bipush (v := 24) hC dX12_feed_83 (by decide) ?_
              refine pm_bipush (v := 8) hC dX12_feed_85 (by decide) ?_
              refine pm_iload hC 7 dX12_feed_87 rfl ?_
              refine pm_iconst (v := 4) hC dX12_feed_89 ?_
              refine pm_irem hC ⟨by exact ow_94c_32 c23, by exact ow_94c_8 c23, by exact ow_94c_33 c24⟩ ⟨by decide, by decide, by decide⟩ dX12_feed_90 ?_
              refine pm_imul hC dX12_feed_91 ?_
              refine pm_isub hC dX12_feed_92 ?_
              refine pm_ishr hC dX12_feed_93 ?_
              have b51 := pm_ishrr a3 (24 - (8 * (x5 % 4)))
              obtain ⟨y50, hey50⟩ : ∃ z, (pm_ishrV a3 (24 - (8 * (x5 % 4)))) = z := ⟨_, rfl⟩
              rw [hey50] at b51 ⊢
              replace hb13 := hb13.trans (pf_let_eq hey50)
              refine pm_i2b hC dX12_feed_94 ?_
              obtain ⟨y52, b53⟩ : ∃ y, y = Int.bmod y50 256 := ⟨_, rfl⟩
              rw [← b53]
              replace hb13 := hb13.trans (pf_let_eq b53.symm)
              have b53 : -128 ≤ y52 ∧ y52 ≤ 127 := by rw [b53]; exact pm_bm8 _
              refine pm_bastore (len := 500) hC 91 rfl rfl (by decide) ⟨by exact ow_94c_34 b3 hm10 c23 e48, by exact ow_94c_35 c4 hm10 c24 e48⟩ (by decide) (by exact ow_94c_14 b53) dX12_feed_95 ?_
              refine pm_aload_n hC 1 (by decide) dX12_feed_96 rfl ?_
              refine pm_dup hC rfl dX12_feed_97 ?_
              refine pm_getf (v := y47) hC 90 fl_X12_94 rfl rfl (by decide) rfl e48 dX12_feed_98 ?_
              refine pm_iconst (v := 1) hC dX12_feed_101 ?_
              refine pm_iadd hC dX12_feed_102 ?_
              refine pm_putf hC 90 fl_X12_94 rfl rfl rfl (by decide) rfl trivial dX12_feed_103 ?_
              obtain ⟨x54, ei55⟩ : ∃ y : Int, x5 + 1 = y := ⟨_, rfl⟩
              replace hb13 := hb13.trans (pf_let_eq ei55)
              refine pm_iinc (y := x54) (lv' := [(6, (0, x54)), (7, (0, a3)), (0, (3, 90)), (1, (0, a1)), (2, (0, a2)), (3, (0, a3)), (4, (0, a4)), (5, (0, a5))]) hC 7 dX12_feed_106 (by decide) rfl ei55 rfl ?_
              refine pm_goto (tgt := 18) hC dX12_feed_109 (by decide) ?_
              refine pm_lvsub [2, 3, 4, 5, 6, 7, 0] (lv' := [(0, (3, 90)), (1, (0, a1)), (2, (0, a2)), (3, (0, a3)), (4, (0, a4)), (5, (0, a5)), (6, (0, x54))]) rfl ?_
              exact ih17 _ (by exact ow_94c_36 hm15 c24 ei55) x54 (pm_up (pm_up V7 91 (y47 : Int).toNat y52) 90 1 (y47 + 1)) ⟨by exact ow_94c_37 c23 ei55, by exact ow_94c_38 c24 ei55⟩ ((hV8.put 91 (y47 : Int).toNat (x := y52) (lo := (-128)) (hi := 127) rfl ⟨by exact ow_94c_18 b53, by exact ow_94c_19 b53⟩).put 90 1 (x := (y47 + 1)) (lo := 0) (hi := 500) rfl ⟨by exact ow_94c_39 b3 hm10 c23 e48, by exact ow_94c_40 c4 hm10 c24 e48⟩) ((hF9.up 91 (y47 : Int).toNat y52 (by decide) rfl).upf 1 (y47 + 1) rfl) (show (y47 + 1) = y1 + x54 by exact ow_94c_22 hm10 e48 ei55) (hT.trans (pf_val_inl hb13)) rfl
          · skip
            replace hb13 := hb13.trans (if_neg (Int.not_le.mpr c23))
            refine pm_iload_n hC 2 dX12_feed_42 rfl ?_
            refine pm_goto (tgt := 71) hC dX12_feed_43 (by decide) ?_
            refine pm_istore (lv' := [(7, (0, a2)), (0, (3, 90)), (1, (0, a1)), (2, (0, a2)), (3, (0, a3)), (4, (0, a4)), (5, (0, a5)), (6, (0, x5))]) hC dX12_feed_71 (by decide) rfl ?_
            refine pm_aload_n hC 1 (by decide) dX12_feed_73 rfl ?_
            have e56 : V7 90 0 = 91 := hV8.one 90 0 (by decide) (by decide) rfl
            refine pm_getf (v := 91) hC 90 fl_X12_9 rfl rfl (by decide) rfl e56 dX12_feed_74 ?_
            refine pm_aload_n hC 1 (by decide) dX12_feed_77 rfl ?_
            obtain ⟨y57, e58⟩ : ∃ y, V7 90 1 = y := ⟨_, rfl⟩
            have b59 := hV8.get 90 1 (lo := 0) (hi := 500) (by decide) (by decide) rfl
            rw [e58] at b59
            replace hb13 := hb13.trans (pf_let_eq e58)
            refine pm_getf (v := y57) hC 90 fl_X12_94 rfl rfl (by decide) rfl e58 dX12_feed_78 ?_
            refine pm_iload hC 0 dX12_feed_81 rfl ?_
            refine pm_bipush (v := 24) hC dX12_feed_83 (by decide) ?_
            refine pm_bipush (v := 8) hC dX12_feed_85 (by decide) ?_
            refine pm_iload hC 7 dX12_feed_87 rfl ?_
            refine pm_iconst (v := 4) hC dX12_feed_89 ?_
            refine pm_irem hC ⟨by exact ow_94c_41 c22, by exact ow_94c_7 c22, by exact ow_94c_42 c23⟩ ⟨by decide, by decide, by decide⟩ dX12_feed_90 ?_
            refine pm_imul hC dX12_feed_91 ?_
            refine pm_isub hC dX12_feed_92 ?_
            refine pm_ishr hC dX12_feed_93 ?_
            have b61 := pm_ishrr a2 (24 - (8 * (x5 % 4)))
            obtain ⟨y60, hey60⟩ : ∃ z, (pm_ishrV a2 (24 - (8 * (x5 % 4)))) = z := ⟨_, rfl⟩
            rw [hey60] at b61 ⊢
            replace hb13 := hb13.trans (pf_let_eq hey60)
            refine pm_i2b hC dX12_feed_94 ?_
            obtain ⟨y62, b63⟩ : ∃ y, y = Int.bmod y60 256 := ⟨_, rfl⟩
            rw [← b63]
            replace hb13 := hb13.trans (pf_let_eq b63.symm)
            have b63 : -128 ≤ y62 ∧ y62 ≤ 127 := by rw [b63]; exact pm_bm8 _
            refine pm_bastore (len := 500) hC 91 rfl rfl (by decide) ⟨by exact ow_94c_43 b3 hm10 c22 e58, by exact ow_94c_44 c4 hm10 c23 e58⟩ (by decide) (by exact ow_94c_14 b63) dX12_feed_95 ?_
            refine pm_aload_n hC 1 (by decide) dX12_feed_96 rfl ?_
            refine pm_dup hC rfl dX12_feed_97 ?_
            refine pm_getf (v := y57) hC 90 fl_X12_94 rfl rfl (by decide) rfl e58 dX12_feed_98 ?_
            refine pm_iconst (v := 1) hC dX12_feed_101 ?_
            refine pm_iadd hC dX12_feed_102 ?_
            refine pm_putf hC 90 fl_X12_94 rfl rfl rfl (by decide) rfl trivial dX12_feed_103 ?_
            obtain ⟨x64, ei65⟩ : ∃ y : Int, x5 + 1 = y := ⟨_, rfl⟩
            replace hb13 := hb13.trans (pf_let_eq ei65)
            refine pm_iinc (y := x64) (lv' := [(6, (0, x64)), (7, (0, a2)), (0, (3, 90)), (1, (0, a1)), (2, (0, a2)), (3, (0, a3)), (4, (0, a4)), (5, (0, a5))]) hC 7 dX12_feed_106 (by decide) rfl ei65 rfl ?_
            refine pm_goto (tgt := 18) hC dX12_feed_109 (by decide) ?_
            refine pm_lvsub [2, 3, 4, 5, 6, 7, 0] (lv' := [(0, (3, 90)), (1, (0, a1)), (2, (0, a2)), (3, (0, a3)), (4, (0, a4)), (5, (0, a5)), (6, (0, x64))]) rfl ?_
            exact ih17 _ (by exact ow_94c_45 hm15 c23 ei65) x64 (pm_up (pm_up V7 91 (y57 : Int).toNat y62) 90 1 (y57 + 1)) ⟨by exact ow_94c_46 c22 ei65, by exact ow_94c_47 c23 ei65⟩ ((hV8.put 91 (y57 : Int).toNat (x := y62) (lo := (-128)) (hi := 127) rfl ⟨by exact ow_94c_18 b63, by exact ow_94c_19 b63⟩).put 90 1 (x := (y57 + 1)) (lo := 0) (hi := 500) rfl ⟨by exact ow_94c_48 b3 hm10 c22 e58, by exact ow_94c_49 c4 hm10 c23 e58⟩) ((hF9.up 91 (y57 : Int).toNat y62 (by decide) rfl).upf 1 (y57 + 1) rfl) (show (y57 + 1) = y1 + x64 by exact ow_94c_22 hm10 e58 ei65) (hT.trans (pf_val_inl hb13)) rfl
        · skip
          replace hb13 := hb13.trans (if_neg (Int.not_le.mpr c22))
          refine pm_iload_n hC 1 dX12_feed_31 rfl ?_
          refine pm_goto (tgt := 71) hC dX12_feed_32 (by decide) ?_
          refine pm_istore (lv' := [(7, (0, a1)), (0, (3, 90)), (1, (0, a1)), (2, (0, a2)), (3, (0, a3)), (4, (0, a4)), (5, (0, a5)), (6, (0, x5))]) hC dX12_feed_71 (by decide) rfl ?_
          refine pm_aload_n hC 1 (by decide) dX12_feed_73 rfl ?_
          have e66 : V7 90 0 = 91 := hV8.one 90 0 (by decide) (by decide) rfl
          refine pm_getf (v := 91) hC 90 fl_X12_9 rfl rfl (by decide) rfl e66 dX12_feed_74 ?_
          refine pm_aload_n hC 1 (by decide) dX12_feed_77 rfl ?_
          obtain ⟨y67, e68⟩ : ∃ y, V7 90 1 = y := ⟨_, rfl⟩
          have b69 := hV8.get 90 1 (lo := 0) (hi := 500) (by decide) (by decide) rfl
          rw [e68] at b69
          replace hb13 := hb13.trans (pf_let_eq e68)
          refine pm_getf (v := y67) hC 90 fl_X12_94 rfl rfl (by decide) rfl e68 dX12_feed_78 ?_
          refine pm_iload hC 0 dX12_feed_81 rfl ?_
          refine pm_bipush (v := 24) hC dX12_feed_83 (by decide) ?_
          refine pm_bipush (v := 8) hC dX12_feed_85 (by decide) ?_
          refine pm_iload hC 7 dX12_feed_87 rfl ?_
          refine pm_iconst (v := 4) hC dX12_feed_89 ?_
          refine pm_irem hC ⟨by exact ow_94c_50 b6, by exact ow_94c_2 b6, by exact ow_94c_51 c22⟩ ⟨by decide, by decide, by decide⟩ dX12_feed_90 ?_
          refine pm_imul hC dX12_feed_91 ?_
          refine pm_isub hC dX12_feed_92 ?_
          refine pm_ishr hC dX12_feed_93 ?_
          have b71 := pm_ishrr a1 (24 - (8 * (x5 % 4)))
          obtain ⟨y70, hey70⟩ : ∃ z, (pm_ishrV a1 (24 - (8 * (x5 % 4)))) = z := ⟨_, rfl⟩
          rw [hey70] at b71 ⊢
          replace hb13 := hb13.trans (pf_let_eq hey70)
          refine pm_i2b hC dX12_feed_94 ?_
          obtain ⟨y72, b73⟩ : ∃ y, y = Int.bmod y70 256 := ⟨_, rfl⟩
          rw [← b73]
          replace hb13 := hb13.trans (pf_let_eq b73.symm)
          have b73 : -128 ≤ y72 ∧ y72 ≤ 127 := by rw [b73]; exact pm_bm8 _
          refine pm_bastore (len := 500) hC 91 rfl rfl (by decide) ⟨by exact ow_94c_52 b69, by exact ow_94c_53 c4 hm10 c22 e68⟩ (by decide) (by exact ow_94c_14 b73) dX12_feed_95 ?_
          refine pm_aload_n hC 1 (by decide) dX12_feed_96 rfl ?_
          refine pm_dup hC rfl dX12_feed_97 ?_
          refine pm_getf (v := y67) hC 90 fl_X12_94 rfl rfl (by decide) rfl e68 dX12_feed_98 ?_
          refine pm_iconst (v := 1) hC dX12_feed_101 ?_
          refine pm_iadd hC dX12_feed_102 ?_
          refine pm_putf hC 90 fl_X12_94 rfl rfl rfl (by decide) rfl trivial dX12_feed_103 ?_
          obtain ⟨x74, ei75⟩ : ∃ y : Int, x5 + 1 = y := ⟨_, rfl⟩
          replace hb13 := hb13.trans (pf_let_eq ei75)
          refine pm_iinc (y := x74) (lv' := [(6, (0, x74)), (7, (0, a1)), (0, (3, 90)), (1, (0, a1)), (2, (0, a2)), (3, (0, a3)), (4, (0, a4)), (5, (0, a5))]) hC 7 dX12_feed_106 (by decide) rfl ei75 rfl ?_
          refine pm_goto (tgt := 18) hC dX12_feed_109 (by decide) ?_
          refine pm_lvsub [2, 3, 4, 5, 6, 7, 0] (lv' := [(0, (3, 90)), (1, (0, a1)), (2, (0, a2)), (3, (0, a3)), (4, (0, a4)), (5, (0, a5)), (6, (0, x74))]) rfl ?_
          exact ih17 _ (by exact ow_94c_54 hm15 c22 ei75) x74 (pm_up (pm_up V7 91 (y67 : Int).toNat y72) 90 1 (y67 + 1)) ⟨by exact ow_94c_55 b6 ei75, by exact ow_94c_56 c22 ei75⟩ ((hV8.put 91 (y67 : Int).toNat (x := y72) (lo := (-128)) (hi := 127) rfl ⟨by exact ow_94c_18 b73, by exact ow_94c_19 b73⟩).put 90 1 (x := (y67 + 1)) (lo := 0) (hi := 500) rfl ⟨by exact ow_94c_57 b69, by exact ow_94c_58 c4 hm10 c22 e68⟩) ((hF9.up 91 (y67 : Int).toNat y72 (by decide) rfl).upf 1 (y67 + 1) rfl) (show (y67 + 1) = y1 + x74 by exact ow_94c_22 hm10 e68 ei75) (hT.trans (pf_val_inl hb13)) rfl
    refine pm_lvsub [1, 2, 3, 4, 5, 6, 0] (lv' := [(0, (3, 90)), (1, (0, a1)), (2, (0, a2)), (3, (0, a3)), (4, (0, a4)), (5, (0, a5)), (6, (0, 0))]) rfl ?_
    exact L14 _ 0 V0 ⟨by decide, by decide⟩ hV0 (pm_fs.rf (cs := [91]) (fs := [1]) (V := V0)) (by (have e : V0 90 1 = y1 := e2); rw [e]; exact ow_94c_59) hT rfl
  · skip
    replace hT := hT.trans (if_neg (Int.not_le.mpr c4))
    refine pm_iconst (v := (-1)) hC dX12_feed_13 ?_
    exact pm_iret hC hR pm_nar0 ⟨(-1), rfl, ⟨by exact ow_94c_60, by exact ow_94c_61⟩, hV0, (pm_fs.rf (cs := [91]) (fs := [1]) (V := V0)), hT⟩ dX12_feed_14
set_option maxHeartbeats 4000000 in
set_option maxRecDepth 100000 in
theorem fP_X12_in (a1 a2 a3 : Int) (h0 : (-2147483648) ≤ a1 ∧ a1 ≤ 2147483647) (h1 : (-2147483648) ≤ a2 ∧ a2 ≤ 2147483647) (h2 : (-2147483648) ≤ a3 ∧ a3 ≤ 2147483647) : pm_K 1 yX12_in cX12_in 3 (some .boolean) (fun av V => av = [(0, a1), (0, a2), (0, a3)] ∧ pm_oq pm_qP V) (fun _ V r V' => ∃ y, r = some (0, y) ∧ (0 ≤ y ∧ y ≤ 1 ∧ (y = 1 → a2 ≤ a1 ∧ a1 ≤ a3)) ∧ V = V' ∧ F_X12_in a1 a2 a3 V = (y, V)) := by
  refine pm_MT.of (by decide) ⟨Nat.le_refl _, by decide⟩ (fun av V h => by rw [h.1]; exact (by decide : pm_words [(0, 0), (0, 0), (0, 0)] ≤ 3)) ?_
  rintro X av V0 hC - hR ⟨rfl, hV0⟩
  change pm_J X 0 [(0, (0, a1)), (1, (0, a2)), (2, (0, a3))] [] 118 V0
  have hT := F_X12_in_eq a1 a2 a3 V0
  refine pm_iload_n hC 0 dX12_in_0 rfl ?_
  refine pm_iload_n hC 1 dX12_in_1 rfl ?_
  refine pm_icmp_lt (tgt := 14) hC ⟨by exact ow_94c_62 h0, by exact ow_94c_63 h0⟩ ⟨by exact ow_94c_62 h1, by exact ow_94c_63 h1⟩ dX12_in_2 (by decide) (fun c1 => ?_) (fun c1 => ?_)
  · skip
    replace hT := hT.trans (if_pos c1)
    refine pm_iconst (v := 0) hC dX12_in_14 ?_
    exact pm_iret hC hR (pm_narZ (by exact ow_94c_64)) ⟨0, rfl, ⟨by exact ow_94c_65, by exact ow_94c_66, by exact ow_94c_67⟩, rfl, hT⟩ dX12_in_15
  · skip
    replace hT := hT.trans (if_neg (Int.not_lt.mpr c1))
    refine pm_iload_n hC 0 dX12_in_5 rfl ?_
    refine pm_iload_n hC 2 dX12_in_6 rfl ?_
    refine pm_icmp_gt (tgt := 14) hC ⟨by exact ow_94c_62 h0, by exact ow_94c_63 h0⟩ ⟨by exact ow_94c_62 h2, by exact ow_94c_63 h2⟩ dX12_in_7 (by decide) (fun c2 => ?_) (fun c2 => ?_)
    · skip
      replace hT := hT.trans (if_pos c2)
      refine pm_iconst (v := 0) hC dX12_in_14 ?_
      exact pm_iret hC hR (pm_narZ (by exact ow_94c_64)) ⟨0, rfl, ⟨by exact ow_94c_65, by exact ow_94c_66, by exact ow_94c_67⟩, rfl, hT⟩ dX12_in_15
    · skip
      replace hT := hT.trans (if_neg (Int.not_lt.mpr c2))
      refine pm_iconst (v := 1) hC dX12_in_10 ?_
      refine pm_goto (tgt := 15) hC dX12_in_11 (by decide) ?_
      exact pm_iret hC hR (pm_narZ (by exact ow_94c_68)) ⟨1, rfl, ⟨by exact ow_94c_66, by exact ow_94c_69, by exact ow_94c_70 c1 c2⟩, rfl, hT⟩ dX12_in_15
set_option maxHeartbeats 4000000 in
set_option maxRecDepth 100000 in
theorem fP_X12_end (a1 : Int) (h0 : (-2147483648) ≤ a1 ∧ a1 ≤ 2147483647) : pm_K 2 yX12_end cX12_end 2 (some .boolean) (fun av V => av = [(3, 90), (0, a1)] ∧ pm_oq pm_qP V) (fun _ V r V' => ∃ y, r = some (0, y) ∧ (0 ≤ y ∧ y ≤ 1) ∧ pm_oq pm_qP V' ∧ pm_fs [] [1] V V' ∧ F_X12_end a1 V = (y, V')) := by
  refine pm_MT.of (by decide) ⟨Nat.le_refl _, by decide⟩ (fun av V h => by rw [h.1]; exact (by decide : pm_words [(3, 0), (0, 0)] ≤ 2)) ?_
  rintro X av V0 hC - hR ⟨rfl, hV0⟩
  change pm_J X 0 [(0, (3, 90)), (1, (0, a1))] [] 118 V0
  have hT := F_X12_end_eq a1 V0
  refine pm_iload_n hC 1 dX12_end_0 rfl ?_
  refine pm_iconst (v := 0) hC dX12_end_1 ?_
  refine pm_aload_n hC 0 (by decide) dX12_end_2 rfl ?_
  obtain ⟨y1, e2⟩ : ∃ y, V0 90 1 = y := ⟨_, rfl⟩
  have b3 := hV0.get 90 1 (lo := 0) (hi := 500) (by decide) (by decide) rfl
  rw [e2] at b3
  replace hT := hT.trans (pf_let_eq e2)
  refine pm_getf (v := y1) hC 90 fl_X12_94 rfl rfl (by decide) rfl e2 dX12_end_3 ?_
  refine pm_callS (as := [(0, a1), (0, 0), (0, y1)]) (st := []) hC (fP_X12_in a1 0 y1 ⟨by exact ow_94c_62 h0, by exact ow_94c_63 h0⟩ ⟨by decide, by decide⟩ ⟨by exact ow_94c_71 b3, by exact ow_94c_72 b3⟩) lm_X12_98 ls_X12_in (by decide) (by decide) rfl rfl (Nat.le_of_ble_eq_true rfl) ⟨Nat.le_refl _, Or.inl rfl⟩ dX12_end_6 ⟨rfl, hV0⟩ (fun r4 V5 hp6 => ?_)
  obtain ⟨y7, rfl, b8, rfl, hE9⟩ := hp6
  replace hT := hT.trans (pf_call_eq hE9)
  change pm_J X 9 [(0, (3, 90)), (1, (0, a1))] [(0, y7)] 118 V0
  refine pm_if_ne (tgt := 14) hC ⟨by exact ow_94c_73 b8, by exact ow_94c_74 b8⟩ dX12_end_9 (by decide) (fun c10 => ?_) (fun c10 => ?_)
  · skip
    replace hT := hT.trans (if_pos c10)
    refine pm_aload_n hC 0 (by decide) dX12_end_14 rfl ?_
    refine pm_iload_n hC 1 dX12_end_15 rfl ?_
    refine pm_putf hC 90 fl_X12_94 rfl rfl rfl (by decide) rfl trivial dX12_end_16 ?_
    refine pm_iconst (v := 1) hC dX12_end_19 ?_
    exact pm_iret hC hR (pm_narZ (by exact ow_94c_68)) ⟨1, rfl, ⟨by exact ow_94c_66, by exact ow_94c_69⟩, (hV0.put 90 1 (x := a1) (lo := 0) (hi := 500) rfl ⟨by exact ow_94c_75 b8 c10, by exact ow_94c_76 b3 b8 c10⟩), ((pm_fs.rf (cs := []) (fs := [1]) (V := V0)).upf 1 a1 rfl), hT⟩ dX12_end_20
  · skip
    replace hT := hT.trans (if_neg (fun q => q c10))
    refine pm_iconst (v := 0) hC dX12_end_12 ?_
    exact pm_iret hC hR (pm_narZ (by exact ow_94c_64)) ⟨0, rfl, ⟨by exact ow_94c_65, by exact ow_94c_66⟩, hV0, (pm_fs.rf (cs := []) (fs := [1]) (V := V0)), hT⟩ dX12_end_13
set_option maxHeartbeats 4000000 in
set_option maxRecDepth 100000 in
theorem fP_X12_fault (a1 : Int) (h0 : (-2147483648) ≤ a1 ∧ a1 ≤ 2147483647) : pm_K 11 yX12_fault cX12_fault 2 (some .int) (fun av V => av = [(3, 90), (0, a1)] ∧ pm_oq pm_qP V) (fun _ V r V' => ∃ y, r = some (0, y) ∧ ((-2147483648) ≤ y ∧ y ≤ 500) ∧ pm_oq pm_qP V' ∧ pm_fs [92, 93, 94, 95, 96, 107, 109] [2, 3, 4, 5, 6, 11, 12, 13, 32, 33, 37, 39] V V' ∧ F_X12_fault a1 V = (y, V')) := by
  refine pm_MT.of (by decide) ⟨Nat.le_refl _, by decide⟩ (fun av V h => by rw [h.1]; exact (by decide : pm_words [(3, 0), (0, 0)] ≤ 2)) ?_
  rintro X av V0 hC - hR ⟨rfl, hV0⟩
  change pm_J X 0 [(0, (3, 90)), (1, (0, a1))] [] 118 V0
  have hT := F_X12_fault_eq a1 V0
  refine pm_iload_n hC 1 dX12_fault_0 rfl ?_
  refine pm_if_ne (tgt := 11) hC ⟨by exact ow_94c_62 h0, by exact ow_94c_63 h0⟩ dX12_fault_1 (by decide) (fun c1 => ?_) (fun c1 => ?_)
  · skip
    replace hT := hT.trans (if_pos c1)
    refine pm_iload_n hC 1 dX12_fault_11 rfl ?_
    refine pm_iconst (v := 1) hC dX12_fault_12 ?_
    refine pm_icmp_ne (tgt := 23) hC ⟨by exact ow_94c_62 h0, by exact ow_94c_63 h0⟩ ⟨by decide, by decide⟩ dX12_fault_13 (by decide) (fun c2 => ?_) (fun c2 => ?_)
    · skip
      replace hT := hT.trans (if_pos c2)
      refine pm_ldcw (v := (-2147483648)) hC 7000 dX12_fault_23 (by decide +kernel) ?_
      exact pm_iret hC hR pm_nar0 ⟨(-2147483648), rfl, ⟨by exact ow_94c_77, by exact ow_94c_78⟩, hV0, (pm_fs.rf (cs := [92, 93, 94, 95, 96, 107, 109]) (fs := [2, 3, 4, 5, 6, 11, 12, 13, 32, 33, 37, 39]) (V := V0)), hT⟩ dX12_fault_26
    · skip
      replace hT := hT.trans (if_neg (fun q => q c2))
      refine pm_aload_n hC 0 (by decide) dX12_fault_16 rfl ?_
      refine pm_callV (ci := 12) (as := []) (st := []) hC 90 fP_X12_rulesFault lm_X12_292 li_X12_rulesFault (by decide) (by decide) rfl rfl rfl (by decide) rfl rfl (Nat.le_of_ble_eq_true rfl) ⟨Nat.le_refl _, Or.inl rfl⟩ dX12_fault_17 ⟨rfl, hV0⟩ (fun r3 V4 hp5 => ?_)
      obtain ⟨y6, rfl, b7, hV8, hF9, hg10, hg11, hxp12, hxp13, hE14⟩ := hp5
      replace hT := hT.trans (pf_call_eq hE14)
      change pm_J X 20 [(0, (3, 90)), (1, (0, a1))] [(0, y6)] 118 V4
      have hF15 := pm_fs.tr (pm_fs.rf (cs := [92, 93, 94, 95, 96, 107, 109]) (fs := [2, 3, 4, 5, 6, 11, 12, 13, 32, 33, 37, 39]) (V := V0)) hF9 (by decide) (by decide)
      refine pm_goto (tgt := 26) hC dX12_fault_20 (by decide) ?_
      exact pm_iret hC hR pm_nar0 ⟨y6, rfl, ⟨by exact ow_94c_79 b7, by exact ow_94c_80 b7⟩, hV8, hF15, hT⟩ dX12_fault_26
  · skip
    replace hT := hT.trans (if_neg (fun q => q c1))
    refine pm_aload_n hC 0 (by decide) dX12_fault_4 rfl ?_
    refine pm_callV (ci := 12) (as := []) (st := []) hC 90 fP_X12_sceneFault lm_X12_213 li_X12_sceneFault (by decide) (by decide) rfl rfl rfl (by decide) rfl rfl (Nat.le_of_ble_eq_true rfl) ⟨Nat.le_refl _, Or.inl rfl⟩ dX12_fault_5 ⟨rfl, hV0⟩ (fun r16 V17 hp18 => ?_)
    obtain ⟨y19, rfl, b20, hV21, hF22, hg23, hE24⟩ := hp18
    replace hT := hT.trans (pf_call_eq hE24)
    change pm_J X 8 [(0, (3, 90)), (1, (0, a1))] [(0, y19)] 118 V17
    have hF25 := pm_fs.tr (pm_fs.rf (cs := [92, 93, 94, 95, 96, 107, 109]) (fs := [2, 3, 4, 5, 6, 11, 12, 13, 32, 33, 37, 39]) (V := V0)) hF22 (by decide) (by decide)
    refine pm_goto (tgt := 26) hC dX12_fault_8 (by decide) ?_
    exact pm_iret hC hR pm_nar0 ⟨y19, rfl, ⟨by exact ow_94c_79 b20, by exact ow_94c_80 b20⟩, hV21, hF25, hT⟩ dX12_fault_26
set_option maxHeartbeats 4000000 in
set_option maxRecDepth 100000 in
theorem fP_X12_rules  : pm_K 10 yX12_rules cX12_rules 2 (some .int) (fun av V => av = [(3, 90)] ∧ pm_oq pm_qP V ∧ pm_r1 V) (fun _ V r V' => ∃ y, r = some (0, y) ∧ ((-1) ≤ y ∧ y ≤ 10) ∧ pm_oq pm_qP V' ∧ pm_fs [107, 108, 109] [1, 2, 3, 4, 5, 32, 33, 35, 37, 39] V V' ∧ pm_r1 V' ∧ (∃ z W, F_X12_rulesFault V = (z, W) ∧ ((z = -1 ∧ 0 ≤ y ∧ V' 90 1 = 0 ∧ y = W 90 32 ∧ V' 90 35 = W 90 32 ∧ ∀ q : Nat, (q : Int) < 2 * W 90 33 → V' 108 q = W 107 q) ∨ (z ≠ -1 ∧ y = -1 ∧ V' = W ∧ pm_fs [107, 109] [2, 3, 4, 5, 32, 33, 37, 39] V V'))) ∧ F_X12_rules  V = (y, V')) := by
  refine pm_MT.of (by decide) ⟨Nat.le_refl _, by decide⟩ (fun av V h => by rw [h.1]; exact (by decide : pm_words [(3, 0)] ≤ 2)) ?_
  rintro X av V0 hC - hR ⟨rfl, hV0, hn_pm_r1⟩
  change pm_J X 0 [(0, (3, 90))] [] 118 V0
  have hT := F_X12_rules_eq  V0
  refine pm_aload_n hC 0 (by decide) dX12_rules_0 rfl ?_
  refine pm_callV (ci := 12) (as := []) (st := []) hC 90 fP_X12_rulesFault lm_X12_292 li_X12_rulesFault (by decide) (by decide) rfl rfl rfl (by decide) rfl rfl (Nat.le_of_ble_eq_true rfl) ⟨Nat.le_refl _, Or.inl rfl⟩ dX12_rules_1 ⟨rfl, hV0⟩ (fun r1 V2 hp3 => ?_)
  obtain ⟨y4, rfl, b5, hV6, hF7, hg8, hg9, hxp10, hxp11, hE12⟩ := hp3
  replace hT := hT.trans (pf_call_eq hE12)
  change pm_J X 4 [(0, (3, 90))] [(0, y4)] 118 V2
  have hF13 := pm_fs.tr (pm_fs.rf (cs := [107, 108, 109]) (fs := [1, 2, 3, 4, 5, 32, 33, 35, 37, 39]) (V := V0)) hF7 (by decide) (by decide)
  have hp14 : pm_r1 V2 := (pm_r1.fr hn_pm_r1 (hF7.2 35 (by decide)) (hF7.1 108 (by decide) (by decide)))
  obtain ⟨y15, e16⟩ : ∃ y, V2 90 32 = y := ⟨_, rfl⟩
  have b17 := hV6.get 90 32 (lo := 0) (hi := 10) (by decide) (by decide) rfl
  rw [e16] at b17
  replace hT := hT.trans (pf_let_eq e16)
  obtain ⟨y18, e19⟩ : ∃ y, V2 90 33 = y := ⟨_, rfl⟩
  have b20 := hV6.get 90 33 (lo := 0) (hi := 600) (by decide) (by decide) rfl
  rw [e19] at b20
  replace hT := hT.trans (pf_let_eq e19)
  refine pm_iconst (v := (-1)) hC dX12_rules_4 ?_
  refine pm_icmp_eq (tgt := 10) hC ⟨by exact ow_94c_79 b5, by exact ow_94c_81 b5⟩ ⟨by decide, by decide⟩ dX12_rules_5 (by decide) (fun c21 => ?_) (fun c21 => ?_)
  · skip
    replace hT := hT.trans (if_pos c21)
    refine pm_aload_n hC 0 (by decide) dX12_rules_10 rfl ?_
    refine pm_aload_n hC 0 (by decide) dX12_rules_11 rfl ?_
    refine pm_getf (v := y15) hC 90 fl_X12_271 rfl rfl (by decide) rfl e16 dX12_rules_12 ?_
    refine pm_putf hC 90 fl_X12_296 rfl rfl rfl (by decide) rfl trivial dX12_rules_15 ?_
    refine pm_iconst (v := 0) hC dX12_rules_18 ?_
    refine pm_istore_n (lv' := [(1, (0, 0)), (0, (3, 90))]) hC dX12_rules_19 (by decide) rfl ?_
    have hV24 := (hV6.put 90 35 (x := y15) (lo := 0) (hi := 10) rfl ⟨by exact ow_94c_82 b17, by exact ow_94c_83 b17⟩)
    have hF25 := (hF13.upf 35 y15 rfl)
    obtain ⟨V22, hv23⟩ : ∃ V, V = (pm_up V2 90 35 y15) := ⟨_, rfl⟩
    rw [← hv23] at hV24 hF25
    rw [← hv23]
    replace hT := hT.trans (pf_let_eq hv23.symm)
    have e26 : V22 90 32 = y15 := by rw [hv23]; exact e16
    have e27 : V22 90 33 = y18 := by rw [hv23]; exact e19
    have e28 : V22 90 35 = y15 := by rw [hv23]; rfl
    have hp29 : pm_az V22 := by rw [hv23]; exact (pm_az.fr hg8 rfl rfl)
    have hp30 : pm_tk V22 := by rw [hv23]; exact (pm_tk.fr hg9 rfl rfl rfl)
    obtain ⟨B43, hB44, hT⟩ := pf_loop hT
    have L46 : ∀ (N48 : Nat) (x31 : Int) (V33 : pm_M), (0 ≤ x31 ∧ x31 ≤ 100000) → pm_oq pm_qP V33 → pm_fs [107, 108, 109] [1, 2, 3, 4, 5, 32, 33, 35, 37, 39] V0 V33 → V33 90 32 = y15 → V33 90 33 = y18 → V33 90 35 = y15 → pm_az V33 → pm_tk V33 → (∀ q : Nat, (q : Int) < x31 → V33 108 q = V2 107 q) → (V33 107 = V2 107) → F_X12_rules  V0 = pf_val ((0 : Int), V0) B43 (x31, V33) → (Int.toNat (100000 - x31)) = N48 → pm_J X 20 [(0, (3, 90)), (1, (0, x31))] [] 118 V33 := by
      intro N48
      induction N48 using Nat.strongRecOn with
      | _ N48 ih49 =>
      intro x31 V33 b32 hV34 hF35 e36 e37 e38 hp39 hp40 hx41 hx42 hT hm47
      have hb45 := congrFun hB44 (x31, V33)
      refine pm_iload_n hC 1 dX12_rules_20 rfl ?_
      refine pm_iconst (v := 2) hC dX12_rules_21 ?_
      refine pm_aload_n hC 0 (by decide) dX12_rules_22 rfl ?_
      refine pm_getf (v := y18) hC 90 fl_X12_238 rfl rfl (by decide) rfl e37 dX12_rules_23 ?_
      refine pm_imul hC dX12_rules_26 ?_
      refine pm_icmp_ge (tgt := 48) hC ⟨by exact ow_94c_84 b32, by exact ow_94c_85 b32⟩ ⟨by exact ow_94c_86 b20, by exact ow_94c_87 b20⟩ dX12_rules_27 (by decide) (fun c50 => ?_) (fun c50 => ?_)
      · skip
        replace hb45 := hb45.trans (if_pos c50)
        refine pm_aload_n hC 0 (by decide) dX12_rules_48 rfl ?_
        refine pm_iconst (v := 0) hC dX12_rules_49 ?_
        refine pm_putf hC 90 fl_X12_94 rfl rfl rfl (by decide) rfl trivial dX12_rules_50 ?_
        refine pm_aload_n hC 0 (by decide) dX12_rules_53 rfl ?_
        refine pm_getf (v := y15) hC 90 fl_X12_296 rfl rfl (by decide) rfl e38 dX12_rules_54 ?_
        replace hT := hT.trans (pf_val_inr hb45)
        exact pm_iret hC hR pm_nar0 ⟨y15, rfl, ⟨by exact ow_94c_88 b17, by exact ow_94c_83 b17⟩, (hV34.put 90 1 (x := 0) (lo := 0) (hi := 500) rfl ⟨by decide, by decide⟩), (hF35.upf 1 0 rfl), (pm_r1.mkW (W := V2) (hxp10 (by exact ow_94c_89 b5 c21)) (hxp11 (by exact ow_94c_89 b5 c21)) (by rw [e19]; exact ow_94c_90 b20) (fun q h => hx41 q (by rw [e19] at h; exact ow_94c_91 c50 h)) ((show (pm_up V33 90 1 0) 90 35 = y15 from e38).trans e16.symm)), ⟨y4, V2, hE12, Or.inl ⟨by exact ow_94c_89 b5 c21, by exact ow_94c_82 b17, (show (pm_up V33 90 1 0) 90 1 = 0 from rfl), (show y15 = V2 90 32 from e16.symm), (show (pm_up V33 90 1 0) 90 35 = y15 from e38).trans e16.symm, (fun q h => hx41 q (by rw [e19] at h; exact ow_94c_91 c50 h))⟩⟩, hT⟩ dX12_rules_57
      · skip
        replace hb45 := hb45.trans (if_neg (Int.not_le.mpr c50))
        refine pm_aload_n hC 0 (by decide) dX12_rules_30 rfl ?_
        have e51 : V33 90 36 = 108 := hV34.one 90 36 (by decide) (by decide) rfl
        refine pm_getf (v := 108) hC 90 fl_X12_64 rfl rfl (by decide) rfl e51 dX12_rules_31 ?_
        refine pm_iload_n hC 1 dX12_rules_34 rfl ?_
        refine pm_aload_n hC 0 (by decide) dX12_rules_35 rfl ?_
        have e52 : V33 90 34 = 107 := hV34.one 90 34 (by decide) (by decide) rfl
        refine pm_getf (v := 107) hC 90 fl_X12_61 rfl rfl (by decide) rfl e52 dX12_rules_36 ?_
        refine pm_iload_n hC 1 dX12_rules_39 rfl ?_
        obtain ⟨y53, e54⟩ : ∃ y, V33 107 (x31 : Int).toNat = y := ⟨_, rfl⟩
        replace hb45 := hb45.trans (pf_let_eq e54)
        have be56 := hV34 107 (by decide) (by decide) (x31 : Int).toNat (show _ < 1200 by exact ow_94c_92 b20 c50)
        rw [e54] at be56
        have b55 : 0 ≤ y53 ∧ y53 ≤ 9999 := pm_qhull be56 rfl rfl (by decide)
        refine pm_iaload (len := 1200) (v := y53) hC 107 rfl rfl (by decide) ⟨by exact ow_94c_93 b32, by exact ow_94c_94 b20 c50⟩ (by decide) e54 dX12_rules_40 ?_
        refine pm_iastore (len := 1200) hC 108 rfl rfl (by decide) ⟨by exact ow_94c_93 b32, by exact ow_94c_94 b20 c50⟩ (by decide) dX12_rules_41 ?_
        obtain ⟨x57, ei58⟩ : ∃ y : Int, x31 + 1 = y := ⟨_, rfl⟩
        replace hb45 := hb45.trans (pf_let_eq ei58)
        refine pm_iinc (y := x57) (lv' := [(1, (0, x57)), (0, (3, 90))]) hC 1 dX12_rules_42 (by decide) rfl ei58 rfl ?_
        refine pm_goto (tgt := 20) hC dX12_rules_45 (by decide) ?_
        refine pm_lvsub [1, 0] (lv' := [(0, (3, 90)), (1, (0, x57))]) rfl ?_
        exact ih49 _ (by exact ow_94c_95 b20 hm47 c50 ei58) x57 (pm_up V33 108 (x31 : Int).toNat y53) ⟨by exact ow_94c_96 b32 ei58, by exact ow_94c_97 b20 c50 ei58⟩ (hV34.putel 108 (x31 : Int).toNat (x := y53) (by rw [pm_qe_c (k := 108) (k' := 107) (i' := (x31 : Int).toNat) (m := 2) rfl rfl rfl (by exact ow_94c_98)]; exact be56)) (hF35.up 108 (x31 : Int).toNat y53 (by decide) rfl) e36 e37 e38 (pm_az.fr hp39 rfl rfl) (pm_tk.fr hp40 rfl rfl rfl) (fun q h => by (by_cases hq : q = (x31 : Int).toNat); (show pm_up V33 108 (x31 : Int).toNat y53 108 q = V2 107 q; rw [hq, pm_up_s, ← e54, hx42]); (show pm_up V33 108 (x31 : Int).toNat y53 108 q = V2 107 q; rw [pm_up_i hq]; exact hx41 q (by exact ow_94c_99 ei58 h hq))) hx42 (hT.trans (pf_val_inl hb45)) rfl
    refine pm_lvsub [1, 0] (lv' := [(0, (3, 90)), (1, (0, 0))]) rfl ?_
    exact L46 _ 0 V22 ⟨by decide, by decide⟩ hV24 hF25 e26 e27 e28 hp29 hp30 (fun q h => absurd h (by exact ow_94c_100 h)) (by rw [hv23]; rfl) hT rfl
  · skip
    replace hT := hT.trans (if_neg c21)
    refine pm_iconst (v := (-1)) hC dX12_rules_8 ?_
    exact pm_iret hC hR pm_nar0 ⟨(-1), rfl, ⟨by exact ow_94c_60, by exact ow_94c_101⟩, hV6, hF13, hp14, ⟨y4, V2, hE12, Or.inr ⟨by exact ow_94c_102 c21, rfl, rfl, hF7⟩⟩, hT⟩ dX12_rules_9
set_option maxHeartbeats 4000000 in
set_option maxRecDepth 100000 in
theorem fP_X12_scene  : pm_K 11 yX12_scene cX12_scene 2 (some .int) (fun av V => av = [(3, 90)] ∧ pm_oq pm_qP V) (fun _ V r V' => ∃ y, r = some (0, y) ∧ ((-1) ≤ y ∧ y ≤ 9) ∧ pm_oq pm_qP V' ∧ pm_fs [92, 93, 94, 95, 96, 97, 98, 99, 100, 102] [1, 2, 3, 4, 5, 6, 11, 12, 13, 15, 16, 19, 20, 21, 23, 25, 37] V V' ∧ (∃ z W, F_X12_sceneFault V = (z, W) ∧ ((z = -1 ∧ 0 ≤ y ∧ V' 90 1 = 0 ∧ y = W 90 6 ∧ V' 90 15 = 1 ∧ V' 90 16 = W 90 6 ∧ V' 90 21 = W 90 13 ∧ V' 90 23 = 1 ∧ V' 90 25 = 0 ∧ V' 90 19 = (if W 90 11 = -1 then 16 else W 90 11) ∧ V' 90 20 = (if W 90 11 = -1 then 99 else W 90 12) ∧ (∀ q : Nat, q < 27 → V' 97 q = W 93 q) ∧ (∀ q : Nat, q < 4 → V' 98 q = W 95 q) ∧ (∀ q : Nat, q < 36 → V' 99 q = W 96 q) ∧ (∀ q : Nat, q < 3 → V' 102 q = 0)) ∨ (z ≠ -1 ∧ y = -1 ∧ V' = W ∧ pm_fs [92, 93, 94, 95, 96] [2, 3, 4, 5, 6, 11, 12, 13, 37] V V'))) ∧ F_X12_scene  V = (y, V')) := by
  refine pm_MT.of (by decide) ⟨Nat.le_refl _, by decide⟩ (fun av V h => by rw [h.1]; exact (by decide : pm_words [(3, 0)] ≤ 2)) ?_
  rintro X av V0 hC - hR ⟨rfl, hV0⟩
  change pm_J X 0 [(0, (3, 90))] [] 118 V0
  have hT := F_X12_scene_eq  V0
  refine pm_aload_n hC 0 (by decide) dX12_scene_0 rfl ?_
  refine pm_callV (ci := 12) (as := []) (st := []) hC 90 fP_X12_sceneFault lm_X12_213 li_X12_sceneFault (by decide) (by decide) rfl rfl rfl (by decide) rfl rfl (Nat.le_of_ble_eq_true rfl) ⟨Nat.le_refl _, Or.inl rfl⟩ dX12_scene_1 ⟨rfl, hV0⟩ (fun r1 V2 hp3 => ?_)
  obtain ⟨y4, rfl, b5, hV6, hF7, hg8, hE9⟩ := hp3
  replace hT := hT.trans (pf_call_eq hE9)
  change pm_J X 4 [(0, (3, 90))] [(0, y4)] 118 V2
  have hF10 := pm_fs.tr (pm_fs.rf (cs := [92, 93, 94, 95, 96, 97, 98, 99, 100, 102]) (fs := [1, 2, 3, 4, 5, 6, 11, 12, 13, 15, 16, 19, 20, 21, 23, 25, 37]) (V := V0)) hF7 (by decide) (by decide)
  obtain ⟨y11, e12⟩ : ∃ y, V2 90 6 = y := ⟨_, rfl⟩
  have b13 := hV6.get 90 6 (lo := 0) (hi := 9) (by decide) (by decide) rfl
  rw [e12] at b13
  replace hT := hT.trans (pf_let_eq e12)
  obtain ⟨y14, e15⟩ : ∃ y, V2 90 13 = y := ⟨_, rfl⟩
  have b16 := hV6.get 90 13 (lo := 0) (hi := 12) (by decide) (by decide) rfl
  rw [e15] at b16
  replace hT := hT.trans (pf_let_eq e15)
  obtain ⟨y17, e18⟩ : ∃ y, V2 90 11 = y := ⟨_, rfl⟩
  have b19 := hV6.get 90 11 (lo := (-1)) (hi := 16) (by decide) (by decide) rfl
  rw [e18] at b19
  replace hT := hT.trans (pf_let_eq e18)
  obtain ⟨y20, e21⟩ : ∃ y, V2 90 12 = y := ⟨_, rfl⟩
  have b22 := hV6.get 90 12 (lo := 0) (hi := 99) (by decide) (by decide) rfl
  rw [e21] at b22
  replace hT := hT.trans (pf_let_eq e21)
  refine pm_iconst (v := (-1)) hC dX12_scene_4 ?_
  refine pm_icmp_eq (tgt := 10) hC ⟨by exact ow_94c_79 b5, by exact ow_94c_81 b5⟩ ⟨by decide, by decide⟩ dX12_scene_5 (by decide) (fun c23 => ?_) (fun c23 => ?_)
  · skip
    replace hT := hT.trans (if_pos c23)
    have hs95 := sf_span hV6 (y := y4) (by exact ow_94c_89 b5 c23) hE9
    refine pm_aload_n hC 0 (by decide) dX12_scene_10 rfl ?_
    refine pm_iconst (v := 1) hC dX12_scene_11 ?_
    refine pm_putf hC 90 fl_X12_216 rfl rfl rfl (by decide) rfl (by show _ = (0 : Int) ∨ _ = (1 : Int); exact ow_94c_68) dX12_scene_12 ?_
    refine pm_aload_n hC 0 (by decide) dX12_scene_15 rfl ?_
    refine pm_aload_n hC 0 (by decide) dX12_scene_16 rfl ?_
    refine pm_getf (v := y11) hC 90 fl_X12_169 rfl rfl (by decide) rfl e12 dX12_scene_17 ?_
    refine pm_putf hC 90 fl_X12_220 rfl rfl rfl (by decide) rfl trivial dX12_scene_20 ?_
    refine pm_aload_n hC 0 (by decide) dX12_scene_23 rfl ?_
    refine pm_aload_n hC 0 (by decide) dX12_scene_24 rfl ?_
    refine pm_getf (v := y14) hC 90 fl_X12_192 rfl rfl (by decide) rfl e15 dX12_scene_25 ?_
    refine pm_putf hC 90 fl_X12_223 rfl rfl rfl (by decide) rfl trivial dX12_scene_28 ?_
    refine pm_iconst (v := 0) hC dX12_scene_31 ?_
    refine pm_istore_n (lv' := [(1, (0, 0)), (0, (3, 90))]) hC dX12_scene_32 (by decide) rfl ?_
    have hV26 := (((hV6.put 90 15 (x := 1) (lo := 0) (hi := 1) rfl ⟨by decide, by decide⟩).put 90 16 (x := y11) (lo := 0) (hi := 9) rfl ⟨by exact ow_94c_103 b13, by exact ow_94c_104 b13⟩).put 90 21 (x := y14) (lo := 0) (hi := 12) rfl ⟨by exact ow_94c_105 b16, by exact ow_94c_106 b16⟩)
    have hF27 := (((hF10.upf 15 1 rfl).upf 16 y11 rfl).upf 21 y14 rfl)
    obtain ⟨V24, hv25⟩ : ∃ V, V = (pm_up (pm_up (pm_up V2 90 15 1) 90 16 y11) 90 21 y14) := ⟨_, rfl⟩
    rw [← hv25] at hV26 hF27
    rw [← hv25]
    replace hT := hT.trans (pf_let_eq hv25.symm)
    have e28 : V24 90 6 = y11 := by rw [hv25]; exact e12
    have e29 : V24 90 13 = y14 := by rw [hv25]; exact e15
    have e30 : V24 90 11 = y17 := by rw [hv25]; exact e18
    have e31 : V24 90 12 = y20 := by rw [hv25]; exact e21
    have e32 : V24 90 15 = 1 := by rw [hv25]; rfl
    have e33 : V24 90 16 = y11 := by rw [hv25]; rfl
    have e34 : V24 90 21 = y14 := by rw [hv25]; rfl
    have hp35 : pm_az V24 := by rw [hv25]; exact (pm_az.fr hg8 rfl rfl)
    obtain ⟨B53, hB54, hT⟩ := pf_loop hT
    have L56 : ∀ (N58 : Nat) (x36 : Int) (V38 : pm_M), (0 ≤ x36 ∧ x36 ≤ 60) → pm_oq pm_qP V38 → pm_fs [92, 93, 94, 95, 96, 97, 98, 99, 100, 102] [1, 2, 3, 4, 5, 6, 11, 12, 13, 15, 16, 19, 20, 21, 23, 25, 37] V0 V38 → V38 90 6 = y11 → V38 90 13 = y14 → V38 90 11 = y17 → V38 90 12 = y20 → V38 90 15 = 1 → V38 90 16 = y11 → V38 90 21 = y14 → pm_az V38 → (∀ q : Nat, (q : Int) < x36 → V38 97 q = V2 93 q) → (V38 93 = V2 93) → (V38 95 = V2 95) → (V38 96 = V2 96) → F_X12_scene  V0 = pf_val ((0 : Int), V0) B53 (x36, V38) → (Int.toNat (60 - x36)) = N58 → pm_J X 33 [(0, (3, 90)), (1, (0, x36))] [] 118 V38 := by
      intro N58
      induction N58 using Nat.strongRecOn with
      | _ N58 ih59 =>
      intro x36 V38 b37 hV39 hF40 e41 e42 e43 e44 e45 e46 e47 hp48 hx49 hx50 hx51 hx52 hT hm57
      have hb55 := congrFun hB54 (x36, V38)
      refine pm_iload_n hC 1 dX12_scene_33 rfl ?_
      refine pm_bipush (v := 27) hC dX12_scene_34 (by decide) ?_
      refine pm_icmp_ge (tgt := 57) hC ⟨by exact ow_94c_107 b37, by exact ow_94c_108 b37⟩ ⟨by decide, by decide⟩ dX12_scene_36 (by decide) (fun c60 => ?_) (fun c60 => ?_)
      · skip
        replace hb55 := hb55.trans (if_pos c60)
        refine pm_iconst (v := 0) hC dX12_scene_57 ?_
        refine pm_istore_n (lv' := [(1, (0, 0)), (0, (3, 90))]) hC dX12_scene_58 (by decide) rfl ?_
        obtain ⟨B78, hB79, hb55⟩ := pf_loop hb55
        have L81 : ∀ (N83 : Nat) (x61 : Int) (V63 : pm_M), (0 ≤ x61 ∧ x61 ≤ 8) → pm_oq pm_qP V63 → pm_fs [92, 93, 94, 95, 96, 97, 98, 99, 100, 102] [1, 2, 3, 4, 5, 6, 11, 12, 13, 15, 16, 19, 20, 21, 23, 25, 37] V0 V63 → V63 90 6 = y11 → V63 90 13 = y14 → V63 90 11 = y17 → V63 90 12 = y20 → V63 90 15 = 1 → V63 90 16 = y11 → V63 90 21 = y14 → pm_az V63 → (∀ q : Nat, (q : Int) < x61 → V63 98 q = V2 95 q) → (∀ q : Nat, (q : Int) < 27 → V63 97 q = V2 93 q) → (V63 95 = V2 95) → (V63 96 = V2 96) → B53 (x36, V38) = pf_val (.inr ((0 : Int), V0)) B78 (x61, V63) → (Int.toNat (8 - x61)) = N83 → pm_J X 59 [(0, (3, 90)), (1, (0, x61))] [] 118 V63 := by
          intro N83
          induction N83 using Nat.strongRecOn with
          | _ N83 ih84 =>
          intro x61 V63 b62 hV64 hF65 e66 e67 e68 e69 e70 e71 e72 hp73 hx74 hx75 hx76 hx77 hb55 hm82
          have hb80 := congrFun hB79 (x61, V63)
          refine pm_iload_n hC 1 dX12_scene_59 rfl ?_
          refine pm_iconst (v := 4) hC dX12_scene_60 ?_
          refine pm_icmp_ge (tgt := 82) hC ⟨by exact ow_94c_109 b62, by exact ow_94c_110 b62⟩ ⟨by decide, by decide⟩ dX12_scene_61 (by decide) (fun c85 => ?_) (fun c85 => ?_)
          · skip
            replace hb80 := hb80.trans (if_pos c85)
            refine pm_iconst (v := 0) hC dX12_scene_82 ?_
            refine pm_istore_n (lv' := [(1, (0, 0)), (0, (3, 90))]) hC dX12_scene_83 (by decide) rfl ?_
            obtain ⟨B103, hB104, hb80⟩ := pf_loop hb80
            have L106 : ∀ (N108 : Nat) (x86 : Int) (V88 : pm_M), (0 ≤ x86 ∧ x86 ≤ 60) → pm_oq pm_qP V88 → pm_fs [92, 93, 94, 95, 96, 97, 98, 99, 100, 102] [1, 2, 3, 4, 5, 6, 11, 12, 13, 15, 16, 19, 20, 21, 23, 25, 37] V0 V88 → V88 90 6 = y11 → V88 90 13 = y14 → V88 90 11 = y17 → V88 90 12 = y20 → V88 90 15 = 1 → V88 90 16 = y11 → V88 90 21 = y14 → pm_az V88 → (∀ q : Nat, (q : Int) < x86 → V88 99 q = V2 96 q) → (∀ q : Nat, (q : Int) < 27 → V88 97 q = V2 93 q) → (∀ q : Nat, (q : Int) < 4 → V88 98 q = V2 95 q) → (V88 96 = V2 96) → B78 (x61, V63) = pf_val (.inr (.inr ((0 : Int), V0))) B103 (x86, V88) → (Int.toNat (60 - x86)) = N108 → pm_J X 84 [(0, (3, 90)), (1, (0, x86))] [] 118 V88 := by
              intro N108
              induction N108 using Nat.strongRecOn with
              | _ N108 ih109 =>
              intro x86 V88 b87 hV89 hF90 e91 e92 e93 e94 e95 e96 e97 hp98 hx99 hx100 hx101 hx102 hb80 hm107
              have hb105 := congrFun hB104 (x86, V88)
              refine pm_iload_n hC 1 dX12_scene_84 rfl ?_
              refine pm_bipush (v := 36) hC dX12_scene_85 (by decide) ?_
              refine pm_icmp_ge (tgt := 108) hC ⟨by exact ow_94c_107 b87, by exact ow_94c_108 b87⟩ ⟨by decide, by decide⟩ dX12_scene_87 (by decide) (fun c110 => ?_) (fun c110 => ?_)
              · skip
                replace hb105 := hb105.trans (if_pos c110)
                refine pm_aload_n hC 0 (by decide) dX12_scene_108 rfl ?_
                refine pm_aload_n hC 0 (by decide) dX12_scene_109 rfl ?_
                refine pm_getf (v := y17) hC 90 fl_X12_186 rfl rfl (by decide) rfl e93 dX12_scene_110 ?_
                refine pm_iconst (v := (-1)) hC dX12_scene_113 ?_
                refine pm_icmp_ne (tgt := 122) hC ⟨by exact ow_94c_111 b19, by exact ow_94c_112 b19⟩ ⟨by decide, by decide⟩ dX12_scene_114 (by decide) (fun c111 => ?_) (fun c111 => ?_)
                · skip
                  replace hb105 := hb105.trans (if_pos c111)
                  refine pm_aload_n hC 0 (by decide) dX12_scene_122 rfl ?_
                  refine pm_getf (v := y17) hC 90 fl_X12_186 rfl rfl (by decide) rfl e93 dX12_scene_123 ?_
                  refine pm_putf hC 90 fl_X12_226 rfl rfl rfl (by decide) rfl trivial dX12_scene_126 ?_
                  refine pm_aload_n hC 0 (by decide) dX12_scene_129 rfl ?_
                  refine pm_aload_n hC 0 (by decide) dX12_scene_130 rfl ?_
                  refine pm_getf (v := y17) hC 90 fl_X12_186 rfl rfl (by decide) rfl e93 dX12_scene_131 ?_
                  refine pm_iconst (v := (-1)) hC dX12_scene_134 ?_
                  refine pm_icmp_ne (tgt := 143) hC ⟨by exact ow_94c_111 b19, by exact ow_94c_112 b19⟩ ⟨by decide, by decide⟩ dX12_scene_135 (by decide) (fun c112 => ?_) (fun c112 => ?_)
                  · skip
                    replace hb105 := hb105.trans (if_pos c112)
                    refine pm_aload_n hC 0 (by decide) dX12_scene_143 rfl ?_
                    refine pm_getf (v := y20) hC 90 fl_X12_189 rfl rfl (by decide) rfl e94 dX12_scene_144 ?_
                    refine pm_putf hC 90 fl_X12_229 rfl rfl rfl (by decide) rfl trivial dX12_scene_147 ?_
                    refine pm_aload_n hC 0 (by decide) dX12_scene_150 rfl ?_
                    refine pm_iconst (v := 1) hC dX12_scene_151 ?_
                    refine pm_putf hC 90 fl_X12_232 rfl rfl rfl (by decide) rfl trivial dX12_scene_152 ?_
                    refine pm_aload_n hC 0 (by decide) dX12_scene_155 rfl ?_
                    have e113 : V88 90 24 = 100 := hV89.one 90 24 (by decide) (by decide) rfl
                    refine pm_getf (v := 100) hC 90 fl_X12_40 rfl rfl (by decide) rfl e113 dX12_scene_156 ?_
                    refine pm_iconst (v := 0) hC dX12_scene_159 ?_
                    refine pm_iconst (v := 0) hC dX12_scene_160 ?_
                    refine pm_iastore (len := 40) hC 100 rfl rfl (by decide) ⟨by decide, by decide⟩ (by decide) dX12_scene_161 ?_
                    refine pm_aload_n hC 0 (by decide) dX12_scene_162 rfl ?_
                    refine pm_getf (v := 100) hC 90 fl_X12_40 rfl rfl (by decide) rfl e113 dX12_scene_163 ?_
                    refine pm_iconst (v := 1) hC dX12_scene_166 ?_
                    refine pm_iconst (v := 0) hC dX12_scene_167 ?_
                    refine pm_iastore (len := 40) hC 100 rfl rfl (by decide) ⟨by decide, by decide⟩ (by decide) dX12_scene_168 ?_
                    refine pm_aload_n hC 0 (by decide) dX12_scene_169 rfl ?_
                    refine pm_getf (v := 100) hC 90 fl_X12_40 rfl rfl (by decide) rfl e113 dX12_scene_170 ?_
                    refine pm_iconst (v := 2) hC dX12_scene_173 ?_
                    refine pm_aload_n hC 0 (by decide) dX12_scene_174 rfl ?_
                    refine pm_getf (v := y17) hC 90 fl_X12_226 rfl rfl (by decide) rfl rfl dX12_scene_175 ?_
                    refine pm_iastore (len := 40) hC 100 rfl rfl (by decide) ⟨by decide, by decide⟩ (by decide) dX12_scene_178 ?_
                    refine pm_aload_n hC 0 (by decide) dX12_scene_179 rfl ?_
                    refine pm_getf (v := 100) hC 90 fl_X12_40 rfl rfl (by decide) rfl e113 dX12_scene_180 ?_
                    refine pm_iconst (v := 3) hC dX12_scene_183 ?_
                    refine pm_iconst (v := 0) hC dX12_scene_184 ?_
                    refine pm_iastore (len := 40) hC 100 rfl rfl (by decide) ⟨by decide, by decide⟩ (by decide) dX12_scene_185 ?_
                    refine pm_aload_n hC 0 (by decide) dX12_scene_186 rfl ?_
                    refine pm_iconst (v := 0) hC dX12_scene_187 ?_
                    refine pm_putf hC 90 fl_X12_235 rfl rfl rfl (by decide) rfl trivial dX12_scene_188 ?_
                    refine pm_iconst (v := 0) hC dX12_scene_191 ?_
                    refine pm_istore_n (lv' := [(1, (0, 0)), (0, (3, 90))]) hC dX12_scene_192 (by decide) rfl ?_
                    have hV116 := ((((((((hV89.put 90 19 (x := y17) (lo := 0) (hi := 16) rfl ⟨by exact ow_94c_113 b19 c111, by exact ow_94c_114 b19⟩).put 90 20 (x := y20) (lo := 0) (hi := 99) rfl ⟨by exact ow_94c_115 b22, by exact ow_94c_116 b22⟩).put 90 23 (x := 1) (lo := 0) (hi := 10) rfl ⟨by decide, by decide⟩).put 100 (0 : Int).toNat (x := 0) (lo := (-30)) (hi := 30) ((pm_qe_r (tb := pm_qP) (k := 100) (i := (0 : Int).toNat) (m := 4) (r := 0) (l := [(-30, 30, 0), (-30, 30, 0), (0, 16, 0), (0, 3, 0)]) rfl rfl (by exact ow_94c_117)).trans rfl) ⟨by decide, by decide⟩).put 100 (1 : Int).toNat (x := 0) (lo := (-30)) (hi := 30) ((pm_qe_r (tb := pm_qP) (k := 100) (i := (1 : Int).toNat) (m := 4) (r := 1) (l := [(-30, 30, 0), (-30, 30, 0), (0, 16, 0), (0, 3, 0)]) rfl rfl (by omega)).trans rfl) ⟨by decide, by decide⟩).put 100 (2 : Int).toNat (x := y17) (lo := 0) (hi := 16) ((pm_qe_r (tb := pm_qP) (k := 100) (i := (2 : Int).toNat) (m := 4) (r := 2) (l := [(-30, 30, 0), (-30, 30, 0), (0, 16, 0), (0, 3, 0)]) rfl rfl (by omega)).trans rfl) ⟨by exact ow_94c_113 b19 c111, by exact ow_94c_114 b19⟩).put 100 (3 : Int).toNat (x := 0) (lo := 0) (hi := 3) ((pm_qe_r (tb := pm_qP) (k := 100) (i := (3 : Int).toNat) (m := 4) (r := 3) (l := [(-30, 30, 0), (-30, 30, 0), (0, 16, 0), (0, 3, 0)]) rfl rfl (by omega)).trans rfl) ⟨by decide, by decide⟩).put 90 25 (x := 0) (lo := 0) (hi := 60) rfl ⟨by decide, by decide⟩)
                    have hF117 := ((((((((hF90.upf 19 y17 rfl).upf 20 y20 rfl).upf 23 1 rfl).up 100 (0 : Int).toNat 0 (by decide) rfl).up 100 (1 : Int).toNat 0 (by decide) rfl).up 100 (2 : Int).toNat y17 (by decide) rfl).up 100 (3 : Int).toNat 0 (by decide) rfl).upf 25 0 rfl)
                    obtain ⟨V114, hv115⟩ : ∃ V, V = (pm_up (pm_up (pm_up (pm_up (pm_up (pm_up (pm_up (pm_up V88 90 19 y17) 90 20 y20) 90 23 1) 100 (0 : Int).toNat 0) 100 (1 : Int).toNat 0) 100 (2 : Int).toNat y17) 100 (3 : Int).toNat 0) 90 25 0) := ⟨_, rfl⟩
                    rw [← hv115] at hV116 hF117
                    rw [← hv115]
                    replace hb105 := hb105.trans (pf_let_eq hv115.symm)
                    have e118 : V114 90 6 = y11 := by rw [hv115]; exact e91
                    have e119 : V114 90 13 = y14 := by rw [hv115]; exact e92
                    have e120 : V114 90 11 = y17 := by rw [hv115]; exact e93
                    have e121 : V114 90 12 = y20 := by rw [hv115]; exact e94
                    have e122 : V114 90 15 = 1 := by rw [hv115]; exact e95
                    have e123 : V114 90 16 = y11 := by rw [hv115]; exact e96
                    have e124 : V114 90 21 = y14 := by rw [hv115]; exact e97
                    have e125 : V114 90 24 = 100 := by rw [hv115]; exact e113
                    have e126 : V114 90 19 = y17 := by rw [hv115]; rfl
                    have e127 : V114 90 20 = y20 := by rw [hv115]; rfl
                    have e128 : V114 90 23 = 1 := by rw [hv115]; rfl
                    have e129 : V114 90 25 = 0 := by rw [hv115]; rfl
                    have hp130 : pm_az V114 := by rw [hv115]; exact (pm_az.fr hp98 rfl rfl)
                    obtain ⟨B153, hB154, hb105⟩ := pf_loop hb105
                    have L156 : ∀ (N158 : Nat) (x131 : Int) (V133 : pm_M), (0 ≤ x131 ∧ x131 ≤ 3) → pm_oq pm_qP V133 → pm_fs [92, 93, 94, 95, 96, 97, 98, 99, 100, 102] [1, 2, 3, 4, 5, 6, 11, 12, 13, 15, 16, 19, 20, 21, 23, 25, 37] V0 V133 → V133 90 6 = y11 → V133 90 13 = y14 → V133 90 11 = y17 → V133 90 12 = y20 → V133 90 15 = 1 → V133 90 16 = y11 → V133 90 21 = y14 → V133 90 24 = 100 → V133 90 19 = y17 → V133 90 20 = y20 → V133 90 23 = 1 → V133 90 25 = 0 → pm_az V133 → (∀ q : Nat, (q : Int) < x131 → V133 102 q = 0) → (∀ q : Nat, (q : Int) < 27 → V133 97 q = V2 93 q) → (∀ q : Nat, (q : Int) < 4 → V133 98 q = V2 95 q) → (∀ q : Nat, (q : Int) < 36 → V133 99 q = V2 96 q) → B103 (x86, V88) = pf_val (.inr (.inr (.inr ((0 : Int), V0)))) B153 (x131, V133) → (Int.toNat (3 - x131)) = N158 → pm_J X 193 [(0, (3, 90)), (1, (0, x131))] [] 118 V133 := by
                      intro N158
                      induction N158 using Nat.strongRecOn with
                      | _ N158 ih159 =>
                      intro x131 V133 b132 hV134 hF135 e136 e137 e138 e139 e140 e141 e142 e143 e144 e145 e146 e147 hp148 hx149 hx150 hx151 hx152 hb105 hm157
                      have hb155 := congrFun hB154 (x131, V133)
                      refine pm_iload_n hC 1 dX12_scene_193 rfl ?_
                      refine pm_iconst (v := 3) hC dX12_scene_194 ?_
                      refine pm_icmp_ge (tgt := 211) hC ⟨by exact ow_94c_118 b132, by exact ow_94c_119 b132⟩ ⟨by decide, by decide⟩ dX12_scene_195 (by decide) (fun c160 => ?_) (fun c160 => ?_)
                      · skip
                        replace hb155 := hb155.trans (if_pos c160)
                        refine pm_aload_n hC 0 (by decide) dX12_scene_211 rfl ?_
                        refine pm_iconst (v := 0) hC dX12_scene_212 ?_
                        refine pm_putf hC 90 fl_X12_94 rfl rfl rfl (by decide) rfl trivial dX12_scene_213 ?_
                        refine pm_aload_n hC 0 (by decide) dX12_scene_216 rfl ?_
                        refine pm_getf (v := y11) hC 90 fl_X12_220 rfl rfl (by decide) rfl e141 dX12_scene_217 ?_
                        replace hb105 := hb105.trans (pf_val_inr hb155)
                        replace hb80 := hb80.trans (pf_val_inr hb105)
                        replace hb55 := hb55.trans (pf_val_inr hb80)
                        replace hT := hT.trans (pf_val_inr hb55)
                        exact pm_iret hC hR pm_nar0 ⟨y11, rfl, ⟨by exact ow_94c_120 b13, by exact ow_94c_104 b13⟩, (hV134.put 90 1 (x := 0) (lo := 0) (hi := 500) rfl ⟨by decide, by decide⟩), (hF135.upf 1 0 rfl), ⟨y4, V2, hE9, Or.inl ⟨by exact ow_94c_89 b5 c23, by exact ow_94c_103 b13, (show (pm_up V133 90 1 0) 90 1 = 0 from rfl), (show y11 = V2 90 6 from e12.symm), (show (pm_up V133 90 1 0) 90 15 = 1 from e140), (show (pm_up V133 90 1 0) 90 16 = y11 from e141).trans e12.symm, (show (pm_up V133 90 1 0) 90 21 = y14 from e142).trans e15.symm, (show (pm_up V133 90 1 0) 90 23 = 1 from e146), (show (pm_up V133 90 1 0) 90 25 = 0 from e147), (by rw [(show (pm_up V133 90 1 0) 90 19 = y17 from e144), if_neg (fun q => by rw [e18] at q; exact ow_94c_121 b19 c111 q), e18]), (by rw [(show (pm_up V133 90 1 0) 90 20 = y20 from e145), if_neg (fun q => by rw [e18] at q; exact ow_94c_121 b19 c111 q), e21]), (fun q h => hx150 q (by exact ow_94c_122 h)), (fun q h => hx151 q (by exact ow_94c_123 h)), (fun q h => hx152 q (by exact ow_94c_124 h)), (fun q h => hx149 q (by exact ow_94c_125 c160 h))⟩⟩, hT⟩ dX12_scene_220
                      · skip
                        replace hb155 := hb155.trans (if_neg (Int.not_le.mpr c160))
                        refine pm_aload_n hC 0 (by decide) dX12_scene_198 rfl ?_
                        have e161 : V133 90 27 = 102 := hV134.one 90 27 (by decide) (by decide) rfl
                        refine pm_getf (v := 102) hC 90 fl_X12_46 rfl rfl (by decide) rfl e161 dX12_scene_199 ?_
                        refine pm_iload_n hC 1 dX12_scene_202 rfl ?_
                        refine pm_iconst (v := 0) hC dX12_scene_203 ?_
                        refine pm_zastore (len := 3) hC 102 rfl rfl (by decide) ⟨by exact ow_94c_126 b132, by exact ow_94c_127 c160⟩ (by decide) (by exact ow_94c_64) dX12_scene_204 ?_
                        obtain ⟨x162, ei163⟩ : ∃ y : Int, x131 + 1 = y := ⟨_, rfl⟩
                        replace hb155 := hb155.trans (pf_let_eq ei163)
                        refine pm_iinc (y := x162) (lv' := [(1, (0, x162)), (0, (3, 90))]) hC 1 dX12_scene_205 (by decide) rfl ei163 rfl ?_
                        refine pm_goto (tgt := 193) hC dX12_scene_208 (by decide) ?_
                        refine pm_lvsub [1, 0] (lv' := [(0, (3, 90)), (1, (0, x162))]) rfl ?_
                        exact ih159 _ (by exact ow_94c_128 hm157 c160 ei163) x162 (pm_up V133 102 (x131 : Int).toNat 0) ⟨by exact ow_94c_129 b132 ei163, by exact ow_94c_130 c160 ei163⟩ (hV134.put 102 (x131 : Int).toNat (x := 0) (lo := 0) (hi := 1) rfl ⟨by decide, by decide⟩) (hF135.up 102 (x131 : Int).toNat 0 (by decide) rfl) e136 e137 e138 e139 e140 e141 e142 e143 e144 e145 e146 e147 (pm_az.fr hp148 rfl rfl) (fun q h => by (by_cases hq : q = (x131 : Int).toNat); (show pm_up V133 102 (x131 : Int).toNat 0 102 q = 0; rw [hq, pm_up_s]); (show pm_up V133 102 (x131 : Int).toNat 0 102 q = 0; rw [pm_up_i hq]; exact hx149 q (by exact ow_94c_99 ei163 h hq))) hx150 hx151 hx152 (hb105.trans (pf_val_inl hb155)) rfl
                    refine pm_lvsub [1, 0] (lv' := [(0, (3, 90)), (1, (0, 0))]) rfl ?_
                    exact L156 _ 0 V114 ⟨by decide, by decide⟩ hV116 hF117 e118 e119 e120 e121 e122 e123 e124 e125 e126 e127 e128 e129 hp130 (fun q h => absurd h (by exact ow_94c_100 h)) (fun q h => by rw [hv115]; exact hx100 q (by exact ow_94c_131 h)) (fun q h => by rw [hv115]; exact hx101 q (by exact ow_94c_132 h)) (fun q h => by rw [hv115]; exact hx99 q (by exact ow_94c_133 c110 h)) hb105 rfl
                  · skip
                    replace hb105 := hb105.trans (if_neg (fun q => q c112))
                    exfalso; exact ow_94c_121 b19 c111 c112
                · skip
                  replace hb105 := hb105.trans (if_neg (fun q => q c111))
                  refine pm_bipush (v := 16) hC dX12_scene_117 (by decide) ?_
                  refine pm_goto (tgt := 126) hC dX12_scene_119 (by decide) ?_
                  refine pm_putf hC 90 fl_X12_226 rfl rfl rfl (by decide) rfl trivial dX12_scene_126 ?_
                  refine pm_aload_n hC 0 (by decide) dX12_scene_129 rfl ?_
                  refine pm_aload_n hC 0 (by decide) dX12_scene_130 rfl ?_
                  refine pm_getf (v := y17) hC 90 fl_X12_186 rfl rfl (by decide) rfl e93 dX12_scene_131 ?_
                  refine pm_iconst (v := (-1)) hC dX12_scene_134 ?_
                  refine pm_icmp_ne (tgt := 143) hC ⟨by exact ow_94c_111 b19, by exact ow_94c_134 c111⟩ ⟨by decide, by decide⟩ dX12_scene_135 (by decide) (fun c164 => ?_) (fun c164 => ?_)
                  · skip
                    replace hb105 := hb105.trans (if_pos c164)
                    exfalso; exact ow_94c_135 b19 c111 c164
                  · skip
                    replace hb105 := hb105.trans (if_neg (fun q => q c164))
                    refine pm_bipush (v := 99) hC dX12_scene_138 (by decide) ?_
                    refine pm_goto (tgt := 147) hC dX12_scene_140 (by decide) ?_
                    refine pm_putf hC 90 fl_X12_229 rfl rfl rfl (by decide) rfl trivial dX12_scene_147 ?_
                    refine pm_aload_n hC 0 (by decide) dX12_scene_150 rfl ?_
                    refine pm_iconst (v := 1) hC dX12_scene_151 ?_
                    refine pm_putf hC 90 fl_X12_232 rfl rfl rfl (by decide) rfl trivial dX12_scene_152 ?_
                    refine pm_aload_n hC 0 (by decide) dX12_scene_155 rfl ?_
                    have e165 : V88 90 24 = 100 := hV89.one 90 24 (by decide) (by decide) rfl
                    refine pm_getf (v := 100) hC 90 fl_X12_40 rfl rfl (by decide) rfl e165 dX12_scene_156 ?_
                    refine pm_iconst (v := 0) hC dX12_scene_159 ?_
                    refine pm_iconst (v := 0) hC dX12_scene_160 ?_
                    refine pm_iastore (len := 40) hC 100 rfl rfl (by decide) ⟨by decide, by decide⟩ (by decide) dX12_scene_161 ?_
                    refine pm_aload_n hC 0 (by decide) dX12_scene_162 rfl ?_
                    refine pm_getf (v := 100) hC 90 fl_X12_40 rfl rfl (by decide) rfl e165 dX12_scene_163 ?_
                    refine pm_iconst (v := 1) hC dX12_scene_166 ?_
                    refine pm_iconst (v := 0) hC dX12_scene_167 ?_
                    refine pm_iastore (len := 40) hC 100 rfl rfl (by decide) ⟨by decide, by decide⟩ (by decide) dX12_scene_168 ?_
                    refine pm_aload_n hC 0 (by decide) dX12_scene_169 rfl ?_
                    refine pm_getf (v := 100) hC 90 fl_X12_40 rfl rfl (by decide) rfl e165 dX12_scene_170 ?_
                    refine pm_iconst (v := 2) hC dX12_scene_173 ?_
                    refine pm_aload_n hC 0 (by decide) dX12_scene_174 rfl ?_
                    refine pm_getf (v := 16) hC 90 fl_X12_226 rfl rfl (by decide) rfl rfl dX12_scene_175 ?_
                    refine pm_iastore (len := 40) hC 100 rfl rfl (by decide) ⟨by decide, by decide⟩ (by decide) dX12_scene_178 ?_
                    refine pm_aload_n hC 0 (by decide) dX12_scene_179 rfl ?_
                    refine pm_getf (v := 100) hC 90 fl_X12_40 rfl rfl (by decide) rfl e165 dX12_scene_180 ?_
                    refine pm_iconst (v := 3) hC dX12_scene_183 ?_
                    refine pm_iconst (v := 0) hC dX12_scene_184 ?_
                    refine pm_iastore (len := 40) hC 100 rfl rfl (by decide) ⟨by decide, by decide⟩ (by decide) dX12_scene_185 ?_
                    refine pm_aload_n hC 0 (by decide) dX12_scene_186 rfl ?_
                    refine pm_iconst (v := 0) hC dX12_scene_187 ?_
                    refine pm_putf hC 90 fl_X12_235 rfl rfl rfl (by decide) rfl trivial dX12_scene_188 ?_
                    refine pm_iconst (v := 0) hC dX12_scene_191 ?_
                    refine pm_istore_n (lv' := [(1, (0, 0)), (0, (3, 90))]) hC dX12_scene_192 (by decide) rfl ?_
                    have hV168 := ((((((((hV89.put 90 19 (x := 16) (lo := 0) (hi := 16) rfl ⟨by decide, by decide⟩).put 90 20 (x := 99) (lo := 0) (hi := 99) rfl ⟨by decide, by decide⟩).put 90 23 (x := 1) (lo := 0) (hi := 10) rfl ⟨by decide, by decide⟩).put 100 (0 : Int).toNat (x := 0) (lo := (-30)) (hi := 30) ((pm_qe_r (tb := pm_qP) (k := 100) (i := (0 : Int).toNat) (m := 4) (r := 0) (l := [(-30, 30, 0), (-30, 30, 0), (0, 16, 0), (0, 3, 0)]) rfl rfl (by exact ow_94c_117)).trans rfl) ⟨by decide, by decide⟩).put 100 (1 : Int).toNat (x := 0) (lo := (-30)) (hi := 30) ((pm_qe_r (tb := pm_qP) (k := 100) (i := (1 : Int).toNat) (m := 4) (r := 1) (l := [(-30, 30, 0), (-30, 30, 0), (0, 16, 0), (0, 3, 0)]) rfl rfl (by omega)).trans rfl) ⟨by decide, by decide⟩).put 100 (2 : Int).toNat (x := 16) (lo := 0) (hi := 16) ((pm_qe_r (tb := pm_qP) (k := 100) (i := (2 : Int).toNat) (m := 4) (r := 2) (l := [(-30, 30, 0), (-30, 30, 0), (0, 16, 0), (0, 3, 0)]) rfl rfl (by omega)).trans rfl) ⟨by decide, by decide⟩).put 100 (3 : Int).toNat (x := 0) (lo := 0) (hi := 3) ((pm_qe_r (tb := pm_qP) (k := 100) (i := (3 : Int).toNat) (m := 4) (r := 3) (l := [(-30, 30, 0), (-30, 30, 0), (0, 16, 0), (0, 3, 0)]) rfl rfl (by omega)).trans rfl) ⟨by decide, by decide⟩).put 90 25 (x := 0) (lo := 0) (hi := 60) rfl ⟨by decide, by decide⟩)
                    have hF169 := ((((((((hF90.upf 19 16 rfl).upf 20 99 rfl).upf 23 1 rfl).up 100 (0 : Int).toNat 0 (by decide) rfl).up 100 (1 : Int).toNat 0 (by decide) rfl).up 100 (2 : Int).toNat 16 (by decide) rfl).up 100 (3 : Int).toNat 0 (by decide) rfl).upf 25 0 rfl)
                    obtain ⟨V166, hv167⟩ : ∃ V, V = (pm_up (pm_up (pm_up (pm_up (pm_up (pm_up (pm_up (pm_up V88 90 19 16) 90 20 99) 90 23 1) 100 (0 : Int).toNat 0) 100 (1 : Int).toNat 0) 100 (2 : Int).toNat 16) 100 (3 : Int).toNat 0) 90 25 0) := ⟨_, rfl⟩
                    rw [← hv167] at hV168 hF169
                    rw [← hv167]
                    replace hb105 := hb105.trans (pf_let_eq hv167.symm)
                    have e170 : V166 90 6 = y11 := by rw [hv167]; exact e91
                    have e171 : V166 90 13 = y14 := by rw [hv167]; exact e92
                    have e172 : V166 90 11 = y17 := by rw [hv167]; exact e93
                    have e173 : V166 90 12 = y20 := by rw [hv167]; exact e94
                    have e174 : V166 90 15 = 1 := by rw [hv167]; exact e95
                    have e175 : V166 90 16 = y11 := by rw [hv167]; exact e96
                    have e176 : V166 90 21 = y14 := by rw [hv167]; exact e97
                    have e177 : V166 90 24 = 100 := by rw [hv167]; exact e165
                    have e178 : V166 90 19 = 16 := by rw [hv167]; rfl
                    have e179 : V166 90 20 = 99 := by rw [hv167]; rfl
                    have e180 : V166 90 23 = 1 := by rw [hv167]; rfl
                    have e181 : V166 90 25 = 0 := by rw [hv167]; rfl
                    have hp182 : pm_az V166 := by rw [hv167]; exact (pm_az.fr hp98 rfl rfl)
                    obtain ⟨B205, hB206, hb105⟩ := pf_loop hb105
                    have L208 : ∀ (N210 : Nat) (x183 : Int) (V185 : pm_M), (0 ≤ x183 ∧ x183 ≤ 3) → pm_oq pm_qP V185 → pm_fs [92, 93, 94, 95, 96, 97, 98, 99, 100, 102] [1, 2, 3, 4, 5, 6, 11, 12, 13, 15, 16, 19, 20, 21, 23, 25, 37] V0 V185 → V185 90 6 = y11 → V185 90 13 = y14 → V185 90 11 = y17 → V185 90 12 = y20 → V185 90 15 = 1 → V185 90 16 = y11 → V185 90 21 = y14 → V185 90 24 = 100 → V185 90 19 = 16 → V185 90 20 = 99 → V185 90 23 = 1 → V185 90 25 = 0 → pm_az V185 → (∀ q : Nat, (q : Int) < x183 → V185 102 q = 0) → (∀ q : Nat, (q : Int) < 27 → V185 97 q = V2 93 q) → (∀ q : Nat, (q : Int) < 4 → V185 98 q = V2 95 q) → (∀ q : Nat, (q : Int) < 36 → V185 99 q = V2 96 q) → B103 (x86, V88) = pf_val (.inr (.inr (.inr ((0 : Int), V0)))) B205 (x183, V185) → (Int.toNat (3 - x183)) = N210 → pm_J X 193 [(0, (3, 90)), (1, (0, x183))] [] 118 V185 := by
                      intro N210
                      induction N210 using Nat.strongRecOn with
                      | _ N210 ih211 =>
                      intro x183 V185 b184 hV186 hF187 e188 e189 e190 e191 e192 e193 e194 e195 e196 e197 e198 e199 hp200 hx201 hx202 hx203 hx204 hb105 hm209
                      have hb207 := congrFun hB206 (x183, V185)
                      refine pm_iload_n hC 1 dX12_scene_193 rfl ?_
                      refine pm_iconst (v := 3) hC dX12_scene_194 ?_
                      refine pm_icmp_ge (tgt := 211) hC ⟨by exact ow_94c_118 b184, by exact ow_94c_119 b184⟩ ⟨by decide, by decide⟩ dX12_scene_195 (by decide) (fun c212 => ?_) (fun c212 => ?_)
                      · skip
                        replace hb207 := hb207.trans (if_pos c212)
                        refine pm_aload_n hC 0 (by decide) dX12_scene_211 rfl ?_
                        refine pm_iconst (v := 0) hC dX12_scene_212 ?_
                        refine pm_putf hC 90 fl_X12_94 rfl rfl rfl (by decide) rfl trivial dX12_scene_213 ?_
                        refine pm_aload_n hC 0 (by decide) dX12_scene_216 rfl ?_
                        refine pm_getf (v := y11) hC 90 fl_X12_220 rfl rfl (by decide) rfl e193 dX12_scene_217 ?_
                        replace hb105 := hb105.trans (pf_val_inr hb207)
                        replace hb80 := hb80.trans (pf_val_inr hb105)
                        replace hb55 := hb55.trans (pf_val_inr hb80)
                        replace hT := hT.trans (pf_val_inr hb55)
                        exact pm_iret hC hR pm_nar0 ⟨y11, rfl, ⟨by exact ow_94c_120 b13, by exact ow_94c_104 b13⟩, (hV186.put 90 1 (x := 0) (lo := 0) (hi := 500) rfl ⟨by decide, by decide⟩), (hF187.upf 1 0 rfl), ⟨y4, V2, hE9, Or.inl ⟨by exact ow_94c_89 b5 c23, by exact ow_94c_103 b13, (show (pm_up V185 90 1 0) 90 1 = 0 from rfl), (show y11 = V2 90 6 from e12.symm), (show (pm_up V185 90 1 0) 90 15 = 1 from e192), (show (pm_up V185 90 1 0) 90 16 = y11 from e193).trans e12.symm, (show (pm_up V185 90 1 0) 90 21 = y14 from e194).trans e15.symm, (show (pm_up V185 90 1 0) 90 23 = 1 from e198), (show (pm_up V185 90 1 0) 90 25 = 0 from e199), (by rw [(show (pm_up V185 90 1 0) 90 19 = 16 from e196), if_pos (e18.trans (by exact ow_94c_136 b19 c111))]), (by rw [(show (pm_up V185 90 1 0) 90 20 = 99 from e197), if_pos (e18.trans (by exact ow_94c_136 b19 c111))]), (fun q h => hx202 q (by exact ow_94c_122 h)), (fun q h => hx203 q (by exact ow_94c_123 h)), (fun q h => hx204 q (by exact ow_94c_124 h)), (fun q h => hx201 q (by exact ow_94c_125 c212 h))⟩⟩, hT⟩ dX12_scene_220
                      · skip
                        replace hb207 := hb207.trans (if_neg (Int.not_le.mpr c212))
                        refine pm_aload_n hC 0 (by decide) dX12_scene_198 rfl ?_
                        have e213 : V185 90 27 = 102 := hV186.one 90 27 (by decide) (by decide) rfl
                        refine pm_getf (v := 102) hC 90 fl_X12_46 rfl rfl (by decide) rfl e213 dX12_scene_199 ?_
                        refine pm_iload_n hC 1 dX12_scene_202 rfl ?_
                        refine pm_iconst (v := 0) hC dX12_scene_203 ?_
                        refine pm_zastore (len := 3) hC 102 rfl rfl (by decide) ⟨by exact ow_94c_126 b184, by exact ow_94c_127 c212⟩ (by decide) (by exact ow_94c_64) dX12_scene_204 ?_
                        obtain ⟨x214, ei215⟩ : ∃ y : Int, x183 + 1 = y := ⟨_, rfl⟩
                        replace hb207 := hb207.trans (pf_let_eq ei215)
                        refine pm_iinc (y := x214) (lv' := [(1, (0, x214)), (0, (3, 90))]) hC 1 dX12_scene_205 (by decide) rfl ei215 rfl ?_
                        refine pm_goto (tgt := 193) hC dX12_scene_208 (by decide) ?_
                        refine pm_lvsub [1, 0] (lv' := [(0, (3, 90)), (1, (0, x214))]) rfl ?_
                        exact ih211 _ (by exact ow_94c_128 hm209 c212 ei215) x214 (pm_up V185 102 (x183 : Int).toNat 0) ⟨by exact ow_94c_129 b184 ei215, by exact ow_94c_130 c212 ei215⟩ (hV186.put 102 (x183 : Int).toNat (x := 0) (lo := 0) (hi := 1) rfl ⟨by decide, by decide⟩) (hF187.up 102 (x183 : Int).toNat 0 (by decide) rfl) e188 e189 e190 e191 e192 e193 e194 e195 e196 e197 e198 e199 (pm_az.fr hp200 rfl rfl) (fun q h => by (by_cases hq : q = (x183 : Int).toNat); (show pm_up V185 102 (x183 : Int).toNat 0 102 q = 0; rw [hq, pm_up_s]); (show pm_up V185 102 (x183 : Int).toNat 0 102 q = 0; rw [pm_up_i hq]; exact hx201 q (by exact ow_94c_99 ei215 h hq))) hx202 hx203 hx204 (hb105.trans (pf_val_inl hb207)) rfl
                    refine pm_lvsub [1, 0] (lv' := [(0, (3, 90)), (1, (0, 0))]) rfl ?_
                    exact L208 _ 0 V166 ⟨by decide, by decide⟩ hV168 hF169 e170 e171 e172 e173 e174 e175 e176 e177 e178 e179 e180 e181 hp182 (fun q h => absurd h (by exact ow_94c_100 h)) (fun q h => by rw [hv167]; exact hx100 q (by exact ow_94c_131 h)) (fun q h => by rw [hv167]; exact hx101 q (by exact ow_94c_132 h)) (fun q h => by rw [hv167]; exact hx99 q (by exact ow_94c_133 c110 h)) hb105 rfl
              · skip
                replace hb105 := hb105.trans (if_neg (Int.not_le.mpr c110))
                refine pm_aload_n hC 0 (by decide) dX12_scene_90 rfl ?_
                have e216 : V88 90 22 = 99 := hV89.one 90 22 (by decide) (by decide) rfl
                refine pm_getf (v := 99) hC 90 fl_X12_37 rfl rfl (by decide) rfl e216 dX12_scene_91 ?_
                refine pm_iload_n hC 1 dX12_scene_94 rfl ?_
                refine pm_aload_n hC 0 (by decide) dX12_scene_95 rfl ?_
                have e217 : V88 90 14 = 96 := hV89.one 90 14 (by decide) (by decide) rfl
                refine pm_getf (v := 96) hC 90 fl_X12_28 rfl rfl (by decide) rfl e217 dX12_scene_96 ?_
                refine pm_iload_n hC 1 dX12_scene_99 rfl ?_
                obtain ⟨y218, e219⟩ : ∃ y, V88 96 (x86 : Int).toNat = y := ⟨_, rfl⟩
                replace hb105 := hb105.trans (pf_let_eq e219)
                have b220 := hV89.get 96 (x86 : Int).toNat (lo := (-1)) (hi := 8) (t := 0) (by decide) (show _ < 36 by exact ow_94c_137 c110) rfl
                rw [e219] at b220
                refine pm_iaload (len := 36) (v := y218) hC 96 rfl rfl (by decide) ⟨by exact ow_94c_138 b87, by exact ow_94c_139 c110⟩ (by decide) e219 dX12_scene_100 ?_
                refine pm_iastore (len := 36) hC 99 rfl rfl (by decide) ⟨by exact ow_94c_138 b87, by exact ow_94c_139 c110⟩ (by decide) dX12_scene_101 ?_
                obtain ⟨x221, ei222⟩ : ∃ y : Int, x86 + 1 = y := ⟨_, rfl⟩
                replace hb105 := hb105.trans (pf_let_eq ei222)
                refine pm_iinc (y := x221) (lv' := [(1, (0, x221)), (0, (3, 90))]) hC 1 dX12_scene_102 (by decide) rfl ei222 rfl ?_
                refine pm_goto (tgt := 84) hC dX12_scene_105 (by decide) ?_
                refine pm_lvsub [1, 0] (lv' := [(0, (3, 90)), (1, (0, x221))]) rfl ?_
                exact ih109 _ (by exact ow_94c_140 hm107 c110 ei222) x221 (pm_up V88 99 (x86 : Int).toNat y218) ⟨by exact ow_94c_141 b87 ei222, by exact ow_94c_142 c110 ei222⟩ (hV89.put 99 (x86 : Int).toNat (x := y218) (lo := (-1)) (hi := 8) rfl ⟨by exact ow_94c_143 b220, by exact ow_94c_144 b220⟩) (hF90.up 99 (x86 : Int).toNat y218 (by decide) rfl) e91 e92 e93 e94 e95 e96 e97 (pm_az.fr hp98 rfl rfl) (fun q h => by (by_cases hq : q = (x86 : Int).toNat); (show pm_up V88 99 (x86 : Int).toNat y218 99 q = V2 96 q; rw [hq, pm_up_s, ← e219, hx102]); (show pm_up V88 99 (x86 : Int).toNat y218 99 q = V2 96 q; rw [pm_up_i hq]; exact hx99 q (by exact ow_94c_99 ei222 h hq))) hx100 hx101 hx102 (hb80.trans (pf_val_inl hb105)) rfl
            refine pm_lvsub [1, 0] (lv' := [(0, (3, 90)), (1, (0, 0))]) rfl ?_
            exact L106 _ 0 V63 ⟨by decide, by decide⟩ hV64 hF65 e66 e67 e68 e69 e70 e71 e72 hp73 (fun q h => absurd h (by exact ow_94c_100 h)) (fun q h => hx75 q (by exact ow_94c_131 h)) (fun q h => hx74 q (by exact ow_94c_145 c85 h)) hx77 hb80 rfl
          · skip
            replace hb80 := hb80.trans (if_neg (Int.not_le.mpr c85))
            refine pm_aload_n hC 0 (by decide) dX12_scene_64 rfl ?_
            have e223 : V63 90 18 = 98 := hV64.one 90 18 (by decide) (by decide) rfl
            refine pm_getf (v := 98) hC 90 fl_X12_34 rfl rfl (by decide) rfl e223 dX12_scene_65 ?_
            refine pm_iload_n hC 1 dX12_scene_68 rfl ?_
            refine pm_aload_n hC 0 (by decide) dX12_scene_69 rfl ?_
            have e224 : V63 90 10 = 95 := hV64.one 90 10 (by decide) (by decide) rfl
            refine pm_getf (v := 95) hC 90 fl_X12_25 rfl rfl (by decide) rfl e224 dX12_scene_70 ?_
            refine pm_iload_n hC 1 dX12_scene_73 rfl ?_
            obtain ⟨y225, e226⟩ : ∃ y, V63 95 (x61 : Int).toNat = y := ⟨_, rfl⟩
            replace hb80 := hb80.trans (pf_let_eq e226)
            have be228 := hV64 95 (by decide) (by decide) (x61 : Int).toNat (show _ < 4 by exact ow_94c_146 c85)
            rw [e226] at be228
            have b227 : (-1) ≤ y225 ∧ y225 ≤ 60 := pm_qhull be228 rfl rfl (by decide)
            refine pm_iaload (len := 4) (v := y225) hC 95 rfl rfl (by decide) ⟨by exact ow_94c_147 b62, by exact ow_94c_148 c85⟩ (by decide) e226 dX12_scene_74 ?_
            refine pm_iastore (len := 4) hC 98 rfl rfl (by decide) ⟨by exact ow_94c_147 b62, by exact ow_94c_148 c85⟩ (by decide) dX12_scene_75 ?_
            obtain ⟨x229, ei230⟩ : ∃ y : Int, x61 + 1 = y := ⟨_, rfl⟩
            replace hb80 := hb80.trans (pf_let_eq ei230)
            refine pm_iinc (y := x229) (lv' := [(1, (0, x229)), (0, (3, 90))]) hC 1 dX12_scene_76 (by decide) rfl ei230 rfl ?_
            refine pm_goto (tgt := 59) hC dX12_scene_79 (by decide) ?_
            refine pm_lvsub [1, 0] (lv' := [(0, (3, 90)), (1, (0, x229))]) rfl ?_
            exact ih84 _ (by exact ow_94c_149 hm82 c85 ei230) x229 (pm_up V63 98 (x61 : Int).toNat y225) ⟨by exact ow_94c_150 b62 ei230, by exact ow_94c_151 c85 ei230⟩ (hV64.putel 98 (x61 : Int).toNat (x := y225) (by rw [← e226, hx76]; exact hs95 _ (by exact ow_94c_146 c85))) (hF65.up 98 (x61 : Int).toNat y225 (by decide) rfl) e66 e67 e68 e69 e70 e71 e72 (pm_az.fr hp73 rfl rfl) (fun q h => by (by_cases hq : q = (x61 : Int).toNat); (show pm_up V63 98 (x61 : Int).toNat y225 98 q = V2 95 q; rw [hq, pm_up_s, ← e226, hx76]); (show pm_up V63 98 (x61 : Int).toNat y225 98 q = V2 95 q; rw [pm_up_i hq]; exact hx74 q (by exact ow_94c_99 ei230 h hq))) hx75 hx76 hx77 (hb55.trans (pf_val_inl hb80)) rfl
        refine pm_lvsub [1, 0] (lv' := [(0, (3, 90)), (1, (0, 0))]) rfl ?_
        exact L81 _ 0 V38 ⟨by decide, by decide⟩ hV39 hF40 e41 e42 e43 e44 e45 e46 e47 hp48 (fun q h => absurd h (by exact ow_94c_100 h)) (fun q h => hx49 q (by exact ow_94c_152 c60 h)) hx51 hx52 hb55 rfl
      · skip
        replace hb55 := hb55.trans (if_neg (Int.not_le.mpr c60))
        refine pm_aload_n hC 0 (by decide) dX12_scene_39 rfl ?_
        have e231 : V38 90 17 = 97 := hV39.one 90 17 (by decide) (by decide) rfl
        refine pm_getf (v := 97) hC 90 fl_X12_31 rfl rfl (by decide) rfl e231 dX12_scene_40 ?_
        refine pm_iload_n hC 1 dX12_scene_43 rfl ?_
        refine pm_aload_n hC 0 (by decide) dX12_scene_44 rfl ?_
        have e232 : V38 90 8 = 93 := hV39.one 90 8 (by decide) (by decide) rfl
        refine pm_getf (v := 93) hC 90 fl_X12_17 rfl rfl (by decide) rfl e232 dX12_scene_45 ?_
        refine pm_iload_n hC 1 dX12_scene_48 rfl ?_
        obtain ⟨y233, e234⟩ : ∃ y, V38 93 (x36 : Int).toNat = y := ⟨_, rfl⟩
        replace hb55 := hb55.trans (pf_let_eq e234)
        have be236 := hV39 93 (by decide) (by decide) (x36 : Int).toNat (show _ < 27 by exact ow_94c_153 c60)
        rw [e234] at be236
        have b235 : 0 ≤ y233 ∧ y233 ≤ 99 := pm_qhull be236 rfl rfl (by decide)
        refine pm_iaload (len := 27) (v := y233) hC 93 rfl rfl (by decide) ⟨by exact ow_94c_138 b37, by exact ow_94c_154 c60⟩ (by decide) e234 dX12_scene_49 ?_
        refine pm_iastore (len := 27) hC 97 rfl rfl (by decide) ⟨by exact ow_94c_138 b37, by exact ow_94c_154 c60⟩ (by decide) dX12_scene_50 ?_
        obtain ⟨x237, ei238⟩ : ∃ y : Int, x36 + 1 = y := ⟨_, rfl⟩
        replace hb55 := hb55.trans (pf_let_eq ei238)
        refine pm_iinc (y := x237) (lv' := [(1, (0, x237)), (0, (3, 90))]) hC 1 dX12_scene_51 (by decide) rfl ei238 rfl ?_
        refine pm_goto (tgt := 33) hC dX12_scene_54 (by decide) ?_
        refine pm_lvsub [1, 0] (lv' := [(0, (3, 90)), (1, (0, x237))]) rfl ?_
        exact ih59 _ (by exact ow_94c_155 hm57 c60 ei238) x237 (pm_up V38 97 (x36 : Int).toNat y233) ⟨by exact ow_94c_141 b37 ei238, by exact ow_94c_156 c60 ei238⟩ (hV39.putel 97 (x36 : Int).toNat (x := y233) (by rw [pm_qe_c (k := 97) (k' := 93) (i' := (x36 : Int).toNat) (m := 3) rfl rfl rfl (by exact ow_94c_157)]; exact be236)) (hF40.up 97 (x36 : Int).toNat y233 (by decide) rfl) e41 e42 e43 e44 e45 e46 e47 (pm_az.fr hp48 rfl rfl) (fun q h => by (by_cases hq : q = (x36 : Int).toNat); (show pm_up V38 97 (x36 : Int).toNat y233 97 q = V2 93 q; rw [hq, pm_up_s, ← e234, hx50]); (show pm_up V38 97 (x36 : Int).toNat y233 97 q = V2 93 q; rw [pm_up_i hq]; exact hx49 q (by exact ow_94c_99 ei238 h hq))) hx50 hx51 hx52 (hT.trans (pf_val_inl hb55)) rfl
    refine pm_lvsub [1, 0] (lv' := [(0, (3, 90)), (1, (0, 0))]) rfl ?_
    exact L56 _ 0 V24 ⟨by decide, by decide⟩ hV26 hF27 e28 e29 e30 e31 e32 e33 e34 hp35 (fun q h => absurd h (by exact ow_94c_100 h)) (by rw [hv25]; rfl) (by rw [hv25]; rfl) (by rw [hv25]; rfl) hT rfl
  · skip
    replace hT := hT.trans (if_neg c23)
    refine pm_iconst (v := (-1)) hC dX12_scene_8 ?_
    exact pm_iret hC hR pm_nar0 ⟨(-1), rfl, ⟨by exact ow_94c_60, by exact ow_94c_158⟩, hV6, hF10, ⟨y4, V2, hE9, Or.inr ⟨by exact ow_94c_102 c23, rfl, rfl, hF7⟩⟩, hT⟩ dX12_scene_9
set_option maxHeartbeats 4000000 in
set_option maxRecDepth 100000 in
theorem fP_X12_count (a1 : Int) (h0 : (-2147483648) ≤ a1 ∧ a1 ≤ 2147483647) : pm_K 1 yX12_count cX12_count 2 (some .int) (fun av V => av = [(3, 90), (0, a1)] ∧ pm_oq pm_qP V) (fun _ V r V' => ∃ y, r = some (0, y) ∧ ((-1) ≤ y ∧ y ≤ 500) ∧ V = V' ∧ F_X12_count a1 V = (y, V)) := by
  refine pm_MT.of (by decide) ⟨Nat.le_refl _, by decide⟩ (fun av V h => by rw [h.1]; exact (by decide : pm_words [(3, 0), (0, 0)] ≤ 2)) ?_
  rintro X av V0 hC - hR ⟨rfl, hV0⟩
  change pm_J X 0 [(0, (3, 90)), (1, (0, a1))] [] 118 V0
  have hT := F_X12_count_eq a1 V0
  refine pm_iload_n hC 1 dX12_count_0 rfl ?_
  rcases (show (a1 < 0 ∨ 7 < a1) ∨ a1 = (0 : Int) ∨ a1 = (1 : Int) ∨ a1 = (2 : Int) ∨ a1 = (3 : Int) ∨ a1 = (4 : Int) ∨ a1 = (5 : Int) ∨ a1 = (6 : Int) ∨ a1 = (7 : Int) by exact ow_94c_159) with c1 | c1 | c1 | c1 | c1 | c1 | c1 | c1 | c1
  · skip
    refine pm_tableOut (tgt := 88) hC ⟨by exact ow_94c_62 h0, by exact ow_94c_63 h0⟩ dX12_count_1 c1 (by decide) ?_
    replace hT := hT.trans (if_pos c1)
    refine pm_iconst (v := (-1)) hC dX12_count_88 ?_
    exact pm_iret hC hR pm_nar0 ⟨(-1), rfl, ⟨by exact ow_94c_60, by exact ow_94c_61⟩, rfl, hT⟩ dX12_count_89
  · skip
    refine pm_tableIn (tgt := 48) (off := 47) hC ⟨by exact ow_94c_160 c1, by exact ow_94c_161 c1⟩ dX12_count_1 (by exact ow_94c_162 c1) (by exact ow_94c_163 c1) (by rw [c1]; rfl) (by decide) ?_
    replace hT := hT.trans (if_neg (by exact ow_94c_164 c1))
    replace hT := hT.trans (if_pos c1)
    refine pm_aload_n hC 0 (by decide) dX12_count_48 rfl ?_
    obtain ⟨y2, e3⟩ : ∃ y, V0 90 16 = y := ⟨_, rfl⟩
    have b4 := hV0.get 90 16 (lo := 0) (hi := 9) (by decide) (by decide) rfl
    rw [e3] at b4
    replace hT := hT.trans (pf_let_eq e3)
    refine pm_getf (v := y2) hC 90 fl_X12_220 rfl rfl (by decide) rfl e3 dX12_count_49 ?_
    exact pm_iret hC hR pm_nar0 ⟨y2, rfl, ⟨by exact ow_94c_120 b4, by exact ow_94c_165 b4⟩, rfl, hT⟩ dX12_count_52
  · skip
    refine pm_tableIn (tgt := 53) (off := 52) hC ⟨by exact ow_94c_166 c1, by exact ow_94c_167 c1⟩ dX12_count_1 (by exact ow_94c_168 c1) (by exact ow_94c_169 c1) (by rw [c1]; rfl) (by decide) ?_
    replace hT := hT.trans (if_neg (by exact ow_94c_170 c1))
    replace hT := hT.trans (if_neg (by exact ow_94c_171 c1))
    replace hT := hT.trans (if_pos c1)
    refine pm_aload_n hC 0 (by decide) dX12_count_53 rfl ?_
    obtain ⟨y5, e6⟩ : ∃ y, V0 90 21 = y := ⟨_, rfl⟩
    have b7 := hV0.get 90 21 (lo := 0) (hi := 12) (by decide) (by decide) rfl
    rw [e6] at b7
    replace hT := hT.trans (pf_let_eq e6)
    refine pm_getf (v := y5) hC 90 fl_X12_223 rfl rfl (by decide) rfl e6 dX12_count_54 ?_
    exact pm_iret hC hR pm_nar0 ⟨y5, rfl, ⟨by exact ow_94c_172 b7, by exact ow_94c_173 b7⟩, rfl, hT⟩ dX12_count_57
  · skip
    refine pm_tableIn (tgt := 58) (off := 57) hC ⟨by exact ow_94c_174 c1, by exact ow_94c_175 c1⟩ dX12_count_1 (by exact ow_94c_176 c1) (by exact ow_94c_177 c1) (by rw [c1]; rfl) (by decide) ?_
    replace hT := hT.trans (if_neg (by exact ow_94c_178 c1))
    replace hT := hT.trans (if_neg (by exact ow_94c_179 c1))
    replace hT := hT.trans (if_neg (by exact ow_94c_180 c1))
    replace hT := hT.trans (if_pos c1)
    refine pm_aload_n hC 0 (by decide) dX12_count_58 rfl ?_
    obtain ⟨y8, e9⟩ : ∃ y, V0 90 23 = y := ⟨_, rfl⟩
    have b10 := hV0.get 90 23 (lo := 0) (hi := 10) (by decide) (by decide) rfl
    rw [e9] at b10
    replace hT := hT.trans (pf_let_eq e9)
    refine pm_getf (v := y8) hC 90 fl_X12_232 rfl rfl (by decide) rfl e9 dX12_count_59 ?_
    exact pm_iret hC hR pm_nar0 ⟨y8, rfl, ⟨by exact ow_94c_88 b10, by exact ow_94c_181 b10⟩, rfl, hT⟩ dX12_count_62
  · skip
    refine pm_tableIn (tgt := 63) (off := 62) hC ⟨by exact ow_94c_182 c1, by exact ow_94c_183 c1⟩ dX12_count_1 (by exact ow_94c_184 c1) (by exact ow_94c_185 c1) (by rw [c1]; rfl) (by decide) ?_
    replace hT := hT.trans (if_neg (by exact ow_94c_186 c1))
    replace hT := hT.trans (if_neg (by exact ow_94c_187 c1))
    replace hT := hT.trans (if_neg (by exact ow_94c_188 c1))
    replace hT := hT.trans (if_neg (by exact ow_94c_189 c1))
    replace hT := hT.trans (if_pos c1)
    refine pm_aload_n hC 0 (by decide) dX12_count_63 rfl ?_
    obtain ⟨y11, e12⟩ : ∃ y, V0 90 25 = y := ⟨_, rfl⟩
    have b13 := hV0.get 90 25 (lo := 0) (hi := 60) (by decide) (by decide) rfl
    rw [e12] at b13
    replace hT := hT.trans (pf_let_eq e12)
    refine pm_getf (v := y11) hC 90 fl_X12_235 rfl rfl (by decide) rfl e12 dX12_count_64 ?_
    exact pm_iret hC hR pm_nar0 ⟨y11, rfl, ⟨by exact ow_94c_190 b13, by exact ow_94c_191 b13⟩, rfl, hT⟩ dX12_count_67
  · skip
    refine pm_tableIn (tgt := 68) (off := 67) hC ⟨by exact ow_94c_192 c1, by exact ow_94c_193 c1⟩ dX12_count_1 (by exact ow_94c_194 c1) (by exact ow_94c_195 c1) (by rw [c1]; rfl) (by decide) ?_
    replace hT := hT.trans (if_neg (by exact ow_94c_196 c1))
    replace hT := hT.trans (if_neg (by exact ow_94c_197 c1))
    replace hT := hT.trans (if_neg (by exact ow_94c_198 c1))
    replace hT := hT.trans (if_neg (by exact ow_94c_199 c1))
    replace hT := hT.trans (if_neg (by exact ow_94c_200 c1))
    replace hT := hT.trans (if_pos c1)
    refine pm_aload_n hC 0 (by decide) dX12_count_68 rfl ?_
    obtain ⟨y14, e15⟩ : ∃ y, V0 90 35 = y := ⟨_, rfl⟩
    have b16 := hV0.get 90 35 (lo := 0) (hi := 10) (by decide) (by decide) rfl
    rw [e15] at b16
    replace hT := hT.trans (pf_let_eq e15)
    refine pm_getf (v := y14) hC 90 fl_X12_296 rfl rfl (by decide) rfl e15 dX12_count_69 ?_
    exact pm_iret hC hR pm_nar0 ⟨y14, rfl, ⟨by exact ow_94c_88 b16, by exact ow_94c_181 b16⟩, rfl, hT⟩ dX12_count_72
  · skip
    refine pm_tableIn (tgt := 73) (off := 72) hC ⟨by exact ow_94c_201 c1, by exact ow_94c_202 c1⟩ dX12_count_1 (by exact ow_94c_203 c1) (by exact ow_94c_204 c1) (by rw [c1]; rfl) (by decide) ?_
    replace hT := hT.trans (if_neg (by exact ow_94c_205 c1))
    replace hT := hT.trans (if_neg (by exact ow_94c_206 c1))
    replace hT := hT.trans (if_neg (by exact ow_94c_207 c1))
    replace hT := hT.trans (if_neg (by exact ow_94c_208 c1))
    replace hT := hT.trans (if_neg (by exact ow_94c_209 c1))
    replace hT := hT.trans (if_neg (by exact ow_94c_210 c1))
    replace hT := hT.trans (if_pos c1)
    refine pm_aload_n hC 0 (by decide) dX12_count_73 rfl ?_
    obtain ⟨y17, e18⟩ : ∃ y, V0 90 19 = y := ⟨_, rfl⟩
    have b19 := hV0.get 90 19 (lo := 0) (hi := 16) (by decide) (by decide) rfl
    rw [e18] at b19
    replace hT := hT.trans (pf_let_eq e18)
    refine pm_getf (v := y17) hC 90 fl_X12_226 rfl rfl (by decide) rfl e18 dX12_count_74 ?_
    exact pm_iret hC hR pm_nar0 ⟨y17, rfl, ⟨by exact ow_94c_211 b19, by exact ow_94c_212 b19⟩, rfl, hT⟩ dX12_count_77
  · skip
    refine pm_tableIn (tgt := 78) (off := 77) hC ⟨by exact ow_94c_213 c1, by exact ow_94c_214 c1⟩ dX12_count_1 (by exact ow_94c_215 c1) (by exact ow_94c_216 c1) (by rw [c1]; rfl) (by decide) ?_
    replace hT := hT.trans (if_neg (by exact ow_94c_217 c1))
    replace hT := hT.trans (if_neg (by exact ow_94c_218 c1))
    replace hT := hT.trans (if_neg (by exact ow_94c_219 c1))
    replace hT := hT.trans (if_neg (by exact ow_94c_220 c1))
    replace hT := hT.trans (if_neg (by exact ow_94c_221 c1))
    replace hT := hT.trans (if_neg (by exact ow_94c_222 c1))
    replace hT := hT.trans (if_neg (by exact ow_94c_223 c1))
    replace hT := hT.trans (if_pos c1)
    refine pm_aload_n hC 0 (by decide) dX12_count_78 rfl ?_
    obtain ⟨y20, e21⟩ : ∃ y, V0 90 20 = y := ⟨_, rfl⟩
    have b22 := hV0.get 90 20 (lo := 0) (hi := 99) (by decide) (by decide) rfl
    rw [e21] at b22
    replace hT := hT.trans (pf_let_eq e21)
    refine pm_getf (v := y20) hC 90 fl_X12_229 rfl rfl (by decide) rfl e21 dX12_count_79 ?_
    exact pm_iret hC hR pm_nar0 ⟨y20, rfl, ⟨by exact ow_94c_224 b22, by exact ow_94c_225 b22⟩, rfl, hT⟩ dX12_count_82
  · skip
    refine pm_tableIn (tgt := 83) (off := 82) hC ⟨by exact ow_94c_226 c1, by exact ow_94c_227 c1⟩ dX12_count_1 (by exact ow_94c_228 c1) (by exact ow_94c_229 c1) (by rw [c1]; rfl) (by decide) ?_
    replace hT := hT.trans (if_neg (by exact ow_94c_230 c1))
    replace hT := hT.trans (if_neg (by exact ow_94c_231 c1))
    replace hT := hT.trans (if_neg (by exact ow_94c_232 c1))
    replace hT := hT.trans (if_neg (by exact ow_94c_233 c1))
    replace hT := hT.trans (if_neg (by exact ow_94c_234 c1))
    replace hT := hT.trans (if_neg (by exact ow_94c_235 c1))
    replace hT := hT.trans (if_neg (by exact ow_94c_236 c1))
    replace hT := hT.trans (if_neg (by exact ow_94c_237 c1))
    replace hT := hT.trans (if_pos c1)
    refine pm_aload_n hC 0 (by decide) dX12_count_83 rfl ?_
    obtain ⟨y23, e24⟩ : ∃ y, V0 90 1 = y := ⟨_, rfl⟩
    have b25 := hV0.get 90 1 (lo := 0) (hi := 500) (by decide) (by decide) rfl
    rw [e24] at b25
    replace hT := hT.trans (pf_let_eq e24)
    refine pm_getf (v := y23) hC 90 fl_X12_94 rfl rfl (by decide) rfl e24 dX12_count_84 ?_
    exact pm_iret hC hR pm_nar0 ⟨y23, rfl, ⟨by exact ow_94c_238 b25, by exact ow_94c_5 b25⟩, rfl, hT⟩ dX12_count_87
