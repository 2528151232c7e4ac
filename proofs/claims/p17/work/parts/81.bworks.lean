theorem ow_81_0 {a0 : Int} (h0 : ((0 ≤ (a0 : Int)) ∧ (a0 ≤ (999 : Int)))) : (0 ≤ (a0 : Int)) := by omega
theorem ow_81_1 {a0 : Int} (h0 : ((0 ≤ (a0 : Int)) ∧ (a0 ≤ (999 : Int)))) : ((-2147483648) ≤ (a0 : Int)) := by omega
theorem ow_81_2 {a0 : Int} (h0 : ((0 ≤ (a0 : Int)) ∧ (a0 ≤ (999 : Int)))) : (a0 ≤ (2147483647 : Int)) := by omega
theorem ow_81_3 {a0 : Int} (h0 : ((0 ≤ (a0 : Int)) ∧ (a0 ≤ (999 : Int)))) (h1 : (((a0 % 10) ≤ (8 : Int)) ∧ (((a0 / 10) % 10) ≤ (8 : Int)))) : (0 ≤ ((a0 / 10) : Int)) := by omega
theorem ow_81_4 {a0 : Int} (h0 : ((0 ≤ (a0 : Int)) ∧ (a0 ≤ (999 : Int)))) (h1 : (((a0 % 10) ≤ (8 : Int)) ∧ (((a0 / 10) % 10) ≤ (8 : Int)))) : ((-2147483648) ≤ ((a0 / 10) : Int)) := by omega
theorem ow_81_5 {a0 : Int} (h0 : ((0 ≤ (a0 : Int)) ∧ (a0 ≤ (999 : Int)))) : ((a0 / 10) ≤ (2147483647 : Int)) := by omega
theorem ow_81_6 : ((0 : Int).toNat < (4 : Nat)) := by omega
theorem ow_81_7 {a0 : Int} (h0 : ((0 ≤ (a0 : Int)) ∧ (a0 ≤ (999 : Int)))) : (((4 * (a0 / 100)) : Int).toNat < (40 : Nat)) := by omega
theorem ow_81_8 {a0 : Int} (h0 : ((0 ≤ (a0 : Int)) ∧ (a0 ≤ (999 : Int)))) : (0 ≤ ((4 * (a0 / 100)) : Int)) := by omega
theorem ow_81_9 {a0 : Int} (h0 : ((0 ≤ (a0 : Int)) ∧ (a0 ≤ (999 : Int)))) : ((4 * (a0 / 100)) < (((40 : Nat) : Int) : Int)) := by omega
theorem ow_81_10 : ((1 : Int).toNat < (4 : Nat)) := by omega
theorem ow_81_11 {a0 : Int} (h0 : ((0 ≤ (a0 : Int)) ∧ (a0 ≤ (99 : Int)))) : (0 ≤ (a0 : Int)) := by omega
theorem ow_81_12 {a0 : Int} (h0 : ((0 ≤ (a0 : Int)) ∧ (a0 ≤ (99 : Int)))) : ((-2147483648) ≤ (a0 : Int)) := by omega
theorem ow_81_13 {a0 : Int} (h0 : ((0 ≤ (a0 : Int)) ∧ (a0 ≤ (99 : Int)))) : (a0 ≤ (2147483647 : Int)) := by omega
theorem ow_81_14 {a0 : Int} (h0 : ((0 ≤ (a0 : Int)) ∧ (a0 ≤ (9 : Int)))) : (0 ≤ (a0 : Int)) := by omega
theorem ow_81_15 {a0 : Int} (h0 : ((0 ≤ (a0 : Int)) ∧ (a0 ≤ (99 : Int)))) : (0 ≤ ((a0 / 10) : Int)) := by omega
theorem ow_81_16 {a0 : Int} (h0 : ((0 ≤ (a0 : Int)) ∧ (a0 ≤ (9 : Int)))) : (a0 ≤ (9 : Int)) := by omega
theorem ow_81_17 {a0 : Int} (h0 : ((0 ≤ (a0 : Int)) ∧ (a0 ≤ (99 : Int)))) : ((a0 / 10) ≤ (9 : Int)) := by omega
theorem ow_81_18 {a0 a1 a2 : Int} (h0 : ((1 ≤ (a0 : Int)) ∧ (a0 ≤ (60 : Int)))) (h1 : (((-30) ≤ (a1 : Int)) ∧ (a1 ≤ (30 : Int)))) (h2 : ((0 ≤ (a2 : Int)) ∧ (a2 ≤ (81 : Int)))) : ((-2147483648) ≤ (((a0 + a1) + a2) : Int)) := by omega
theorem ow_81_19 {a0 a1 a2 : Int} (h0 : ((1 ≤ (a0 : Int)) ∧ (a0 ≤ (60 : Int)))) (h1 : (((-30) ≤ (a1 : Int)) ∧ (a1 ≤ (30 : Int)))) (h2 : ((0 ≤ (a2 : Int)) ∧ (a2 ≤ (81 : Int)))) : (((a0 + a1) + a2) ≤ (2147483647 : Int)) := by omega
theorem ow_81_20 {a0 a1 a2 a3 : Int} (h0 : ((1 ≤ (a0 : Int)) ∧ ((((a1 + a2) + a3) ≤ (a0 : Int)) ∧ ((a0 = (1 : Int)) ∨ (a0 = (((a1 + a2) + a3) : Int)))))) : (1 ≤ (a0 : Int)) := by omega
theorem ow_81_21 {a0 a1 a2 a3 : Int} (h0 : ((1 ≤ (a0 : Int)) ∧ (a0 ≤ (60 : Int)))) (h1 : (((-30) ≤ (a1 : Int)) ∧ (a1 ≤ (30 : Int)))) (h2 : ((0 ≤ (a2 : Int)) ∧ (a2 ≤ (81 : Int)))) (h3 : ((1 ≤ (a3 : Int)) ∧ ((((a0 + a1) + a2) ≤ (a3 : Int)) ∧ ((a3 = (1 : Int)) ∨ (a3 = (((a0 + a1) + a2) : Int)))))) : (a3 ≤ (171 : Int)) := by omega
theorem ow_81_22 : ((2 : Int).toNat < (4 : Nat)) := by omega
theorem ow_81_23 {a0 : Int} (h0 : ((0 ≤ (a0 : Int)) ∧ (a0 ≤ (999 : Int)))) : (0 ≤ (((4 * (a0 / 100)) + 1) : Int)) := by omega
theorem ow_81_24 : ((3 : Int).toNat < (4 : Nat)) := by omega
theorem ow_81_25 {a0 : Int} : (0 ≤ ((a0 % 10) : Int)) := by omega
theorem ow_81_26 {a0 : Int} : ((a0 % 10) ≤ (9 : Int)) := by omega
theorem ow_81_27 {a0 : Int} (h0 : ((1 ≤ (a0 : Int)) ∧ (a0 ≤ (99 : Int)))) : (0 ≤ (a0 : Int)) := by omega
theorem ow_81_28 {a0 : Int} (h0 : ((1 ≤ (a0 : Int)) ∧ (a0 ≤ (99 : Int)))) : ((-2147483648) ≤ (a0 : Int)) := by omega
theorem ow_81_29 {a0 : Int} (h0 : ((1 ≤ (a0 : Int)) ∧ (a0 ≤ (99 : Int)))) : (a0 ≤ (2147483647 : Int)) := by omega
theorem ow_81_30 {a0 : Int} (h0 : ((1 ≤ (a0 : Int)) ∧ (a0 ≤ (99 : Int)))) : ((-2147483648) ≤ ((a0 / 2) : Int)) := by omega
theorem ow_81_31 {a0 : Int} (h0 : ((1 ≤ (a0 : Int)) ∧ (a0 ≤ (99 : Int)))) : ((a0 / 2) ≤ (2147483647 : Int)) := by omega
theorem ow_81_32 {a0 a1 : Int} (h0 : ((1 ≤ (a0 : Int)) ∧ (((a1 / 2) ≤ (a0 : Int)) ∧ ((a0 = (1 : Int)) ∨ (a0 = ((a1 / 2) : Int)))))) : (1 ≤ (a0 : Int)) := by omega
theorem ow_81_33 {a0 a1 : Int} (h0 : ((1 ≤ (a0 : Int)) ∧ (a0 ≤ (99 : Int)))) (h1 : ((1 ≤ (a1 : Int)) ∧ (((a0 / 2) ≤ (a1 : Int)) ∧ ((a1 = (1 : Int)) ∨ (a1 = ((a0 / 2) : Int)))))) : (a1 ≤ (49 : Int)) := by omega
theorem ow_81_34 {a0 : Int} (h0 : ((0 ≤ (a0 : Int)) ∧ (a0 ≤ (999 : Int)))) : (0 ≤ (((4 * (a0 / 100)) + 2) : Int)) := by omega
theorem ow_81_35 {a0 : Int} (h0 : (((-99) ≤ (a0 : Int)) ∧ (a0 ≤ (99 : Int)))) : ((-2147483648) ≤ (a0 : Int)) := by omega
theorem ow_81_36 {a0 : Int} (h0 : (((-99) ≤ (a0 : Int)) ∧ (a0 ≤ (99 : Int)))) : (a0 ≤ (2147483647 : Int)) := by omega
theorem ow_81_37 {a0 : Int} (h0 : (a0 < (0 : Int))) : (0 ≤ ((-a0) : Int)) := by omega
theorem ow_81_38 {a0 : Int} (h0 : (a0 < (0 : Int))) : ((-2147483648) ≤ ((-a0) : Int)) := by omega
theorem ow_81_39 {a0 : Int} (h0 : (((-99) ≤ (a0 : Int)) ∧ (a0 ≤ (99 : Int)))) : ((-a0) ≤ (2147483647 : Int)) := by omega
theorem ow_81_40 {a0 a1 : Int} (h0 : ((1 ≤ (a0 : Int)) ∧ ((a0 ≤ (49 : Int)) ∧ ((1 ≤ (a0 : Int)) ∧ ((a1 / 2) ≤ (a0 : Int)))))) : (0 < (a0 : Int)) := by omega
theorem ow_81_41 {a0 a1 : Int} (h0 : ((1 ≤ (a0 : Int)) ∧ ((a0 ≤ (49 : Int)) ∧ ((1 ≤ (a0 : Int)) ∧ ((a1 / 2) ≤ (a0 : Int)))))) : ((-2147483648) ≤ (a0 : Int)) := by omega
theorem ow_81_42 {a0 a1 : Int} (h0 : ((1 ≤ (a0 : Int)) ∧ ((a0 ≤ (49 : Int)) ∧ ((1 ≤ (a0 : Int)) ∧ ((a1 / 2) ≤ (a0 : Int)))))) : (a0 ≤ (2147483647 : Int)) := by omega
theorem ow_81_43 {a0 a1 a2 : Int} (h0 : (((-99) ≤ (a0 : Int)) ∧ (a0 ≤ (99 : Int)))) (h1 : ((0 ≤ (a1 : Int)) ∧ (a1 ≤ (16 : Int)))) (h2 : ((0 ≤ (a2 : Int)) ∧ (a2 ≤ ((-a0) : Int)))) : ((-2147483648) ≤ ((a1 - a2) : Int)) := by omega
theorem ow_81_44 {a0 a1 a2 : Int} (h0 : ((0 ≤ (a0 : Int)) ∧ (a0 ≤ (16 : Int)))) (h1 : ((0 ≤ (a1 : Int)) ∧ (a1 ≤ ((-a2) : Int)))) : ((a0 - a1) ≤ (2147483647 : Int)) := by omega
theorem ow_81_45 {a0 a1 a2 : Int} (h0 : ((0 ≤ (a0 : Int)) ∧ (((a1 - a2) ≤ (a0 : Int)) ∧ ((a0 = (0 : Int)) ∨ (a0 = ((a1 - a2) : Int)))))) : (0 ≤ (a0 : Int)) := by omega
theorem ow_81_46 {a0 a1 a2 a3 : Int} (h0 : ((0 ≤ (a0 : Int)) ∧ (a0 ≤ (16 : Int)))) (h1 : ((0 ≤ (a1 : Int)) ∧ (a1 ≤ ((-a2) : Int)))) (h2 : ((0 ≤ (a3 : Int)) ∧ (((a0 - a1) ≤ (a3 : Int)) ∧ ((a3 = (0 : Int)) ∨ (a3 = ((a0 - a1) : Int)))))) : (a3 ≤ (16 : Int)) := by omega
theorem ow_81_47 {a0 : Int} : (0 ≤ (((a0 / 10) % 10) : Int)) := by omega
theorem ow_81_48 {a0 : Int} (h0 : (((a0 % 10) ≤ (8 : Int)) ∧ (((a0 / 10) % 10) ≤ (8 : Int)))) : (((a0 / 10) % 10) ≤ (8 : Int)) := by omega
theorem ow_81_49 {a0 : Int} (h0 : (((a0 % 10) ≤ (8 : Int)) ∧ (((a0 / 10) % 10) ≤ (8 : Int)))) : ((a0 % 10) ≤ (8 : Int)) := by omega
theorem ow_81_50 {a0 a1 a2 a3 : Int} (h0 : ((1 ≤ (a0 : Int)) ∧ ((a0 ≤ (171 : Int)) ∧ ((1 ≤ (a0 : Int)) ∧ (((a1 + a2) + a3) ≤ (a0 : Int)))))) : (0 ≤ (a0 : Int)) := by omega
theorem ow_81_51 {a0 a1 a2 a3 : Int} (h0 : ((1 ≤ (a0 : Int)) ∧ ((a0 ≤ (171 : Int)) ∧ ((1 ≤ (a0 : Int)) ∧ (((a1 + a2) + a3) ≤ (a0 : Int)))))) : (a0 ≤ (171 : Int)) := by omega
theorem ow_81_52 {a0 a1 a2 : Int} (h0 : ((0 ≤ (a0 : Int)) ∧ ((a0 ≤ (16 : Int)) ∧ ((0 ≤ (a0 : Int)) ∧ ((a1 - a2) ≤ (a0 : Int)))))) : (0 ≤ (a0 : Int)) := by omega
theorem ow_81_53 {a0 a1 a2 : Int} (h0 : ((0 ≤ (a0 : Int)) ∧ ((a0 ≤ (16 : Int)) ∧ ((0 ≤ (a0 : Int)) ∧ ((a1 - a2) ≤ (a0 : Int)))))) : (a0 ≤ (16 : Int)) := by omega
theorem ow_81_54 {a0 : Int} (h0 : ((0 ≤ (a0 : Int)) ∧ (a0 ≤ (9 : Int)))) : ((-2147483648) ≤ (a0 : Int)) := by omega
theorem ow_81_55 {a0 : Int} (h0 : ((0 ≤ (a0 : Int)) ∧ (a0 ≤ (9 : Int)))) : (a0 ≤ (2147483647 : Int)) := by omega
theorem ow_81_56 {a0 : Int} (h0 : ((2 ≤ (a0 : Int)) ∧ (a0 ≤ (9 : Int)))) : ((-2147483648) ≤ (a0 : Int)) := by omega
theorem ow_81_57 {a0 : Int} (h0 : ((2 ≤ (a0 : Int)) ∧ (a0 ≤ (9 : Int)))) : (a0 ≤ (2147483647 : Int)) := by omega
theorem ow_81_58 {a0 a1 a2 a3 : Int} (h0 : ((1 ≤ (a0 : Int)) ∧ ((a0 ≤ (171 : Int)) ∧ ((1 ≤ (a0 : Int)) ∧ (((a1 + a2) + a3) ≤ (a0 : Int)))))) : (1 ≤ (a0 : Int)) := by omega
theorem ow_81_59 {a0 a1 a2 : Int} (h0 : (((a0 / 10) % 10) < (a1 : Int))) (h1 : (a1 = (a2 : Int))) : (((a0 / 10) % 10) < (a2 : Int)) := by omega
theorem ow_81_60 {a0 a1 a2 : Int} (h0 : ((a0 % 10) < (a1 : Int))) (h1 : (a1 = (a2 : Int))) : ((a0 % 10) < (a2 : Int)) := by omega
theorem ow_81_61 {a0 a1 a2 a3 : Int} (h0 : (((a0 / 10) % 10) < (a1 : Int))) (h1 : (a1 = (a2 : Int))) (h2 : (a2 ≤ (a3 : Int))) : (((a0 / 10) % 10) < (a3 : Int)) := by omega
theorem ow_81_62 {a0 a1 a2 a3 : Int} (h0 : ((a0 % 10) < (a1 : Int))) (h1 : (a1 = (a2 : Int))) (h2 : (a2 ≤ (a3 : Int))) : ((a0 % 10) < (a3 : Int)) := by omega
theorem ow_81_63 {a0 a1 : Int} {k2 : Nat} (h0 : (a0 ≤ (a1 : Int))) (h1 : (((k2 : Nat) : Int) < (a0 : Int))) : (((k2 : Nat) : Int) < (a1 : Int)) := by omega
theorem ow_81_64 {a0 a1 : Int} (h0 : ((2 ≤ (a0 : Int)) ∧ (a0 ≤ (9 : Int)))) (h1 : (a1 < (a0 : Int))) : ((((3 * a1) + 2) : Int).toNat < (27 : Nat)) := by omega
theorem ow_81_65 {a0 a1 a2 : Int} (h0 : (a0 ≤ ((263169 * a1) : Int))) (h1 : (a0 = (a2 : Int))) (h2 : ((0 ≤ (a2 : Int)) ∧ (a2 ≤ (2368521 : Int)))) : (0 ≤ (((3 * a1) + 2) : Int)) := by omega
theorem ow_81_66 {a0 a1 : Int} (h0 : ((2 ≤ (a0 : Int)) ∧ (a0 ≤ (9 : Int)))) (h1 : (a1 < (a0 : Int))) : (((3 * a1) + 2) < (((27 : Nat) : Int) : Int)) := by omega
theorem ow_81_67 {a0 a1 a2 : Int} (h0 : (a0 ≤ ((263169 * a1) : Int))) (h1 : (a0 = (a2 : Int))) (h2 : ((0 ≤ (a2 : Int)) ∧ (a2 ≤ (2368521 : Int)))) : (0 ≤ (a1 : Int)) := by omega
theorem ow_81_68 {a0 a1 : Int} (h0 : ((2 ≤ (a0 : Int)) ∧ (a0 ≤ (9 : Int)))) (h1 : (a1 < (a0 : Int))) : (a1 ≤ (8 : Int)) := by omega
theorem ow_81_69 {a0 a1 a2 a3 : Int} (h0 : ((0 ≤ (a0 : Int)) ∧ ((a0 ≤ (99 : Int)) ∧ (a0 = (a1 : Int))))) (h1 : ((0 ≤ (a2 : Int)) ∧ ((a2 ≤ (99 : Int)) ∧ (a2 = (a3 : Int))))) : ((-2147483647) ≤ ((a0 - a2) : Int)) := by omega
theorem ow_81_70 {a0 a1 a2 a3 : Int} (h0 : ((0 ≤ (a0 : Int)) ∧ ((a0 ≤ (99 : Int)) ∧ (a0 = (a1 : Int))))) (h1 : ((0 ≤ (a2 : Int)) ∧ ((a2 ≤ (99 : Int)) ∧ (a2 = (a3 : Int))))) : ((a0 - a2) ≤ (2147483647 : Int)) := by omega
theorem ow_81_71 {a0 a1 a2 a3 a4 a5 a6 a7 a8 a9 a10 a11 a12 a13 : Int} (h0 : ((1 ≤ (a0 : Int)) ∧ ((a0 ≤ (171 : Int)) ∧ ((1 ≤ (a0 : Int)) ∧ (((a1 + a2) + a3) ≤ (a0 : Int)))))) (h1 : ((0 ≤ (a4 : Int)) ∧ ((a4 ≤ (99 : Int)) ∧ (a4 = (a5 : Int))))) (h2 : ((0 ≤ (a6 : Int)) ∧ ((a6 ≤ (99 : Int)) ∧ (a6 = (a7 : Int))))) (h3 : ((0 ≤ (a8 : Int)) ∧ ((a8 ≤ (2147483647 : Int)) ∧ (((0 ≤ ((a4 - a6) : Int)) → (a8 = ((a4 - a6) : Int))) ∧ (((a4 - a6) < (0 : Int)) → (a8 = ((-(a4 - a6)) : Int))))))) (h4 : ((0 ≤ (a9 : Int)) ∧ ((a9 ≤ (99 : Int)) ∧ (a9 = (a10 : Int))))) (h5 : ((0 ≤ (a11 : Int)) ∧ ((a11 ≤ (99 : Int)) ∧ (a11 = (a12 : Int))))) (h6 : ((0 ≤ (a13 : Int)) ∧ ((a13 ≤ (2147483647 : Int)) ∧ (((0 ≤ ((a9 - a11) : Int)) → (a13 = ((a9 - a11) : Int))) ∧ (((a9 - a11) < (0 : Int)) → (a13 = ((-(a9 - a11)) : Int))))))) : ((-197) ≤ (((a0 - a8) - a13) : Int)) := by omega
theorem ow_81_72 {a0 a1 a2 a3 a4 a5 a6 a7 a8 a9 : Int} (h0 : ((1 ≤ (a0 : Int)) ∧ ((a0 ≤ (171 : Int)) ∧ ((1 ≤ (a0 : Int)) ∧ (((a1 + a2) + a3) ≤ (a0 : Int)))))) (h1 : ((0 ≤ (a4 : Int)) ∧ ((a4 ≤ (2147483647 : Int)) ∧ (((0 ≤ ((a5 - a6) : Int)) → (a4 = ((a5 - a6) : Int))) ∧ (((a5 - a6) < (0 : Int)) → (a4 = ((-(a5 - a6)) : Int))))))) (h2 : ((0 ≤ (a7 : Int)) ∧ ((a7 ≤ (2147483647 : Int)) ∧ (((0 ≤ ((a8 - a9) : Int)) → (a7 = ((a8 - a9) : Int))) ∧ (((a8 - a9) < (0 : Int)) → (a7 = ((-(a8 - a9)) : Int))))))) : (((a0 - a4) - a7) ≤ (171 : Int)) := by omega
theorem ow_81_73 {a0 : Int} (h0 : (((-1773) ≤ (a0 : Int)) ∧ (a0 ≤ (1539 : Int)))) : ((-2147483648) ≤ (a0 : Int)) := by omega
theorem ow_81_74 {a0 : Int} (h0 : (((-1773) ≤ (a0 : Int)) ∧ (a0 ≤ (1539 : Int)))) : (a0 ≤ (2147483647 : Int)) := by omega
theorem ow_81_75 {a0 a1 : Int} (h0 : ((0 ≤ (a0 : Int)) ∧ ((a1 ≤ (a0 : Int)) ∧ ((a0 = (0 : Int)) ∨ (a0 = (a1 : Int)))))) : (0 ≤ (a0 : Int)) := by omega
theorem ow_81_76 {a0 a1 : Int} (h0 : (((-1773) ≤ (a0 : Int)) ∧ (a0 ≤ (1539 : Int)))) (h1 : ((0 ≤ (a1 : Int)) ∧ ((a0 ≤ (a1 : Int)) ∧ ((a1 = (0 : Int)) ∨ (a1 = (a0 : Int)))))) : (a1 ≤ (1539 : Int)) := by omega
theorem ow_81_77 {a0 a1 a2 : Int} (h0 : (a0 = (a1 : Int))) (h1 : (a2 < (a1 : Int))) : (a2 < (a0 : Int)) := by omega
theorem ow_81_78 {a0 a1 a2 a3 : Int} (h0 : ((0 ≤ (a0 : Int)) ∧ ((a0 ≤ (99 : Int)) ∧ (a0 = (a1 : Int))))) (h1 : ((0 ≤ (a2 : Int)) ∧ ((a2 ≤ (99 : Int)) ∧ (a2 = (a3 : Int))))) (h2 : (a1 = (a3 : Int))) : ((a0 - a2) = (0 : Int)) := by omega
theorem ow_81_79 {a0 a1 : Int} (h0 : (a0 = (a1 : Int))) (h1 : (1 ≤ (a0 : Int))) : (1 ≤ (a1 : Int)) := by omega
theorem ow_81_80 {a0 a1 a2 a3 a4 a5 : Int} (h0 : ((1 ≤ (a0 : Int)) ∧ ((a0 ≤ (171 : Int)) ∧ ((1 ≤ (a0 : Int)) ∧ (((a1 + a2) + a3) ≤ (a0 : Int)))))) (h1 : (a4 = (0 : Int))) (h2 : (a5 = (0 : Int))) : (1 ≤ (((a0 - a4) - a5) : Int)) := by omega
theorem ow_81_81 {a0 a1 : Int} (h0 : ((2 ≤ (a0 : Int)) ∧ (a0 ≤ (9 : Int)))) (h1 : (a1 < (a0 : Int))) : (a1 < (((9 : Nat) : Int) : Int)) := by omega
theorem ow_81_82 {a0 a1 : Int} (h0 : ((0 ≤ (a0 : Int)) ∧ ((a0 ≤ (1539 : Int)) ∧ ((0 ≤ (a0 : Int)) ∧ (a1 ≤ (a0 : Int)))))) : (0 ≤ (a0 : Int)) := by omega
theorem ow_81_83 {a0 a1 : Int} (h0 : ((0 ≤ (a0 : Int)) ∧ ((a0 ≤ (1539 : Int)) ∧ ((0 ≤ (a0 : Int)) ∧ (a1 ≤ (a0 : Int)))))) : (a0 ≤ (1539 : Int)) := by omega
theorem ow_81_84 {a0 a1 a2 a3 a4 a5 a6 : Int} (h0 : ((1 ≤ (a0 : Int)) ∧ ((a0 ≤ (171 : Int)) ∧ ((1 ≤ (a0 : Int)) ∧ (((a1 + a2) + a3) ≤ (a0 : Int)))))) (h1 : ((0 ≤ (a4 : Int)) ∧ ((a4 ≤ (2147483647 : Int)) ∧ (((0 ≤ ((a5 - a6) : Int)) → (a4 = ((a5 - a6) : Int))) ∧ (((a5 - a6) < (0 : Int)) → (a4 = ((-(a5 - a6)) : Int))))))) : ((-2147483648) ≤ ((a0 - a4) : Int)) := by omega
theorem ow_81_85 {a0 a1 a2 a3 a4 a5 a6 : Int} (h0 : ((1 ≤ (a0 : Int)) ∧ ((a0 ≤ (171 : Int)) ∧ ((1 ≤ (a0 : Int)) ∧ (((a1 + a2) + a3) ≤ (a0 : Int)))))) (h1 : ((0 ≤ (a4 : Int)) ∧ ((a4 ≤ (2147483647 : Int)) ∧ (((0 ≤ ((a5 - a6) : Int)) → (a4 = ((a5 - a6) : Int))) ∧ (((a5 - a6) < (0 : Int)) → (a4 = ((-(a5 - a6)) : Int))))))) : ((a0 - a4) ≤ (2147483647 : Int)) := by omega
theorem ow_81_86 {a0 a1 a2 a3 a4 a5 a6 a7 : Int} (h0 : ((1 ≤ (a0 : Int)) ∧ ((a0 ≤ (171 : Int)) ∧ ((1 ≤ (a0 : Int)) ∧ (((a1 + a2) + a3) ≤ (a0 : Int)))))) (h1 : ((0 ≤ (a4 : Int)) ∧ ((a4 ≤ (2147483647 : Int)) ∧ (((0 ≤ ((a5 - a6) : Int)) → (a4 = ((a5 - a6) : Int))) ∧ (((a5 - a6) < (0 : Int)) → (a4 = ((-(a5 - a6)) : Int))))))) (h2 : ((0 ≤ (a7 : Int)) ∧ (((a0 - a4) ≤ (a7 : Int)) ∧ ((a7 = (0 : Int)) ∨ (a7 = ((a0 - a4) : Int)))))) : (a7 ≤ (171 : Int)) := by omega
theorem ow_81_87 {a0 a1 a2 a3 a4 a5 : Int} (h0 : ((1 ≤ (a0 : Int)) ∧ ((a0 ≤ (171 : Int)) ∧ ((1 ≤ (a0 : Int)) ∧ (((a1 + a2) + a3) ≤ (a0 : Int)))))) (h1 : ((0 ≤ (a4 : Int)) ∧ ((a4 ≤ (171 : Int)) ∧ ((0 ≤ (a4 : Int)) ∧ ((a0 - a5) ≤ (a4 : Int)))))) (h2 : (a5 = (0 : Int))) : (1 ≤ (a4 : Int)) := by omega
theorem ow_81_88 {a0 a1 a2 : Int} (h0 : ((0 ≤ (a0 : Int)) ∧ ((a0 ≤ (171 : Int)) ∧ ((0 ≤ (a0 : Int)) ∧ ((a1 - a2) ≤ (a0 : Int)))))) : (0 ≤ (a0 : Int)) := by omega
theorem ow_81_89 {a0 a1 a2 : Int} (h0 : ((0 ≤ (a0 : Int)) ∧ ((a0 ≤ (171 : Int)) ∧ ((0 ≤ (a0 : Int)) ∧ ((a1 - a2) ≤ (a0 : Int)))))) : (a0 ≤ (171 : Int)) := by omega
theorem ow_81_90 {a0 a1 : Int} (h0 : ((2 ≤ (a0 : Int)) ∧ (a0 ≤ (9 : Int)))) (h1 : (a1 < (a0 : Int))) : ((a1 : Int).toNat < (9 : Nat)) := by omega
theorem ow_81_91 {a0 : Int} (h0 : ((0 ≤ (a0 : Int)) ∧ (a0 ≤ (1539 : Int)))) : ((-2147483648) ≤ (a0 : Int)) := by omega
theorem ow_81_92 {a0 : Int} (h0 : ((0 ≤ (a0 : Int)) ∧ (a0 ≤ (1539 : Int)))) : (a0 ≤ (2147483647 : Int)) := by omega
theorem ow_81_93 {a0 : Int} (h0 : ((0 ≤ (a0 : Int)) ∧ (a0 ≤ (171 : Int)))) : ((-2147483648) ≤ (a0 : Int)) := by omega
theorem ow_81_94 {a0 : Int} (h0 : ((0 ≤ (a0 : Int)) ∧ (a0 ≤ (171 : Int)))) : (a0 ≤ (2147483647 : Int)) := by omega
theorem ow_81_95 {a0 : Int} (h0 : ((0 ≤ (a0 : Int)) ∧ (a0 ≤ (1539 : Int)))) : (0 ≤ (a0 : Int)) := by omega
theorem ow_81_96 {a0 : Int} (h0 : ((0 ≤ (a0 : Int)) ∧ (a0 ≤ (171 : Int)))) : (0 ≤ (a0 : Int)) := by omega
theorem ow_81_97 {a0 : Int} (h0 : ((0 ≤ (a0 : Int)) ∧ (a0 ≤ (1539 : Int)))) : (a0 ≤ (1539 : Int)) := by omega
theorem ow_81_98 {a0 : Int} (h0 : ((0 ≤ (a0 : Int)) ∧ (a0 ≤ (171 : Int)))) : (a0 ≤ (171 : Int)) := by omega
theorem ow_81_99 {a0 a1 a3 : Int} {k2 : Nat} (h0 : ((2 ≤ (a0 : Int)) ∧ (a0 ≤ (9 : Int)))) (h1 : (((9 - a1) : Int).toNat = (k2 : Nat))) (h2 : (a1 < (a0 : Int))) (h3 : ((a1 + 1) = (a3 : Int))) : (((9 - a3) : Int).toNat < (k2 : Nat)) := by omega
theorem ow_81_100 {a0 a1 a2 a3 : Int} (h0 : (a0 ≤ ((263169 * a1) : Int))) (h1 : (a0 = (a2 : Int))) (h2 : ((0 ≤ (a2 : Int)) ∧ (a2 ≤ (2368521 : Int)))) (h3 : ((a1 + 1) = (a3 : Int))) : (0 ≤ (a3 : Int)) := by omega
theorem ow_81_101 {a0 a1 a2 : Int} (h0 : ((2 ≤ (a0 : Int)) ∧ (a0 ≤ (9 : Int)))) (h1 : (a1 < (a0 : Int))) (h2 : ((a1 + 1) = (a2 : Int))) : (a2 ≤ (9 : Int)) := by omega
theorem ow_81_102 {a0 a1 : Int} (h0 : ((0 ≤ (a0 : Int)) ∧ (a0 ≤ (13851 : Int)))) (h1 : ((0 ≤ (a1 : Int)) ∧ (a1 ≤ (1539 : Int)))) : (0 ≤ ((a0 + a1) : Int)) := by omega
theorem ow_81_103 {a0 a1 a2 a3 a4 : Int} (h0 : ((2 ≤ (a0 : Int)) ∧ (a0 ≤ (9 : Int)))) (h1 : (a1 ≤ ((1539 * a2) : Int))) (h2 : (a2 < (a0 : Int))) (h3 : (a1 = (a3 : Int))) (h4 : ((0 ≤ (a4 : Int)) ∧ (a4 ≤ (1539 : Int)))) : ((a3 + a4) ≤ (13851 : Int)) := by omega
theorem ow_81_104 {a0 a1 : Int} (h0 : ((0 ≤ (a0 : Int)) ∧ (a0 ≤ (1539 : Int)))) (h1 : ((0 ≤ (a1 : Int)) ∧ (a1 ≤ (171 : Int)))) : (0 ≤ ((a0 + a1) : Int)) := by omega
theorem ow_81_105 {a0 a1 a2 a3 a4 : Int} (h0 : ((2 ≤ (a0 : Int)) ∧ (a0 ≤ (9 : Int)))) (h1 : (a1 ≤ ((171 * a2) : Int))) (h2 : (a2 < (a0 : Int))) (h3 : (a1 = (a3 : Int))) (h4 : ((0 ≤ (a4 : Int)) ∧ (a4 ≤ (171 : Int)))) : ((a3 + a4) ≤ (1539 : Int)) := by omega
theorem ow_81_106 {a0 a1 : Int} (h0 : ((0 ≤ (a0 : Int)) ∧ (a0 ≤ (2368521 : Int)))) (h1 : ((0 ≤ (a1 : Int)) ∧ (a1 ≤ (263169 : Int)))) : (0 ≤ ((a0 + a1) : Int)) := by omega
theorem ow_81_107 {a0 a1 a2 a3 a4 : Int} (h0 : (a0 ≤ ((1539 * a1) : Int))) (h1 : (a0 = (a2 : Int))) (h2 : ((0 ≤ (a3 : Int)) ∧ (a3 ≤ (1539 : Int)))) (h3 : ((a1 + 1) = (a4 : Int))) : ((a2 + a3) ≤ ((1539 * a4) : Int)) := by omega
theorem ow_81_108 {a0 a1 a2 a3 a4 : Int} (h0 : (a0 ≤ ((171 * a1) : Int))) (h1 : (a0 = (a2 : Int))) (h2 : ((0 ≤ (a3 : Int)) ∧ (a3 ≤ (171 : Int)))) (h3 : ((a1 + 1) = (a4 : Int))) : ((a2 + a3) ≤ ((171 * a4) : Int)) := by omega
theorem ow_81_109 {a0 a1 a2 : Int} (h0 : ((a0 + 1) = (a1 : Int))) (h1 : (((a2 / 10) % 10) < (a1 : Int))) (h2 : (((a2 / 10) % 10) ≠ (a0 : Int))) : (((a2 / 10) % 10) < (a0 : Int)) := by omega
theorem ow_81_110 {a0 a1 a2 : Int} (h0 : ((a0 + 1) = (a1 : Int))) (h1 : ((a2 % 10) < (a1 : Int))) (h2 : ((a2 % 10) ≠ (a0 : Int))) : ((a2 % 10) < (a0 : Int)) := by omega
theorem ow_81_111 {a0 a1 a2 a3 : Int} (h0 : (a0 ≤ ((263169 * a1) : Int))) (h1 : (a0 = (a2 : Int))) (h2 : ((0 ≤ (a2 : Int)) ∧ (a2 ≤ (2368521 : Int)))) (h3 : ((a1 + 1) = (a3 : Int))) : ((((a1 : Int).toNat : Nat) : Int) < (a3 : Int)) := by omega
theorem ow_81_112 {a0 a1 : Int} (h0 : (1 ≤ ((a0 + a1) : Int))) (h1 : ¬((1 ≤ (a1 : Int)))) : (1 ≤ (a0 : Int)) := by omega
theorem ow_81_113 {a0 a1 : Int} {k2 : Nat} (h0 : ((a0 + 1) = (a1 : Int))) (h1 : (((k2 : Nat) : Int) < (a0 : Int))) : (((k2 : Nat) : Int) < (a1 : Int)) := by omega
theorem ow_81_114 {a1 : Int} {k0 : Nat} (h0 : (((k0 : Nat) : Int) < (a1 : Int))) : (k0 ≠ ((a1 : Int).toNat : Nat)) := by omega
theorem ow_81_115 {a0 a1 a2 : Int} (h0 : (a0 < (a1 : Int))) (h1 : ((a0 + 1) = (a2 : Int))) : (a2 ≤ (a1 : Int)) := by omega
theorem ow_81_116 : (0 ≤ ((1539 * 0) : Int)) := by omega
theorem ow_81_117 : (0 ≤ ((171 * 0) : Int)) := by omega
theorem ow_81_118 : (0 ≤ ((263169 * 0) : Int)) := by omega
theorem ow_81_119 {a0 : Int} (h0 : (((a0 / 10) % 10) < (0 : Int))) : ¬((((a0 / 10) % 10) < (0 : Int))) := by omega
theorem ow_81_120 {a0 : Int} (h0 : ((a0 % 10) < (0 : Int))) : ¬(((a0 % 10) < (0 : Int))) := by omega
theorem ow_81_121 {a0 : Int} (h0 : ((2 ≤ (a0 : Int)) ∧ (a0 ≤ (9 : Int)))) : (0 ≤ (a0 : Int)) := by omega
theorem ow_81_122 {a0 : Int} (h0 : (0 ≤ (a0 : Int))) : (0 ≤ (a0 : Int)) := by omega
theorem ow_81_123 {a0 : Int} (h0 : (0 ≤ (a0 : Int))) : ((-2147483648) ≤ (a0 : Int)) := by omega
theorem ow_81_124 {a0 : Int} (h0 : ((1 ≤ (a0 : Int)) ∧ (a0 ≤ (99 : Int)))) : (0 < (a0 : Int)) := by omega
theorem ow_81_125 {a0 a1 a2 : Int} (h0 : (((-99) ≤ (a0 : Int)) ∧ (a0 ≤ (99 : Int)))) (h1 : ((0 ≤ (a1 : Int)) ∧ (a1 ≤ (16 : Int)))) (h2 : ((0 ≤ (a2 : Int)) ∧ (a2 ≤ (a0 : Int)))) : ((-2147483648) ≤ ((a1 - a2) : Int)) := by omega
theorem ow_81_126 {a0 a1 a2 : Int} (h0 : ((0 ≤ (a0 : Int)) ∧ (a0 ≤ (16 : Int)))) (h1 : ((0 ≤ (a1 : Int)) ∧ (a1 ≤ (a2 : Int)))) : ((a0 - a1) ≤ (2147483647 : Int)) := by omega
theorem ow_81_127 {a0 a1 a2 a3 : Int} (h0 : ((0 ≤ (a0 : Int)) ∧ (a0 ≤ (16 : Int)))) (h1 : ((0 ≤ (a1 : Int)) ∧ (a1 ≤ (a2 : Int)))) (h2 : ((0 ≤ (a3 : Int)) ∧ (((a0 - a1) ≤ (a3 : Int)) ∧ ((a3 = (0 : Int)) ∨ (a3 = ((a0 - a1) : Int)))))) : (a3 ≤ (16 : Int)) := by omega
theorem ow_81_128 {a0 : Int} (h0 : ((0 ≤ (a0 : Int)) ∧ (a0 ≤ (59 : Int)))) : (0 ≤ (a0 : Int)) := by omega
theorem ow_81_129 {a0 a1 : Int} (h0 : (a0 < (a1 : Int))) : (a0 < (a1 : Int)) := by omega
theorem ow_81_130 {a0 : Int} (h0 : ((0 ≤ (a0 : Int)) ∧ (a0 ≤ (59 : Int)))) : (((5 * a0) : Int).toNat < (300 : Nat)) := by omega
theorem ow_81_131 {a0 : Int} (h0 : ((0 ≤ (a0 : Int)) ∧ (a0 ≤ (59 : Int)))) : (0 ≤ ((5 * a0) : Int)) := by omega
theorem ow_81_132 {a0 : Int} (h0 : ((0 ≤ (a0 : Int)) ∧ (a0 ≤ (59 : Int)))) : ((5 * a0) < (((300 : Nat) : Int) : Int)) := by omega
theorem ow_81_133 {a0 : Int} (h0 : ((0 ≤ (a0 : Int)) ∧ (a0 ≤ (59 : Int)))) : ((((5 * a0) + 1) : Int).toNat < (300 : Nat)) := by omega
theorem ow_81_134 {a0 : Int} (h0 : ((0 ≤ (a0 : Int)) ∧ (a0 ≤ (59 : Int)))) : (0 ≤ (((5 * a0) + 1) : Int)) := by omega
theorem ow_81_135 {a0 : Int} (h0 : ((0 ≤ (a0 : Int)) ∧ (a0 ≤ (59 : Int)))) : (((5 * a0) + 1) < (((300 : Nat) : Int) : Int)) := by omega
theorem ow_81_136 {a0 : Int} (h0 : ((0 ≤ (a0 : Int)) ∧ (a0 ≤ (59 : Int)))) : ((((5 * a0) + 2) : Int).toNat < (300 : Nat)) := by omega
theorem ow_81_137 {a0 : Int} (h0 : ((0 ≤ (a0 : Int)) ∧ (a0 ≤ (59 : Int)))) : (0 ≤ (((5 * a0) + 2) : Int)) := by omega
theorem ow_81_138 {a0 : Int} (h0 : ((0 ≤ (a0 : Int)) ∧ (a0 ≤ (59 : Int)))) : (((5 * a0) + 2) < (((300 : Nat) : Int) : Int)) := by omega
theorem ow_81_139 {a0 : Int} (h0 : ((0 ≤ (a0 : Int)) ∧ ((a0 ≤ (999 : Int)) ∧ (((a0 % 10) ≤ (8 : Int)) ∧ (((a0 / 10) % 10) ≤ (8 : Int)))))) : (0 ≤ (a0 : Int)) := by omega
theorem ow_81_140 {a0 : Int} (h0 : ((0 ≤ (a0 : Int)) ∧ ((a0 ≤ (999 : Int)) ∧ (((a0 % 10) ≤ (8 : Int)) ∧ (((a0 / 10) % 10) ≤ (8 : Int)))))) : (a0 ≤ (999 : Int)) := by omega
theorem ow_81_141 {a0 : Int} (h0 : ((0 ≤ (a0 : Int)) ∧ (a0 ≤ (99 : Int)))) : (a0 ≤ (99 : Int)) := by omega
theorem ow_81_142 {a0 : Int} (h0 : (((-99) ≤ (a0 : Int)) ∧ (a0 ≤ (99 : Int)))) : ((-99) ≤ (a0 : Int)) := by omega
theorem ow_81_143 {a0 : Int} (h0 : (((-99) ≤ (a0 : Int)) ∧ (a0 ≤ (99 : Int)))) : (a0 ≤ (99 : Int)) := by omega
theorem ow_81_144 {a0 : Int} (h0 : ((0 ≤ (a0 : Int)) ∧ ((a0 ≤ (999 : Int)) ∧ (((a0 % 10) ≤ (8 : Int)) ∧ (((a0 / 10) % 10) ≤ (8 : Int)))))) : (((a0 % 10) ≤ (8 : Int)) ∧ (((a0 / 10) % 10) ≤ (8 : Int))) := by omega
theorem ow_81_145 {a0 : Int} (h0 : ((1 ≤ (a0 : Int)) ∧ (a0 ≤ (171 : Int)))) : (1 ≤ (a0 : Int)) := by omega
theorem ow_81_146 {a0 : Int} (h0 : ((1 ≤ (a0 : Int)) ∧ (a0 ≤ (171 : Int)))) : (a0 ≤ (171 : Int)) := by omega
noncomputable def F_X12_works (a1 a2 a3 : Int) (V0 : pm_M) : Int × pm_M := pf_let (V0 90 16) fun y1 => pf_let (V0 98 (0 : Int).toNat) fun y5 => pf_let (V0 100 ((4 * (a1 / 100)) : Int).toNat) fun y9 => pf_let (V0 98 (1 : Int).toNat) fun y12 => pf_let ((y12 * (a2 / 10))) fun y15 => pf_let (pm_mx 1 ((y5 + y9) + y15)) fun y17 => pf_let (V0 98 (2 : Int).toNat) fun y20 => pf_let (V0 100 (((4 * (a1 / 100)) + 1) : Int).toNat) fun y23 => pf_let (V0 98 (3 : Int).toNat) fun y26 => pf_let ((y26 * (a2 % 10))) fun y29 => pf_let (pm_mx 1 ((y20 + y23) + y29)) fun y31 => pf_let (V0 90 20) fun y34 => pf_let (pm_mx 1 (y34 / 2)) fun y37 => pf_let (V0 100 (((4 * (a1 / 100)) + 2) : Int).toNat) fun y40 => (if a3 < 0 then (pf_let (((-a3) / y37)) fun y44 => pf_let (pm_mx 0 (y40 - y44)) fun y46 => pf_let ((pm_up (pm_up (pm_up (pm_up (pm_up (pm_up (pm_up (pm_up V0 90 48 ((a1 / 10) % 10)) 90 49 (a1 % 10)) 90 42 y17) 90 43 y31) 90 47 y46) 90 44 0) 90 45 0) 90 46 0)) fun V49 => pf_val ((0 : Int), V0) (fun (q : Int × pm_M) => match q with | (x66, V68) => ((if y1 ≤ x66 then ((.inr (0, V68))) else (pf_let (V68 90 44) fun y98 => pf_let (V68 90 45) fun y101 => pf_let (V68 90 46) fun y104 => pf_let (V68 97 (((3 * x66) + 2) : Int).toNat) fun y109 => pf_call (F_X12_x x66 V68) fun y115 _ => pf_call (F_X12_x ((a1 / 10) % 10) V68) fun y121 _ => pf_call (F_X12_far (y115 - y121) V68) fun y127 _ => pf_call (F_X12_y x66 V68) fun y133 _ => pf_call (F_X12_y ((a1 / 10) % 10) V68) fun y139 _ => pf_call (F_X12_far (y133 - y139) V68) fun y145 _ => pf_let ((y109 * ((y17 - y127) - y145))) fun y148 => pf_let (pm_mx 0 y148) fun y150 => pf_call (F_X12_x x66 (pm_up V68 110 (x66 : Int).toNat y150)) fun y158 _ => pf_call (F_X12_x (a1 % 10) (pm_up V68 110 (x66 : Int).toNat y150)) fun y164 _ => pf_call (F_X12_far (y158 - y164) (pm_up V68 110 (x66 : Int).toNat y150)) fun y170 _ => pf_let (pm_mx 0 (y31 - y170)) fun y173 => pf_let ((pm_up (pm_up V68 110 (x66 : Int).toNat y150) 111 (x66 : Int).toNat y173)) fun V177 => pf_let (V177 110 (x66 : Int).toNat) fun y197 => pf_let (V177 111 (x66 : Int).toNat) fun y200 => pf_let ((y197 * y200)) fun y203 => pf_let (x66 + 1) fun x205 => (.inl (x205, (pm_up (pm_up (pm_up V177 90 44 (y98 + y197)) 90 45 (y101 + y200)) 90 46 (y104 + y203)))))))) (0, V49)) else (pf_let ((a3 / y34)) fun y207 => pf_let (pm_mx 0 (y40 - y207)) fun y209 => pf_let ((pm_up (pm_up (pm_up (pm_up (pm_up (pm_up (pm_up (pm_up V0 90 48 ((a1 / 10) % 10)) 90 49 (a1 % 10)) 90 42 y17) 90 43 y31) 90 47 y209) 90 44 0) 90 45 0) 90 46 0)) fun V212 => pf_val ((0 : Int), V0) (fun (q : Int × pm_M) => match q with | (x229, V231) => ((if y1 ≤ x229 then ((.inr (0, V231))) else (pf_let (V231 90 44) fun y261 => pf_let (V231 90 45) fun y264 => pf_let (V231 90 46) fun y267 => pf_let (V231 97 (((3 * x229) + 2) : Int).toNat) fun y272 => pf_call (F_X12_x x229 V231) fun y278 _ => pf_call (F_X12_x ((a1 / 10) % 10) V231) fun y284 _ => pf_call (F_X12_far (y278 - y284) V231) fun y290 _ => pf_call (F_X12_y x229 V231) fun y296 _ => pf_call (F_X12_y ((a1 / 10) % 10) V231) fun y302 _ => pf_call (F_X12_far (y296 - y302) V231) fun y308 _ => pf_let ((y272 * ((y17 - y290) - y308))) fun y311 => pf_let (pm_mx 0 y311) fun y313 => pf_call (F_X12_x x229 (pm_up V231 110 (x229 : Int).toNat y313)) fun y321 _ => pf_call (F_X12_x (a1 % 10) (pm_up V231 110 (x229 : Int).toNat y313)) fun y327 _ => pf_call (F_X12_far (y321 - y327) (pm_up V231 110 (x229 : Int).toNat y313)) fun y333 _ => pf_let (pm_mx 0 (y31 - y333)) fun y336 => pf_let ((pm_up (pm_up V231 110 (x229 : Int).toNat y313) 111 (x229 : Int).toNat y336)) fun V340 => pf_let (V340 110 (x229 : Int).toNat) fun y360 => pf_let (V340 111 (x229 : Int).toNat) fun y363 => pf_let ((y360 * y363)) fun y366 => pf_let (x229 + 1) fun x368 => (.inl (x368, (pm_up (pm_up (pm_up V340 90 44 (y261 + y360)) 90 45 (y264 + y363)) 90 46 (y267 + y366)))))))) (0, V212)))
theorem F_X12_works_eq (a1 a2 a3 : Int) (V0 : pm_M) : F_X12_works a1 a2 a3 V0 = pf_let (V0 90 16) fun y1 => pf_let (V0 98 (0 : Int).toNat) fun y5 => pf_let (V0 100 ((4 * (a1 / 100)) : Int).toNat) fun y9 => pf_let (V0 98 (1 : Int).toNat) fun y12 => pf_let ((y12 * (a2 / 10))) fun y15 => pf_let (pm_mx 1 ((y5 + y9) + y15)) fun y17 => pf_let (V0 98 (2 : Int).toNat) fun y20 => pf_let (V0 100 (((4 * (a1 / 100)) + 1) : Int).toNat) fun y23 => pf_let (V0 98 (3 : Int).toNat) fun y26 => pf_let ((y26 * (a2 % 10))) fun y29 => pf_let (pm_mx 1 ((y20 + y23) + y29)) fun y31 => pf_let (V0 90 20) fun y34 => pf_let (pm_mx 1 (y34 / 2)) fun y37 => pf_let (V0 100 (((4 * (a1 / 100)) + 2) : Int).toNat) fun y40 => (if a3 < 0 then (pf_let (((-a3) / y37)) fun y44 => pf_let (pm_mx 0 (y40 - y44)) fun y46 => pf_let ((pm_up (pm_up (pm_up (pm_up (pm_up (pm_up (pm_up (pm_up V0 90 48 ((a1 / 10) % 10)) 90 49 (a1 % 10)) 90 42 y17) 90 43 y31) 90 47 y46) 90 44 0) 90 45 0) 90 46 0)) fun V49 => pf_val ((0 : Int), V0) (fun (q : Int × pm_M) => match q with | (x66, V68) => ((if y1 ≤ x66 then ((.inr (0, V68))) else (pf_let (V68 90 44) fun y98 => pf_let (V68 90 45) fun y101 => pf_let (V68 90 46) fun y104 => pf_let (V68 97 (((3 * x66) + 2) : Int).toNat) fun y109 => pf_call (F_X12_x x66 V68) fun y115 _ => pf_call (F_X12_x ((a1 / 10) % 10) V68) fun y121 _ => pf_call (F_X12_far (y115 - y121) V68) fun y127 _ => pf_call (F_X12_y x66 V68) fun y133 _ => pf_call (F_X12_y ((a1 / 10) % 10) V68) fun y139 _ => pf_call (F_X12_far (y133 - y139) V68) fun y145 _ => pf_let ((y109 * ((y17 - y127) - y145))) fun y148 => pf_let (pm_mx 0 y148) fun y150 => pf_call (F_X12_x x66 (pm_up V68 110 (x66 : Int).toNat y150)) fun y158 _ => pf_call (F_X12_x (a1 % 10) (pm_up V68 110 (x66 : Int).toNat y150)) fun y164 _ => pf_call (F_X12_far (y158 - y164) (pm_up V68 110 (x66 : Int).toNat y150)) fun y170 _ => pf_let (pm_mx 0 (y31 - y170)) fun y173 => pf_let ((pm_up (pm_up V68 110 (x66 : Int).toNat y150) 111 (x66 : Int).toNat y173)) fun V177 => pf_let (V177 110 (x66 : Int).toNat) fun y197 => pf_let (V177 111 (x66 : Int).toNat) fun y200 => pf_let ((y197 * y200)) fun y203 => pf_let (x66 + 1) fun x205 => (.inl (x205, (pm_up (pm_up (pm_up V177 90 44 (y98 + y197)) 90 45 (y101 + y200)) 90 46 (y104 + y203)))))))) (0, V49)) else (pf_let ((a3 / y34)) fun y207 => pf_let (pm_mx 0 (y40 - y207)) fun y209 => pf_let ((pm_up (pm_up (pm_up (pm_up (pm_up (pm_up (pm_up (pm_up V0 90 48 ((a1 / 10) % 10)) 90 49 (a1 % 10)) 90 42 y17) 90 43 y31) 90 47 y209) 90 44 0) 90 45 0) 90 46 0)) fun V212 => pf_val ((0 : Int), V0) (fun (q : Int × pm_M) => match q with | (x229, V231) => ((if y1 ≤ x229 then ((.inr (0, V231))) else (pf_let (V231 90 44) fun y261 => pf_let (V231 90 45) fun y264 => pf_let (V231 90 46) fun y267 => pf_let (V231 97 (((3 * x229) + 2) : Int).toNat) fun y272 => pf_call (F_X12_x x229 V231) fun y278 _ => pf_call (F_X12_x ((a1 / 10) % 10) V231) fun y284 _ => pf_call (F_X12_far (y278 - y284) V231) fun y290 _ => pf_call (F_X12_y x229 V231) fun y296 _ => pf_call (F_X12_y ((a1 / 10) % 10) V231) fun y302 _ => pf_call (F_X12_far (y296 - y302) V231) fun y308 _ => pf_let ((y272 * ((y17 - y290) - y308))) fun y311 => pf_let (pm_mx 0 y311) fun y313 => pf_call (F_X12_x x229 (pm_up V231 110 (x229 : Int).toNat y313)) fun y321 _ => pf_call (F_X12_x (a1 % 10) (pm_up V231 110 (x229 : Int).toNat y313)) fun y327 _ => pf_call (F_X12_far (y321 - y327) (pm_up V231 110 (x229 : Int).toNat y313)) fun y333 _ => pf_let (pm_mx 0 (y31 - y333)) fun y336 => pf_let ((pm_up (pm_up V231 110 (x229 : Int).toNat y313) 111 (x229 : Int).toNat y336)) fun V340 => pf_let (V340 110 (x229 : Int).toNat) fun y360 => pf_let (V340 111 (x229 : Int).toNat) fun y363 => pf_let ((y360 * y363)) fun y366 => pf_let (x229 + 1) fun x368 => (.inl (x368, (pm_up (pm_up (pm_up V340 90 44 (y261 + y360)) 90 45 (y264 + y363)) 90 46 (y267 + y366)))))))) (0, V212))) := rfl
noncomputable def F_X12_worksAnswer (a1 : Int) (V0 : pm_M) : Int × pm_M := pf_let (V0 90 25) fun y1 => pf_let (V0 101 ((5 * a1) : Int).toNat) fun y5 => pf_let (V0 101 (((5 * a1) + 1) : Int).toNat) fun y8 => pf_let (V0 101 (((5 * a1) + 2) : Int).toNat) fun y11 => pf_call (F_X12_works y5 y8 y11 V0) fun _ V15 => pf_let (V15 90 42) fun z29 => pf_let (V15 90 43) fun z31 => (0, V15)
theorem F_X12_worksAnswer_eq (a1 : Int) (V0 : pm_M) : F_X12_worksAnswer a1 V0 = pf_let (V0 90 25) fun y1 => pf_let (V0 101 ((5 * a1) : Int).toNat) fun y5 => pf_let (V0 101 (((5 * a1) + 1) : Int).toNat) fun y8 => pf_let (V0 101 (((5 * a1) + 2) : Int).toNat) fun y11 => pf_call (F_X12_works y5 y8 y11 V0) fun _ V15 => pf_let (V15 90 42) fun z29 => pf_let (V15 90 43) fun z31 => (0, V15) := rfl
set_option maxHeartbeats 4000000 in
set_option maxRecDepth 100000 in
theorem fB_X12_works (a1 a2 a3 : Int) (h0 : 0 ≤ a1 ∧ a1 ≤ 999) (h1 : 0 ≤ a2 ∧ a2 ≤ 99) (h2 : (-99) ≤ a3 ∧ a3 ≤ 99) (h3 : a1 % 10 ≤ 8 ∧ a1 / 10 % 10 ≤ 8) : pm_K 2 yX12_works cX12_works 7 none (fun av V => av = [(3, 90), (0, a1), (0, a2), (0, a3)] ∧ pm_oq pm_qB V ∧ (a1 % 10 < V 90 16) ∧ (a1 / 10 % 10 < V 90 16) ∧ pm_h1 V) (fun _ V r V' => r = none ∧ pm_oq pm_qB V' ∧ pm_fs [110, 111] [42, 43, 44, 45, 46, 47, 48, 49] V V' ∧ (1 ≤ V' 90 42 ∧ V' 90 42 ≤ 171) ∧ (1 ≤ V' 90 43 ∧ V' 90 43 ≤ 171) ∧ pm_w1 V' ∧ pm_w3 V' ∧ F_X12_works a1 a2 a3 V = (0, V')) := by
  refine pm_MT.of (by decide) ⟨Nat.le_refl _, by decide⟩ (fun av V h => by rw [h.1]; exact (by decide : pm_words [(3, 0), (0, 0), (0, 0), (0, 0)] ≤ 7)) ?_
  rintro X av V0 hC - hR ⟨rfl, hV0, hmp0, hmp1, hn_pm_h1⟩
  change pm_J X 0 [(0, (3, 90)), (1, (0, a1)), (2, (0, a2)), (3, (0, a3))] [] 118 V0
  have hT := F_X12_works_eq a1 a2 a3 V0
  obtain ⟨y1, e2⟩ : ∃ y, V0 90 16 = y := ⟨_, rfl⟩
  have b3 := hV0.get 90 16 (lo := 2) (hi := 9) (by decide) (by decide) rfl
  rw [e2] at b3
  replace hT := hT.trans (pf_let_eq e2)
  refine pm_iconst (v := 4) hC dX12_works_0 ?_
  refine pm_iload_n hC 1 dX12_works_1 rfl ?_
  refine pm_bipush (v := 100) hC dX12_works_2 (by decide) ?_
  refine pm_idiv hC ⟨by exact ow_81_0 h0, by exact ow_81_1 h0, by exact ow_81_2 h0⟩ ⟨by decide, by decide, by decide⟩ dX12_works_4 ?_
  refine pm_imul hC dX12_works_5 ?_
  refine pm_istore (lv' := [(4, (0, (4 * (a1 / 100)))), (0, (3, 90)), (1, (0, a1)), (2, (0, a2)), (3, (0, a3))]) hC dX12_works_6 (by decide) rfl ?_
  refine pm_aload_n hC 1 (by decide) dX12_works_8 rfl ?_
  refine pm_iload_n hC 2 dX12_works_9 rfl ?_
  refine pm_bipush (v := 10) hC dX12_works_10 (by decide) ?_
  refine pm_idiv hC ⟨by exact ow_81_0 h0, by exact ow_81_1 h0, by exact ow_81_2 h0⟩ ⟨by decide, by decide, by decide⟩ dX12_works_12 ?_
  refine pm_bipush (v := 10) hC dX12_works_13 (by decide) ?_
  refine pm_irem hC ⟨by exact ow_81_3 h0 h3, by exact ow_81_4 h0 h3, by exact ow_81_5 h0⟩ ⟨by decide, by decide, by decide⟩ dX12_works_15 ?_
  refine pm_putf hC 90 fl_X12_305 rfl rfl rfl (by decide) rfl trivial dX12_works_16 ?_
  refine pm_aload_n hC 1 (by decide) dX12_works_19 rfl ?_
  refine pm_iload_n hC 2 dX12_works_20 rfl ?_
  refine pm_bipush (v := 10) hC dX12_works_21 (by decide) ?_
  refine pm_irem hC ⟨by exact ow_81_0 h0, by exact ow_81_1 h0, by exact ow_81_2 h0⟩ ⟨by decide, by decide, by decide⟩ dX12_works_23 ?_
  refine pm_putf hC 90 fl_X12_308 rfl rfl rfl (by decide) rfl trivial dX12_works_24 ?_
  refine pm_aload_n hC 1 (by decide) dX12_works_27 rfl ?_
  refine pm_iconst (v := 1) hC dX12_works_28 ?_
  refine pm_aload_n hC 1 (by decide) dX12_works_29 rfl ?_
  have e4 : V0 90 18 = 98 := hV0.one 90 18 (by decide) (by decide) rfl
  refine pm_getf (v := 98) hC 90 fl_X12_34 rfl rfl (by decide) rfl e4 dX12_works_30 ?_
  refine pm_iconst (v := 0) hC dX12_works_33 ?_
  obtain ⟨y5, e6⟩ : ∃ y, V0 98 (0 : Int).toNat = y := ⟨_, rfl⟩
  replace hT := hT.trans (pf_let_eq e6)
  have b7 := hV0.get 98 (0 : Int).toNat (lo := 1) (hi := 60) (t := 0) (by decide) (show _ < 4 by exact ow_81_6) rfl
  rw [e6] at b7
  refine pm_iaload (len := 4) (v := y5) hC 98 rfl rfl (by decide) ⟨by decide, by decide⟩ (by decide) e6 dX12_works_34 ?_
  refine pm_aload_n hC 1 (by decide) dX12_works_35 rfl ?_
  have e8 : V0 90 24 = 100 := hV0.one 90 24 (by decide) (by decide) rfl
  refine pm_getf (v := 100) hC 90 fl_X12_40 rfl rfl (by decide) rfl e8 dX12_works_36 ?_
  refine pm_iload hC 0 dX12_works_39 rfl ?_
  obtain ⟨y9, e10⟩ : ∃ y, V0 100 ((4 * (a1 / 100)) : Int).toNat = y := ⟨_, rfl⟩
  replace hT := hT.trans (pf_let_eq e10)
  have b11 := hV0.get 100 ((4 * (a1 / 100)) : Int).toNat (lo := (-30)) (hi := 30) (t := 0) (by decide) (show _ < 40 by exact ow_81_7 h0) ((pm_qe_r (tb := pm_qB) (k := 100) (i := ((4 * (a1 / 100)) : Int).toNat) (m := 4) (r := 0) (l := [(-30, 30, 0), (-30, 30, 0), (0, 16, 0), (0, 3, 0)]) rfl rfl (by omega)).trans rfl)
  rw [e10] at b11
  refine pm_iaload (len := 40) (v := y9) hC 100 rfl rfl (by decide) ⟨by exact ow_81_8 h0, by exact ow_81_9 h0⟩ (by decide) e10 dX12_works_41 ?_
  refine pm_iadd hC dX12_works_42 ?_
  refine pm_aload_n hC 1 (by decide) dX12_works_43 rfl ?_
  refine pm_getf (v := 98) hC 90 fl_X12_34 rfl rfl (by decide) rfl e4 dX12_works_44 ?_
  refine pm_iconst (v := 1) hC dX12_works_47 ?_
  obtain ⟨y12, e13⟩ : ∃ y, V0 98 (1 : Int).toNat = y := ⟨_, rfl⟩
  replace hT := hT.trans (pf_let_eq e13)
  have b14 := hV0.get 98 (1 : Int).toNat (lo := 0) (hi := 9) (t := 0) (by decide) (show _ < 4 by exact ow_81_10) rfl
  rw [e13] at b14
  refine pm_iaload (len := 4) (v := y12) hC 98 rfl rfl (by decide) ⟨by decide, by decide⟩ (by decide) e13 dX12_works_48 ?_
  refine pm_iload_n hC 3 dX12_works_49 rfl ?_
  refine pm_bipush (v := 10) hC dX12_works_50 (by decide) ?_
  refine pm_idiv hC ⟨by exact ow_81_11 h1, by exact ow_81_12 h1, by exact ow_81_13 h1⟩ ⟨by decide, by decide, by decide⟩ dX12_works_52 ?_
  refine pm_imul hC dX12_works_53 ?_
  have b16 : 0 ≤ (y12 * (a2 / 10)) ∧ (y12 * (a2 / 10)) ≤ 81 := pm_mulb (by exact ow_81_14 b14) (by exact ow_81_15 h1) (show y12 ≤ 9 by exact ow_81_16 b14) (show (a2 / 10) ≤ 9 by exact ow_81_17 h1) (by decide)
  obtain ⟨y15, hey15⟩ : ∃ z, (y12 * (a2 / 10)) = z := ⟨_, rfl⟩
  rw [hey15] at b16 ⊢
  replace hT := hT.trans (pf_let_eq hey15)
  refine pm_iadd hC dX12_works_54 ?_
  refine pm_mmax hC 7047 4012 1018 4013 ⟨by decide, by decide⟩ ⟨by exact ow_81_18 b7 b11 b16, by exact ow_81_19 b7 b11 b16⟩ (by decide) wL_X12_311 wS_mmax wI_math wC_mmax (Nat.le_of_ble_eq_true rfl) dX12_works_55 (fun y17 b18 => ?_)
  have he19 : pm_mx 1 ((y5 + y9) + y15) = y17 := pm_mx_of b18
  replace b18 : 1 ≤ y17 ∧ y17 ≤ 171 ∧ 1 ≤ y17 ∧ ((y5 + y9) + y15) ≤ y17 := ⟨by exact ow_81_20 b18, by exact ow_81_21 b7 b11 b16 b18, b18.1, b18.2.1⟩
  replace hT := hT.trans (pf_let_eq he19)
  refine pm_putf hC 90 fl_X12_317 rfl rfl rfl (by decide) rfl trivial dX12_works_58 ?_
  refine pm_aload_n hC 1 (by decide) dX12_works_61 rfl ?_
  refine pm_iconst (v := 1) hC dX12_works_62 ?_
  refine pm_aload_n hC 1 (by decide) dX12_works_63 rfl ?_
  refine pm_getf (v := 98) hC 90 fl_X12_34 rfl rfl (by decide) rfl e4 dX12_works_64 ?_
  refine pm_iconst (v := 2) hC dX12_works_67 ?_
  obtain ⟨y20, e21⟩ : ∃ y, V0 98 (2 : Int).toNat = y := ⟨_, rfl⟩
  replace hT := hT.trans (pf_let_eq e21)
  have b22 := hV0.get 98 (2 : Int).toNat (lo := 1) (hi := 60) (t := 0) (by decide) (show _ < 4 by exact ow_81_22) rfl
  rw [e21] at b22
  refine pm_iaload (len := 4) (v := y20) hC 98 rfl rfl (by decide) ⟨by decide, by decide⟩ (by decide) e21 dX12_works_68 ?_
  refine pm_aload_n hC 1 (by decide) dX12_works_69 rfl ?_
  refine pm_getf (v := 100) hC 90 fl_X12_40 rfl rfl (by decide) rfl e8 dX12_works_70 ?_
  refine pm_iload hC 0 dX12_works_73 rfl ?_
  refine pm_iconst (v := 1) hC dX12_works_75 ?_
  refine pm_iadd hC dX12_works_76 ?_
  obtain ⟨y23, e24⟩ : ∃ y, V0 100 (((4 * (a1 / 100)) + 1) : Int).toNat = y := ⟨_, rfl⟩
  replace hT := hT.trans (pf_let_eq e24)
  have b25 := hV0.get 100 (((4 * (a1 / 100)) + 1) : Int).toNat (lo := (-30)) (hi := 30) (t := 0) (by decide) (show _ < 40 by omega) ((pm_qe_r (tb := pm_qB) (k := 100) (i := (((4 * (a1 / 100)) + 1) : Int).toNat) (m := 4) (r := 1) (l := [(-30, 30, 0), (-30, 30, 0), (0, 16, 0), (0, 3, 0)]) rfl rfl (by omega)).trans rfl)
  rw [e24] at b25
  refine pm_iaload (len := 40) (v := y23) hC 100 rfl rfl (by decide) ⟨by exact ow_81_23 h0, by omega⟩ (by decide) e24 dX12_works_77 ?_
  refine pm_iadd hC dX12_works_78 ?_
  refine pm_aload_n hC 1 (by decide) dX12_works_79 rfl ?_
  refine pm_getf (v := 98) hC 90 fl_X12_34 rfl rfl (by decide) rfl e4 dX12_works_80 ?_
  refine pm_iconst (v := 3) hC dX12_works_83 ?_
  obtain ⟨y26, e27⟩ : ∃ y, V0 98 (3 : Int).toNat = y := ⟨_, rfl⟩
  replace hT := hT.trans (pf_let_eq e27)
  have b28 := hV0.get 98 (3 : Int).toNat (lo := 0) (hi := 9) (t := 0) (by decide) (show _ < 4 by exact ow_81_24) rfl
  rw [e27] at b28
  refine pm_iaload (len := 4) (v := y26) hC 98 rfl rfl (by decide) ⟨by decide, by decide⟩ (by decide) e27 dX12_works_84 ?_
  refine pm_iload_n hC 3 dX12_works_85 rfl ?_
  refine pm_bipush (v := 10) hC dX12_works_86 (by decide) ?_
  refine pm_irem hC ⟨by exact ow_81_11 h1, by exact ow_81_12 h1, by exact ow_81_13 h1⟩ ⟨by decide, by decide, by decide⟩ dX12_works_88 ?_
  refine pm_imul hC dX12_works_89 ?_
  have b30 : 0 ≤ (y26 * (a2 % 10)) ∧ (y26 * (a2 % 10)) ≤ 81 := pm_mulb (by exact ow_81_14 b28) (by exact ow_81_25) (show y26 ≤ 9 by exact ow_81_16 b28) (show (a2 % 10) ≤ 9 by exact ow_81_26) (by decide)
  obtain ⟨y29, hey29⟩ : ∃ z, (y26 * (a2 % 10)) = z := ⟨_, rfl⟩
  rw [hey29] at b30 ⊢
  replace hT := hT.trans (pf_let_eq hey29)
  refine pm_iadd hC dX12_works_90 ?_
  refine pm_mmax hC 7047 4012 1018 4013 ⟨by decide, by decide⟩ ⟨by exact ow_81_18 b22 b25 b30, by exact ow_81_19 b22 b25 b30⟩ (by decide) wL_X12_311 wS_mmax wI_math wC_mmax (Nat.le_of_ble_eq_true rfl) dX12_works_91 (fun y31 b32 => ?_)
  have he33 : pm_mx 1 ((y20 + y23) + y29) = y31 := pm_mx_of b32
  replace b32 : 1 ≤ y31 ∧ y31 ≤ 171 ∧ 1 ≤ y31 ∧ ((y20 + y23) + y29) ≤ y31 := ⟨by exact ow_81_20 b32, by exact ow_81_21 b22 b25 b30 b32, b32.1, b32.2.1⟩
  replace hT := hT.trans (pf_let_eq he33)
  refine pm_putf hC 90 fl_X12_320 rfl rfl rfl (by decide) rfl trivial dX12_works_94 ?_
  refine pm_iconst (v := 1) hC dX12_works_97 ?_
  refine pm_aload_n hC 1 (by decide) dX12_works_98 rfl ?_
  obtain ⟨y34, e35⟩ : ∃ y, V0 90 20 = y := ⟨_, rfl⟩
  have b36 := hV0.get 90 20 (lo := 1) (hi := 99) (by decide) (by decide) rfl
  rw [e35] at b36
  replace hT := hT.trans (pf_let_eq e35)
  refine pm_getf (v := y34) hC 90 fl_X12_229 rfl rfl (by decide) rfl e35 dX12_works_99 ?_
  refine pm_iconst (v := 2) hC dX12_works_102 ?_
  refine pm_idiv hC ⟨by exact ow_81_27 b36, by exact ow_81_28 b36, by exact ow_81_29 b36⟩ ⟨by decide, by decide, by decide⟩ dX12_works_103 ?_
  refine pm_mmax hC 7047 4012 1018 4013 ⟨by decide, by decide⟩ ⟨by exact ow_81_30 b36, by exact ow_81_31 b36⟩ (by decide) wL_X12_311 wS_mmax wI_math wC_mmax (Nat.le_of_ble_eq_true rfl) dX12_works_104 (fun y37 b38 => ?_)
  have he39 : pm_mx 1 (y34 / 2) = y37 := pm_mx_of b38
  replace b38 : 1 ≤ y37 ∧ y37 ≤ 49 ∧ 1 ≤ y37 ∧ (y34 / 2) ≤ y37 := ⟨by exact ow_81_32 b38, by exact ow_81_33 b36 b38, b38.1, b38.2.1⟩
  replace hT := hT.trans (pf_let_eq he39)
  refine pm_istore (lv' := [(5, (0, y37)), (4, (0, (4 * (a1 / 100)))), (0, (3, 90)), (1, (0, a1)), (2, (0, a2)), (3, (0, a3))]) hC dX12_works_107 (by decide) rfl ?_
  refine pm_aload_n hC 2 (by decide) dX12_works_109 rfl ?_
  refine pm_iconst (v := 0) hC dX12_works_110 ?_
  refine pm_aload_n hC 2 (by decide) dX12_works_111 rfl ?_
  refine pm_getf (v := 100) hC 90 fl_X12_40 rfl rfl (by decide) rfl e8 dX12_works_112 ?_
  refine pm_iload hC 1 dX12_works_115 rfl ?_
  refine pm_iconst (v := 2) hC dX12_works_117 ?_
  refine pm_iadd hC dX12_works_118 ?_
  obtain ⟨y40, e41⟩ : ∃ y, V0 100 (((4 * (a1 / 100)) + 2) : Int).toNat = y := ⟨_, rfl⟩
  replace hT := hT.trans (pf_let_eq e41)
  have b42 := hV0.get 100 (((4 * (a1 / 100)) + 2) : Int).toNat (lo := 0) (hi := 16) (t := 0) (by decide) (show _ < 40 by omega) ((pm_qe_r (tb := pm_qB) (k := 100) (i := (((4 * (a1 / 100)) + 2) : Int).toNat) (m := 4) (r := 2) (l := [(-30, 30, 0), (-30, 30, 0), (0, 16, 0), (0, 3, 0)]) rfl rfl (by omega)).trans rfl)
  rw [e41] at b42
  refine pm_iaload (len := 40) (v := y40) hC 100 rfl rfl (by decide) ⟨by exact ow_81_34 h0, by omega⟩ (by decide) e41 dX12_works_119 ?_
  refine pm_iload_n hC 5 dX12_works_120 rfl ?_
  refine pm_if_lt (tgt := 133) hC ⟨by exact ow_81_35 h2, by exact ow_81_36 h2⟩ dX12_works_121 (by decide) (fun c43 => ?_) (fun c43 => ?_)
  · skip
    replace hT := hT.trans (if_pos c43)
    refine pm_iload_n hC 5 dX12_works_133 rfl ?_
    refine pm_ineg hC dX12_works_134 ?_
    refine pm_iload hC 0 dX12_works_135 rfl ?_
    refine pm_idiv hC ⟨by exact ow_81_37 c43, by exact ow_81_38 c43, by exact ow_81_39 h2⟩ ⟨by exact ow_81_40 b38, by exact ow_81_41 b38, by exact ow_81_42 b38⟩ dX12_works_137 ?_
    have b45 := pm_divb (x := (-a3)) (y := y37) (by exact ow_81_37 c43) (by exact ow_81_40 b38)
    obtain ⟨y44, hey44⟩ : ∃ z, ((-a3) / y37) = z := ⟨_, rfl⟩
    rw [hey44] at b45 ⊢
    replace hT := hT.trans (pf_let_eq hey44)
    refine pm_isub hC dX12_works_138 ?_
    refine pm_mmax hC 7047 4012 1018 4013 ⟨by decide, by decide⟩ ⟨by exact ow_81_43 h2 b42 b45, by exact ow_81_44 b42 b45⟩ (by decide) wL_X12_311 wS_mmax wI_math wC_mmax (Nat.le_of_ble_eq_true rfl) dX12_works_139 (fun y46 b47 => ?_)
    have he48 : pm_mx 0 (y40 - y44) = y46 := pm_mx_of b47
    replace b47 : 0 ≤ y46 ∧ y46 ≤ 16 ∧ 0 ≤ y46 ∧ (y40 - y44) ≤ y46 := ⟨by exact ow_81_45 b47, by exact ow_81_46 b42 b45 b47, b47.1, b47.2.1⟩
    replace hT := hT.trans (pf_let_eq he48)
    refine pm_putf hC 90 fl_X12_323 rfl rfl rfl (by decide) rfl trivial dX12_works_142 ?_
    refine pm_aload_n hC 2 (by decide) dX12_works_145 rfl ?_
    refine pm_lconst (x := 0) hC dX12_works_146 rfl ?_
    refine pm_putf hC 90 fl_X12_326 rfl rfl rfl (by decide) rfl trivial dX12_works_147 ?_
    refine pm_aload_n hC 2 (by decide) dX12_works_150 rfl ?_
    refine pm_lconst (x := 0) hC dX12_works_151 rfl ?_
    refine pm_putf hC 90 fl_X12_329 rfl rfl rfl (by decide) rfl trivial dX12_works_152 ?_
    refine pm_aload_n hC 2 (by decide) dX12_works_155 rfl ?_
    refine pm_lconst (x := 0) hC dX12_works_156 rfl ?_
    refine pm_putf hC 90 fl_X12_332 rfl rfl rfl (by decide) rfl trivial dX12_works_157 ?_
    refine pm_iconst (v := 0) hC dX12_works_160 ?_
    refine pm_istore (lv' := [(6, (0, 0)), (5, (0, y37)), (4, (0, (4 * (a1 / 100)))), (0, (3, 90)), (1, (0, a1)), (2, (0, a2)), (3, (0, a3))]) hC dX12_works_161 (by decide) rfl ?_
    have hV51 := ((((((((hV0.put 90 48 (x := ((a1 / 10) % 10)) (lo := 0) (hi := 8) rfl ⟨by exact ow_81_47, by exact ow_81_48 h3⟩).put 90 49 (x := (a1 % 10)) (lo := 0) (hi := 8) rfl ⟨by exact ow_81_25, by exact ow_81_49 h3⟩).put 90 42 (x := y17) (lo := 0) (hi := 171) rfl ⟨by exact ow_81_50 b18, by exact ow_81_51 b18⟩).put 90 43 (x := y31) (lo := 0) (hi := 171) rfl ⟨by exact ow_81_50 b32, by exact ow_81_51 b32⟩).put 90 47 (x := y46) (lo := 0) (hi := 16) rfl ⟨by exact ow_81_52 b47, by exact ow_81_53 b47⟩).put 90 44 (x := 0) (lo := 0) (hi := 13851) rfl ⟨by decide, by decide⟩).put 90 45 (x := 0) (lo := 0) (hi := 1539) rfl ⟨by decide, by decide⟩).put 90 46 (x := 0) (lo := 0) (hi := 2368521) rfl ⟨by decide, by decide⟩)
    have hF52 := (((((((((pm_fs.rf (cs := [110, 111]) (fs := [42, 43, 44, 45, 46, 47, 48, 49]) (V := V0)).upf 48 ((a1 / 10) % 10) rfl).upf 49 (a1 % 10) rfl).upf 42 y17 rfl).upf 43 y31 rfl).upf 47 y46 rfl).upf 44 0 rfl).upf 45 0 rfl).upf 46 0 rfl)
    obtain ⟨V49, hv50⟩ : ∃ V, V = (pm_up (pm_up (pm_up (pm_up (pm_up (pm_up (pm_up (pm_up V0 90 48 ((a1 / 10) % 10)) 90 49 (a1 % 10)) 90 42 y17) 90 43 y31) 90 47 y46) 90 44 0) 90 45 0) 90 46 0) := ⟨_, rfl⟩
    rw [← hv50] at hV51 hF52
    rw [← hv50]
    replace hT := hT.trans (pf_let_eq hv50.symm)
    have e53 : V49 90 16 = y1 := by rw [hv50]; exact e2
    have e54 : V49 90 18 = 98 := by rw [hv50]; exact e4
    have e55 : V49 90 24 = 100 := by rw [hv50]; exact e8
    have e56 : V49 90 20 = y34 := by rw [hv50]; exact e35
    have e57 : V49 90 48 = ((a1 / 10) % 10) := by rw [hv50]; rfl
    have e58 : V49 90 49 = (a1 % 10) := by rw [hv50]; rfl
    have e59 : V49 90 42 = y17 := by rw [hv50]; rfl
    have e60 : V49 90 43 = y31 := by rw [hv50]; rfl
    have e61 : V49 90 47 = y46 := by rw [hv50]; rfl
    have e62 : V49 90 44 = 0 := by rw [hv50]; rfl
    have e63 : V49 90 45 = 0 := by rw [hv50]; rfl
    have e64 : V49 90 46 = 0 := by rw [hv50]; rfl
    have hp65 : pm_h1 V49 := by rw [hv50]; exact (pm_h1.fr hn_pm_h1 rfl rfl)
    obtain ⟨B88, hB89, hT⟩ := pf_loop hT
    have L91 : ∀ (N93 : Nat) (x66 : Int) (V68 : pm_M), (0 ≤ x66 ∧ x66 ≤ 9) → pm_oq pm_qB V68 → pm_fs [110, 111] [42, 43, 44, 45, 46, 47, 48, 49] V0 V68 → V68 90 16 = y1 → V68 90 18 = 98 → V68 90 24 = 100 → V68 90 20 = y34 → V68 90 48 = ((a1 / 10) % 10) → V68 90 49 = (a1 % 10) → V68 90 42 = y17 → V68 90 43 = y31 → V68 90 47 = y46 → pm_h1 V68 → (V68 90 44 ≤ 1539 * x66) → (V68 90 45 ≤ 171 * x66) → (V68 90 46 ≤ 263169 * x66) → (((a1 / 10) % 10) < x66 → 1 ≤ V68 110 (((a1 / 10) % 10)).toNat) → ((a1 % 10) < x66 → 1 ≤ V68 111 ((a1 % 10)).toNat) → (1 ≤ V68 90 46 → ∃ q : Nat, (q : Int) < x66 ∧ 1 ≤ V68 110 q ∧ 1 ≤ V68 111 q) → (x66 ≤ V68 90 16) → F_X12_works a1 a2 a3 V0 = pf_val ((0 : Int), V0) B88 (x66, V68) → (Int.toNat (9 - x66)) = N93 → pm_J X 163 [(0, (3, 90)), (1, (0, a1)), (2, (0, a2)), (3, (0, a3)), (4, (0, (4 * (a1 / 100)))), (5, (0, y37)), (6, (0, x66))] [] 118 V68 := by
      intro N93
      induction N93 using Nat.strongRecOn with
      | _ N93 ih94 =>
      intro x66 V68 b67 hV69 hF70 e71 e72 e73 e74 e75 e76 e77 e78 e79 hp80 hm81 hm82 hm83 hx84 hx85 hx86 hx87 hT hm92
      have hb90 := congrFun hB89 (x66, V68)
      refine pm_iload hC 6 dX12_works_163 rfl ?_
      refine pm_aload_n hC 0 (by decide) dX12_works_165 rfl ?_
      refine pm_getf (v := y1) hC 90 fl_X12_220 rfl rfl (by decide) rfl e71 dX12_works_166 ?_
      refine pm_icmp_ge (tgt := 337) hC ⟨by exact ow_81_54 b67, by exact ow_81_55 b67⟩ ⟨by exact ow_81_56 b3, by exact ow_81_57 b3⟩ dX12_works_169 (by decide) (fun c95 => ?_) (fun c95 => ?_)
      · skip
        replace hb90 := hb90.trans (if_pos c95)
        have q96 : 1 ≤ V68 90 42 ∧ V68 90 42 ≤ 171 := by (have e : V68 90 42 = y17 := e77); rw [e]; exact ⟨by exact ow_81_58 b18, by exact ow_81_51 b18⟩
        have q97 : 1 ≤ V68 90 43 ∧ V68 90 43 ≤ 171 := by (have e : V68 90 43 = y31 := e78); rw [e]; exact ⟨by exact ow_81_58 b32, by exact ow_81_51 b32⟩
        replace hT := hT.trans (pf_val_inr hb90)
        exact pm_vret hC hR ⟨rfl, hV69, hF70, q96, q97, (by unfold pm_w1; rw [e75, e76, e71]; exact ⟨by exact ow_81_47, by exact ow_81_59 hmp1 e2, by exact ow_81_25, by exact ow_81_60 hmp0 e2, hx84 (by exact ow_81_61 hmp1 e2 c95), hx85 (by exact ow_81_62 hmp0 e2 c95)⟩), (by have hle := hx87; rw [e71] at hle; unfold pm_w3; rw [e71]; intro h; obtain ⟨q, q1, q2, q3⟩ := hx86 h; exact ⟨q, by exact ow_81_63 hle q1, q2, q3⟩), hT⟩ dX12_works_337
      · skip
        replace hb90 := hb90.trans (if_neg (Int.not_le.mpr c95))
        obtain ⟨y98, e99⟩ : ∃ y, V68 90 44 = y := ⟨_, rfl⟩
        have b100 := hV69.get 90 44 (lo := 0) (hi := 13851) (by decide) (by decide) rfl
        rw [e99] at b100
        replace hb90 := hb90.trans (pf_let_eq e99)
        obtain ⟨y101, e102⟩ : ∃ y, V68 90 45 = y := ⟨_, rfl⟩
        have b103 := hV69.get 90 45 (lo := 0) (hi := 1539) (by decide) (by decide) rfl
        rw [e102] at b103
        replace hb90 := hb90.trans (pf_let_eq e102)
        obtain ⟨y104, e105⟩ : ∃ y, V68 90 46 = y := ⟨_, rfl⟩
        have b106 := hV69.get 90 46 (lo := 0) (hi := 2368521) (by decide) (by decide) rfl
        rw [e105] at b106
        replace hb90 := hb90.trans (pf_let_eq e105)
        refine pm_aload_n hC 0 (by decide) dX12_works_172 rfl ?_
        have e107 : V68 90 40 = 110 := hV69.one 90 40 (by decide) (by decide) rfl
        refine pm_getf (v := 110) hC 90 fl_X12_70 rfl rfl (by decide) rfl e107 dX12_works_173 ?_
        refine pm_iload hC 6 dX12_works_176 rfl ?_
        refine pm_iconst (v := 0) hC dX12_works_178 ?_
        refine pm_aload_n hC 0 (by decide) dX12_works_179 rfl ?_
        have e108 : V68 90 17 = 97 := hV69.one 90 17 (by decide) (by decide) rfl
        refine pm_getf (v := 97) hC 90 fl_X12_31 rfl rfl (by decide) rfl e108 dX12_works_180 ?_
        refine pm_iconst (v := 3) hC dX12_works_183 ?_
        refine pm_iload hC 6 dX12_works_184 rfl ?_
        refine pm_imul hC dX12_works_186 ?_
        refine pm_iconst (v := 2) hC dX12_works_187 ?_
        refine pm_iadd hC dX12_works_188 ?_
        obtain ⟨y109, e110⟩ : ∃ y, V68 97 (((3 * x66) + 2) : Int).toNat = y := ⟨_, rfl⟩
        replace hb90 := hb90.trans (pf_let_eq e110)
        have b111 := hV69.get 97 (((3 * x66) + 2) : Int).toNat (lo := 0) (hi := 9) (t := 0) (by decide) (show _ < 27 by exact ow_81_64 b3 c95) ((pm_qe_r (tb := pm_qB) (k := 97) (i := (((3 * x66) + 2) : Int).toNat) (m := 3) (r := 2) (l := [(0, 99, 0), (0, 99, 0), (0, 9, 0)]) rfl rfl (by omega)).trans rfl)
        rw [e110] at b111
        refine pm_iaload (len := 27) (v := y109) hC 97 rfl rfl (by decide) ⟨by exact ow_81_65 hm83 e105 b106, by exact ow_81_66 b3 c95⟩ (by decide) e110 dX12_works_189 ?_
        refine pm_aload_n hC 0 (by decide) dX12_works_190 rfl ?_
        refine pm_getf (v := y17) hC 90 fl_X12_317 rfl rfl (by decide) rfl e77 dX12_works_191 ?_
        refine pm_aload_n hC 0 (by decide) dX12_works_194 rfl ?_
        refine pm_iload hC 6 dX12_works_195 rfl ?_
        refine pm_callV (ci := 12) (as := [(0, x66)]) (st := [(0, y17), (0, y109), (0, 0), (0, x66), (3, 110)]) hC 90 (fB_X12_x x66 ⟨by exact ow_81_67 hm83 e105 b106, by exact ow_81_68 b3 c95⟩) lm_X12_335 li_X12_x (by decide) (by decide) rfl rfl rfl (by decide) rfl rfl (Nat.le_of_ble_eq_true rfl) ⟨Nat.le_refl _, Or.inl rfl⟩ dX12_works_197 ⟨rfl, hV69⟩ (fun r112 V113 hp114 => ?_)
        obtain ⟨y115, rfl, b116, rfl, hE117⟩ := hp114
        replace hb90 := hb90.trans (pf_call_eq hE117)
        change pm_J X 200 [(0, (3, 90)), (1, (0, a1)), (2, (0, a2)), (3, (0, a3)), (4, (0, (4 * (a1 / 100)))), (5, (0, y37)), (6, (0, x66))] [(0, y115), (0, y17), (0, y109), (0, 0), (0, x66), (3, 110)] 118 V68
        refine pm_aload_n hC 0 (by decide) dX12_works_200 rfl ?_
        refine pm_aload_n hC 0 (by decide) dX12_works_201 rfl ?_
        refine pm_getf (v := ((a1 / 10) % 10)) hC 90 fl_X12_305 rfl rfl (by decide) rfl e75 dX12_works_202 ?_
        refine pm_callV (ci := 12) (as := [(0, ((a1 / 10) % 10))]) (st := [(0, y115), (0, y17), (0, y109), (0, 0), (0, x66), (3, 110)]) hC 90 (fB_X12_x ((a1 / 10) % 10) ⟨by exact ow_81_47, by exact ow_81_48 h3⟩) lm_X12_335 li_X12_x (by decide) (by decide) rfl rfl rfl (by decide) rfl rfl (Nat.le_of_ble_eq_true rfl) ⟨Nat.le_refl _, Or.inl rfl⟩ dX12_works_205 ⟨rfl, hV69⟩ (fun r118 V119 hp120 => ?_)
        obtain ⟨y121, rfl, b122, rfl, hE123⟩ := hp120
        replace hb90 := hb90.trans (pf_call_eq hE123)
        change pm_J X 208 [(0, (3, 90)), (1, (0, a1)), (2, (0, a2)), (3, (0, a3)), (4, (0, (4 * (a1 / 100)))), (5, (0, y37)), (6, (0, x66))] [(0, y121), (0, y115), (0, y17), (0, y109), (0, 0), (0, x66), (3, 110)] 118 V68
        refine pm_isub hC dX12_works_208 ?_
        refine pm_callS (as := [(0, (y115 - y121))]) (st := [(0, y17), (0, y109), (0, 0), (0, x66), (3, 110)]) hC (fB_X12_far (y115 - y121) ⟨by exact ow_81_69 b116 b122, by exact ow_81_70 b116 b122⟩) lm_X12_338 ls_X12_far (by decide) (by decide) rfl rfl (Nat.le_of_ble_eq_true rfl) ⟨Nat.le_refl _, Or.inl rfl⟩ dX12_works_209 ⟨rfl, hV69⟩ (fun r124 V125 hp126 => ?_)
        obtain ⟨y127, rfl, b128, rfl, hE129⟩ := hp126
        replace hb90 := hb90.trans (pf_call_eq hE129)
        change pm_J X 212 [(0, (3, 90)), (1, (0, a1)), (2, (0, a2)), (3, (0, a3)), (4, (0, (4 * (a1 / 100)))), (5, (0, y37)), (6, (0, x66))] [(0, y127), (0, y17), (0, y109), (0, 0), (0, x66), (3, 110)] 118 V68
        refine pm_isub hC dX12_works_212 ?_
        refine pm_aload_n hC 0 (by decide) dX12_works_213 rfl ?_
        refine pm_iload hC 6 dX12_works_214 rfl ?_
        refine pm_callV (ci := 12) (as := [(0, x66)]) (st := [(0, (y17 - y127)), (0, y109), (0, 0), (0, x66), (3, 110)]) hC 90 (fB_X12_y x66 ⟨by exact ow_81_67 hm83 e105 b106, by exact ow_81_68 b3 c95⟩) lm_X12_341 li_X12_y (by decide) (by decide) rfl rfl rfl (by decide) rfl rfl (Nat.le_of_ble_eq_true rfl) ⟨Nat.le_refl _, Or.inl rfl⟩ dX12_works_216 ⟨rfl, hV69⟩ (fun r130 V131 hp132 => ?_)
        obtain ⟨y133, rfl, b134, rfl, hE135⟩ := hp132
        replace hb90 := hb90.trans (pf_call_eq hE135)
        change pm_J X 219 [(0, (3, 90)), (1, (0, a1)), (2, (0, a2)), (3, (0, a3)), (4, (0, (4 * (a1 / 100)))), (5, (0, y37)), (6, (0, x66))] [(0, y133), (0, (y17 - y127)), (0, y109), (0, 0), (0, x66), (3, 110)] 118 V68
        refine pm_aload_n hC 0 (by decide) dX12_works_219 rfl ?_
        refine pm_aload_n hC 0 (by decide) dX12_works_220 rfl ?_
        refine pm_getf (v := ((a1 / 10) % 10)) hC 90 fl_X12_305 rfl rfl (by decide) rfl e75 dX12_works_221 ?_
        refine pm_callV (ci := 12) (as := [(0, ((a1 / 10) % 10))]) (st := [(0, y133), (0, (y17 - y127)), (0, y109), (0, 0), (0, x66), (3, 110)]) hC 90 (fB_X12_y ((a1 / 10) % 10) ⟨by exact ow_81_47, by exact ow_81_48 h3⟩) lm_X12_341 li_X12_y (by decide) (by decide) rfl rfl rfl (by decide) rfl rfl (Nat.le_of_ble_eq_true rfl) ⟨Nat.le_refl _, Or.inl rfl⟩ dX12_works_224 ⟨rfl, hV69⟩ (fun r136 V137 hp138 => ?_)
        obtain ⟨y139, rfl, b140, rfl, hE141⟩ := hp138
        replace hb90 := hb90.trans (pf_call_eq hE141)
        change pm_J X 227 [(0, (3, 90)), (1, (0, a1)), (2, (0, a2)), (3, (0, a3)), (4, (0, (4 * (a1 / 100)))), (5, (0, y37)), (6, (0, x66))] [(0, y139), (0, y133), (0, (y17 - y127)), (0, y109), (0, 0), (0, x66), (3, 110)] 118 V68
        refine pm_isub hC dX12_works_227 ?_
        refine pm_callS (as := [(0, (y133 - y139))]) (st := [(0, (y17 - y127)), (0, y109), (0, 0), (0, x66), (3, 110)]) hC (fB_X12_far (y133 - y139) ⟨by exact ow_81_69 b134 b140, by exact ow_81_70 b134 b140⟩) lm_X12_338 ls_X12_far (by decide) (by decide) rfl rfl (Nat.le_of_ble_eq_true rfl) ⟨Nat.le_refl _, Or.inl rfl⟩ dX12_works_228 ⟨rfl, hV69⟩ (fun r142 V143 hp144 => ?_)
        obtain ⟨y145, rfl, b146, rfl, hE147⟩ := hp144
        replace hb90 := hb90.trans (pf_call_eq hE147)
        change pm_J X 231 [(0, (3, 90)), (1, (0, a1)), (2, (0, a2)), (3, (0, a3)), (4, (0, (4 * (a1 / 100)))), (5, (0, y37)), (6, (0, x66))] [(0, y145), (0, (y17 - y127)), (0, y109), (0, 0), (0, x66), (3, 110)] 118 V68
        refine pm_isub hC dX12_works_231 ?_
        refine pm_imul hC dX12_works_232 ?_
        have b149 : (-1773) ≤ (y109 * ((y17 - y127) - y145)) ∧ (y109 * ((y17 - y127) - y145)) ≤ 1539 := pm_mulg (a := 0) (b := 9) (c := (-197)) (d := 171) ⟨by exact ow_81_14 b111, by exact ow_81_16 b111⟩ ⟨by (exact ow_81_71 b18 b116 b122 b128 b134 b140 b146), by exact ow_81_72 b18 b128 b146⟩ (by decide) (by decide)
        obtain ⟨y148, hey148⟩ : ∃ z, (y109 * ((y17 - y127) - y145)) = z := ⟨_, rfl⟩
        rw [hey148] at b149 ⊢
        replace hb90 := hb90.trans (pf_let_eq hey148)
        refine pm_mmax hC 7047 4012 1018 4013 ⟨by decide, by decide⟩ ⟨by exact ow_81_73 b149, by exact ow_81_74 b149⟩ (by decide) wL_X12_311 wS_mmax wI_math wC_mmax (Nat.le_of_ble_eq_true rfl) dX12_works_233 (fun y150 b151 => ?_)
        have he152 : pm_mx 0 y148 = y150 := pm_mx_of b151
        replace b151 : 0 ≤ y150 ∧ y150 ≤ 1539 ∧ 0 ≤ y150 ∧ y148 ≤ y150 := ⟨by exact ow_81_75 b151, by exact ow_81_76 b149 b151, b151.1, b151.2.1⟩
        replace hb90 := hb90.trans (pf_let_eq he152)
        have hv153 : ((a1 / 10) % 10) = x66 → 1 ≤ y150 := by
          intro hq
          have q1 : V68 97 (3 * x66).toNat = V68 97 (3 * ((a1 / 10) % 10)).toNat := by rw [hq]
          have q2 : V68 97 (3 * x66 + 1).toNat = V68 97 (3 * ((a1 / 10) % 10) + 1).toNat := by rw [hq]
          have hh := hp80 x66 (by exact ow_81_67 hm83 e105 b106) (by exact ow_81_77 e71 c95)
          have hfz0 : y127 = 0 := pm_far0 b128 (by exact ow_81_78 b116 b122 q1)
          have hfz1 : y145 = 0 := pm_far0 b146 (by exact ow_81_78 b134 b140 q2)
          have hp : 1 ≤ y109 * ((y17 - y127) - y145) := pm_mul1 (by exact ow_81_79 e110 hh) (by exact ow_81_80 b18 hfz0 hfz1)
          omega
        refine pm_iastore (len := 9) hC 110 rfl rfl (by decide) ⟨by exact ow_81_67 hm83 e105 b106, by exact ow_81_81 b3 c95⟩ (by decide) dX12_works_236 ?_
        refine pm_aload_n hC 0 (by decide) dX12_works_237 rfl ?_
        have e154 : V68 90 41 = 111 := hV69.one 90 41 (by decide) (by decide) rfl
        refine pm_getf (v := 111) hC 90 fl_X12_73 rfl rfl (by decide) rfl e154 dX12_works_238 ?_
        refine pm_iload hC 6 dX12_works_241 rfl ?_
        refine pm_iconst (v := 0) hC dX12_works_243 ?_
        refine pm_aload_n hC 0 (by decide) dX12_works_244 rfl ?_
        refine pm_getf (v := y31) hC 90 fl_X12_320 rfl rfl (by decide) rfl e78 dX12_works_245 ?_
        refine pm_aload_n hC 0 (by decide) dX12_works_248 rfl ?_
        refine pm_iload hC 6 dX12_works_249 rfl ?_
        refine pm_callV (ci := 12) (as := [(0, x66)]) (st := [(0, y31), (0, 0), (0, x66), (3, 111)]) hC 90 (fB_X12_x x66 ⟨by exact ow_81_67 hm83 e105 b106, by exact ow_81_68 b3 c95⟩) lm_X12_335 li_X12_x (by decide) (by decide) rfl rfl rfl (by decide) rfl rfl (Nat.le_of_ble_eq_true rfl) ⟨Nat.le_refl _, Or.inl rfl⟩ dX12_works_251 ⟨rfl, (hV69.put 110 (x66 : Int).toNat (x := y150) (lo := 0) (hi := 1539) rfl ⟨by exact ow_81_82 b151, by exact ow_81_83 b151⟩)⟩ (fun r155 V156 hp157 => ?_)
        obtain ⟨y158, rfl, b159, rfl, hE160⟩ := hp157
        replace hb90 := hb90.trans (pf_call_eq hE160)
        change pm_J X 254 [(0, (3, 90)), (1, (0, a1)), (2, (0, a2)), (3, (0, a3)), (4, (0, (4 * (a1 / 100)))), (5, (0, y37)), (6, (0, x66))] [(0, y158), (0, y31), (0, 0), (0, x66), (3, 111)] 118 (pm_up V68 110 (x66 : Int).toNat y150)
        refine pm_aload_n hC 0 (by decide) dX12_works_254 rfl ?_
        refine pm_aload_n hC 0 (by decide) dX12_works_255 rfl ?_
        refine pm_getf (v := (a1 % 10)) hC 90 fl_X12_308 rfl rfl (by decide) rfl e76 dX12_works_256 ?_
        refine pm_callV (ci := 12) (as := [(0, (a1 % 10))]) (st := [(0, y158), (0, y31), (0, 0), (0, x66), (3, 111)]) hC 90 (fB_X12_x (a1 % 10) ⟨by exact ow_81_25, by exact ow_81_49 h3⟩) lm_X12_335 li_X12_x (by decide) (by decide) rfl rfl rfl (by decide) rfl rfl (Nat.le_of_ble_eq_true rfl) ⟨Nat.le_refl _, Or.inl rfl⟩ dX12_works_259 ⟨rfl, (hV69.put 110 (x66 : Int).toNat (x := y150) (lo := 0) (hi := 1539) rfl ⟨by exact ow_81_82 b151, by exact ow_81_83 b151⟩)⟩ (fun r161 V162 hp163 => ?_)
        obtain ⟨y164, rfl, b165, rfl, hE166⟩ := hp163
        replace hb90 := hb90.trans (pf_call_eq hE166)
        change pm_J X 262 [(0, (3, 90)), (1, (0, a1)), (2, (0, a2)), (3, (0, a3)), (4, (0, (4 * (a1 / 100)))), (5, (0, y37)), (6, (0, x66))] [(0, y164), (0, y158), (0, y31), (0, 0), (0, x66), (3, 111)] 118 (pm_up V68 110 (x66 : Int).toNat y150)
        refine pm_isub hC dX12_works_262 ?_
        refine pm_callS (as := [(0, (y158 - y164))]) (st := [(0, y31), (0, 0), (0, x66), (3, 111)]) hC (fB_X12_far (y158 - y164) ⟨by exact ow_81_69 b159 b165, by exact ow_81_70 b159 b165⟩) lm_X12_338 ls_X12_far (by decide) (by decide) rfl rfl (Nat.le_of_ble_eq_true rfl) ⟨Nat.le_refl _, Or.inl rfl⟩ dX12_works_263 ⟨rfl, (hV69.put 110 (x66 : Int).toNat (x := y150) (lo := 0) (hi := 1539) rfl ⟨by exact ow_81_82 b151, by exact ow_81_83 b151⟩)⟩ (fun r167 V168 hp169 => ?_)
        obtain ⟨y170, rfl, b171, rfl, hE172⟩ := hp169
        replace hb90 := hb90.trans (pf_call_eq hE172)
        change pm_J X 266 [(0, (3, 90)), (1, (0, a1)), (2, (0, a2)), (3, (0, a3)), (4, (0, (4 * (a1 / 100)))), (5, (0, y37)), (6, (0, x66))] [(0, y170), (0, y31), (0, 0), (0, x66), (3, 111)] 118 (pm_up V68 110 (x66 : Int).toNat y150)
        refine pm_isub hC dX12_works_266 ?_
        refine pm_mmax hC 7047 4012 1018 4013 ⟨by decide, by decide⟩ ⟨by exact ow_81_84 b32 b171, by exact ow_81_85 b32 b171⟩ (by decide) wL_X12_311 wS_mmax wI_math wC_mmax (Nat.le_of_ble_eq_true rfl) dX12_works_267 (fun y173 b174 => ?_)
        have he175 : pm_mx 0 (y31 - y170) = y173 := pm_mx_of b174
        replace b174 : 0 ≤ y173 ∧ y173 ≤ 171 ∧ 0 ≤ y173 ∧ (y31 - y170) ≤ y173 := ⟨by exact ow_81_45 b174, by exact ow_81_86 b32 b171 b174, b174.1, b174.2.1⟩
        replace hb90 := hb90.trans (pf_let_eq he175)
        have hv176 : (a1 % 10) = x66 → 1 ≤ y173 := by
          intro hq
          have q1 : (pm_up V68 110 (x66 : Int).toNat y150) 97 (3 * x66).toNat = (pm_up V68 110 (x66 : Int).toNat y150) 97 (3 * (a1 % 10)).toNat := by rw [hq]
          have hfz0 : y170 = 0 := pm_far0 b171 (by omega)
          exact ow_81_87 b32 b174 hfz0
        refine pm_iastore (len := 9) hC 111 rfl rfl (by decide) ⟨by exact ow_81_67 hm83 e105 b106, by exact ow_81_81 b3 c95⟩ (by decide) dX12_works_270 ?_
        refine pm_aload_n hC 0 (by decide) dX12_works_271 rfl ?_
        refine pm_dup hC rfl dX12_works_272 ?_
        refine pm_getf (v := y98) hC 90 fl_X12_326 rfl rfl (by decide) rfl e99 dX12_works_273 ?_
        refine pm_aload_n hC 0 (by decide) dX12_works_276 rfl ?_
        refine pm_getf (v := 110) hC 90 fl_X12_70 rfl rfl (by decide) rfl e107 dX12_works_277 ?_
        refine pm_iload hC 6 dX12_works_280 rfl ?_
        have hV179 := ((hV69.put 110 (x66 : Int).toNat (x := y150) (lo := 0) (hi := 1539) rfl ⟨by exact ow_81_82 b151, by exact ow_81_83 b151⟩).put 111 (x66 : Int).toNat (x := y173) (lo := 0) (hi := 171) rfl ⟨by exact ow_81_88 b174, by exact ow_81_89 b174⟩)
        have hF180 := ((hF70.up 110 (x66 : Int).toNat y150 (by decide) rfl).up 111 (x66 : Int).toNat y173 (by decide) rfl)
        obtain ⟨V177, hv178⟩ : ∃ V, V = (pm_up (pm_up V68 110 (x66 : Int).toNat y150) 111 (x66 : Int).toNat y173) := ⟨_, rfl⟩
        rw [← hv178] at hV179 hF180
        rw [← hv178]
        replace hb90 := hb90.trans (pf_let_eq hv178.symm)
        have e181 : V177 90 16 = y1 := by rw [hv178]; exact e71
        have e182 : V177 90 18 = 98 := by rw [hv178]; exact e72
        have e183 : V177 90 24 = 100 := by rw [hv178]; exact e73
        have e184 : V177 90 20 = y34 := by rw [hv178]; exact e74
        have e185 : V177 90 48 = ((a1 / 10) % 10) := by rw [hv178]; exact e75
        have e186 : V177 90 49 = (a1 % 10) := by rw [hv178]; exact e76
        have e187 : V177 90 42 = y17 := by rw [hv178]; exact e77
        have e188 : V177 90 43 = y31 := by rw [hv178]; exact e78
        have e189 : V177 90 47 = y46 := by rw [hv178]; exact e79
        have e190 : V177 90 44 = y98 := by rw [hv178]; exact e99
        have e191 : V177 90 45 = y101 := by rw [hv178]; exact e102
        have e192 : V177 90 46 = y104 := by rw [hv178]; exact e105
        have e193 : V177 90 40 = 110 := by rw [hv178]; exact e107
        have e194 : V177 90 17 = 97 := by rw [hv178]; exact e108
        have e195 : V177 90 41 = 111 := by rw [hv178]; exact e154
        have hp196 : pm_h1 V177 := by rw [hv178]; exact (pm_h1.fr hp80 rfl rfl)
        obtain ⟨y197, e198⟩ : ∃ y, V177 110 (x66 : Int).toNat = y := ⟨_, rfl⟩
        replace hb90 := hb90.trans (pf_let_eq e198)
        have b199 := hV179.get 110 (x66 : Int).toNat (lo := 0) (hi := 1539) (t := 0) (by decide) (show _ < 9 by exact ow_81_90 b3 c95) rfl
        rw [e198] at b199
        refine pm_iaload (len := 9) (v := y197) hC 110 rfl rfl (by decide) ⟨by exact ow_81_67 hm83 e105 b106, by exact ow_81_81 b3 c95⟩ (by decide) e198 dX12_works_282 ?_
        refine pm_i2l hC ⟨by exact ow_81_91 b199, by exact ow_81_92 b199⟩ dX12_works_283 ?_
        refine pm_ladd hC dX12_works_284 ?_
        refine pm_putf hC 90 fl_X12_326 rfl rfl rfl (by decide) rfl trivial dX12_works_285 ?_
        refine pm_aload_n hC 0 (by decide) dX12_works_288 rfl ?_
        refine pm_dup hC rfl dX12_works_289 ?_
        refine pm_getf (v := y101) hC 90 fl_X12_329 rfl rfl (by decide) rfl e191 dX12_works_290 ?_
        refine pm_aload_n hC 0 (by decide) dX12_works_293 rfl ?_
        refine pm_getf (v := 111) hC 90 fl_X12_73 rfl rfl (by decide) rfl e195 dX12_works_294 ?_
        refine pm_iload hC 6 dX12_works_297 rfl ?_
        obtain ⟨y200, e201⟩ : ∃ y, V177 111 (x66 : Int).toNat = y := ⟨_, rfl⟩
        replace hb90 := hb90.trans (pf_let_eq e201)
        have b202 := hV179.get 111 (x66 : Int).toNat (lo := 0) (hi := 171) (t := 0) (by decide) (show _ < 9 by exact ow_81_90 b3 c95) rfl
        rw [e201] at b202
        refine pm_iaload (len := 9) (v := y200) hC 111 rfl rfl (by decide) ⟨by exact ow_81_67 hm83 e105 b106, by exact ow_81_81 b3 c95⟩ (by decide) e201 dX12_works_299 ?_
        refine pm_i2l hC ⟨by exact ow_81_93 b202, by exact ow_81_94 b202⟩ dX12_works_300 ?_
        refine pm_ladd hC dX12_works_301 ?_
        refine pm_putf hC 90 fl_X12_329 rfl rfl rfl (by decide) rfl trivial dX12_works_302 ?_
        refine pm_aload_n hC 0 (by decide) dX12_works_305 rfl ?_
        refine pm_dup hC rfl dX12_works_306 ?_
        refine pm_getf (v := y104) hC 90 fl_X12_332 rfl rfl (by decide) rfl e192 dX12_works_307 ?_
        refine pm_aload_n hC 0 (by decide) dX12_works_310 rfl ?_
        refine pm_getf (v := 110) hC 90 fl_X12_70 rfl rfl (by decide) rfl e193 dX12_works_311 ?_
        refine pm_iload hC 6 dX12_works_314 rfl ?_
        refine pm_iaload (len := 9) (v := y197) hC 110 rfl rfl (by decide) ⟨by exact ow_81_67 hm83 e105 b106, by exact ow_81_81 b3 c95⟩ (by decide) e198 dX12_works_316 ?_
        refine pm_i2l hC ⟨by exact ow_81_91 b199, by exact ow_81_92 b199⟩ dX12_works_317 ?_
        refine pm_aload_n hC 0 (by decide) dX12_works_318 rfl ?_
        refine pm_getf (v := 111) hC 90 fl_X12_73 rfl rfl (by decide) rfl e195 dX12_works_319 ?_
        refine pm_iload hC 6 dX12_works_322 rfl ?_
        refine pm_iaload (len := 9) (v := y200) hC 111 rfl rfl (by decide) ⟨by exact ow_81_67 hm83 e105 b106, by exact ow_81_81 b3 c95⟩ (by decide) e201 dX12_works_324 ?_
        refine pm_i2l hC ⟨by exact ow_81_93 b202, by exact ow_81_94 b202⟩ dX12_works_325 ?_
        refine pm_lmul hC dX12_works_326 ?_
        have b204 : 0 ≤ (y197 * y200) ∧ (y197 * y200) ≤ 263169 := pm_mulb (by exact ow_81_95 b199) (by exact ow_81_96 b202) (show y197 ≤ 1539 by exact ow_81_97 b199) (show y200 ≤ 171 by exact ow_81_98 b202) (by decide)
        obtain ⟨y203, hey203⟩ : ∃ z, (y197 * y200) = z := ⟨_, rfl⟩
        rw [hey203] at b204 ⊢
        replace hb90 := hb90.trans (pf_let_eq hey203)
        refine pm_ladd hC dX12_works_327 ?_
        refine pm_putf hC 90 fl_X12_332 rfl rfl rfl (by decide) rfl trivial dX12_works_328 ?_
        obtain ⟨x205, ei206⟩ : ∃ y : Int, x66 + 1 = y := ⟨_, rfl⟩
        replace hb90 := hb90.trans (pf_let_eq ei206)
        refine pm_iinc (y := x205) (lv' := [(6, (0, x205)), (0, (3, 90)), (1, (0, a1)), (2, (0, a2)), (3, (0, a3)), (4, (0, (4 * (a1 / 100)))), (5, (0, y37))]) hC 6 dX12_works_331 (by decide) rfl ei206 rfl ?_
        refine pm_goto (tgt := 163) hC dX12_works_334 (by decide) ?_
        refine pm_lvsub [1, 2, 3, 4, 5, 6, 0] (lv' := [(0, (3, 90)), (1, (0, a1)), (2, (0, a2)), (3, (0, a3)), (4, (0, (4 * (a1 / 100)))), (5, (0, y37)), (6, (0, x205))]) rfl ?_
        exact ih94 _ (by (exact ow_81_99 b3 hm92 c95 ei206)) x205 (pm_up (pm_up (pm_up V177 90 44 (y98 + y197)) 90 45 (y101 + y200)) 90 46 (y104 + y203)) ⟨by exact ow_81_100 hm83 e105 b106 ei206, by exact ow_81_101 b3 c95 ei206⟩ (((hV179.put 90 44 (x := (y98 + y197)) (lo := 0) (hi := 13851) rfl ⟨by exact ow_81_102 b100 b199, by exact ow_81_103 b3 hm81 c95 e99 b199⟩).put 90 45 (x := (y101 + y200)) (lo := 0) (hi := 1539) rfl ⟨by exact ow_81_104 b103 b202, by exact ow_81_105 b3 hm82 c95 e102 b202⟩).put 90 46 (x := (y104 + y203)) (lo := 0) (hi := 2368521) rfl ⟨by exact ow_81_106 b106 b204, by omega⟩) (((hF180.upf 44 (y98 + y197) rfl).upf 45 (y101 + y200) rfl).upf 46 (y104 + y203) rfl) e181 e182 e183 e184 e185 e186 e187 e188 e189 (pm_h1.fr hp196 rfl rfl) (show (y98 + y197) ≤ 1539 * x205 by exact ow_81_107 hm81 e99 b199 ei206) (show (y101 + y200) ≤ 171 * x205 by exact ow_81_108 hm82 e102 b202 ei206) (show (y104 + y203) ≤ 263169 * x205 by omega) (fun h => by show 1 ≤ V177 110 (((a1 / 10) % 10)).toNat; rw [hv178]; exact pm_up_get (V := V68) (k := 110) (i := x66) (a := ((a1 / 10) % 10)) (x := y150) (p := fun z => 1 ≤ z) (by exact ow_81_67 hm83 e105 b106) (by exact ow_81_47) hv153 (fun hne => hx84 (by exact ow_81_109 ei206 h hne))) (fun h => by show 1 ≤ V177 111 ((a1 % 10)).toNat; rw [hv178]; exact pm_up_get (V := V68) (k := 111) (i := x66) (a := (a1 % 10)) (x := y173) (p := fun z => 1 ≤ z) (by exact ow_81_67 hm83 e105 b106) (by exact ow_81_25) hv176 (fun hne => hx85 (by exact ow_81_110 ei206 h hne))) (fun h => by have h9 : 1 ≤ (y104 + y203) := h; (by_cases hy : 1 ≤ y203); (have hm : y197 * y200 = y203 := hey203; obtain ⟨m1, m2⟩ := pm_mulpos (x := y197) (y := y200) (by exact ow_81_95 b199) (by exact ow_81_96 b202) (by rw [hm]; exact hy); exact ⟨((x66) : Int).toNat, by exact ow_81_111 hm83 e105 b106 ei206, by (show 1 ≤ V177 110 ((x66) : Int).toNat; rw [e198]; exact m1), by (show 1 ≤ V177 111 ((x66) : Int).toNat; rw [e201]; exact m2)⟩); (obtain ⟨q, q1, q2, q3⟩ := hx86 (by (have h46 : V68 90 46 = V177 90 46 := by rw [hv178]; rfl); rw [h46, e192]; exact ow_81_112 h9 hy); exact ⟨q, by exact ow_81_113 ei206 q1, by (show 1 ≤ V177 110 q; rw [hv178, pm_up_c (by decide), pm_up_i (by exact ow_81_114 q1)]; exact q2), by (show 1 ≤ V177 111 q; rw [hv178, pm_up_i (by exact ow_81_114 q1), pm_up_c (by decide)]; exact q3)⟩)) (by show x205 ≤ V177 90 16; rw [e181]; exact ow_81_115 c95 ei206) (hT.trans (pf_val_inl hb90)) rfl
    refine pm_lvsub [3, 4, 5, 6, 2, 1, 0] (lv' := [(0, (3, 90)), (1, (0, a1)), (2, (0, a2)), (3, (0, a3)), (4, (0, (4 * (a1 / 100)))), (5, (0, y37)), (6, (0, 0))]) rfl ?_
    exact L91 _ 0 V49 ⟨by decide, by decide⟩ hV51 hF52 e53 e54 e55 e56 e57 e58 e59 e60 e61 hp65 (by (have e : V49 90 44 = 0 := e62); rw [e]; exact ow_81_116) (by (have e : V49 90 45 = 0 := e63); rw [e]; exact ow_81_117) (by (have e : V49 90 46 = 0 := e64); rw [e]; exact ow_81_118) (fun h => absurd h (by exact ow_81_119 h)) (fun h => absurd h (by exact ow_81_120 h)) (fun h => absurd h (by rw [e64]; decide)) (by rw [e53]; exact ow_81_121 b3) hT rfl
  · skip
    replace hT := hT.trans (if_neg (Int.not_lt.mpr c43))
    refine pm_iload_n hC 5 dX12_works_124 rfl ?_
    refine pm_aload_n hC 2 (by decide) dX12_works_125 rfl ?_
    refine pm_getf (v := y34) hC 90 fl_X12_229 rfl rfl (by decide) rfl e35 dX12_works_126 ?_
    refine pm_idiv hC ⟨by exact ow_81_122 c43, by exact ow_81_123 c43, by exact ow_81_36 h2⟩ ⟨by exact ow_81_124 b36, by exact ow_81_28 b36, by exact ow_81_29 b36⟩ dX12_works_129 ?_
    have b208 := pm_divb (x := a3) (y := y34) (by exact ow_81_122 c43) (by exact ow_81_124 b36)
    obtain ⟨y207, hey207⟩ : ∃ z, (a3 / y34) = z := ⟨_, rfl⟩
    rw [hey207] at b208 ⊢
    replace hT := hT.trans (pf_let_eq hey207)
    refine pm_goto (tgt := 138) hC dX12_works_130 (by decide) ?_
    refine pm_isub hC dX12_works_138 ?_
    refine pm_mmax hC 7047 4012 1018 4013 ⟨by decide, by decide⟩ ⟨by exact ow_81_125 h2 b42 b208, by exact ow_81_126 b42 b208⟩ (by decide) wL_X12_311 wS_mmax wI_math wC_mmax (Nat.le_of_ble_eq_true rfl) dX12_works_139 (fun y209 b210 => ?_)
    have he211 : pm_mx 0 (y40 - y207) = y209 := pm_mx_of b210
    replace b210 : 0 ≤ y209 ∧ y209 ≤ 16 ∧ 0 ≤ y209 ∧ (y40 - y207) ≤ y209 := ⟨by exact ow_81_45 b210, by exact ow_81_127 b42 b208 b210, b210.1, b210.2.1⟩
    replace hT := hT.trans (pf_let_eq he211)
    refine pm_putf hC 90 fl_X12_323 rfl rfl rfl (by decide) rfl trivial dX12_works_142 ?_
    refine pm_aload_n hC 2 (by decide) dX12_works_145 rfl ?_
    refine pm_lconst (x := 0) hC dX12_works_146 rfl ?_
    refine pm_putf hC 90 fl_X12_326 rfl rfl rfl (by decide) rfl trivial dX12_works_147 ?_
    refine pm_aload_n hC 2 (by decide) dX12_works_150 rfl ?_
    refine pm_lconst (x := 0) hC dX12_works_151 rfl ?_
    refine pm_putf hC 90 fl_X12_329 rfl rfl rfl (by decide) rfl trivial dX12_works_152 ?_
    refine pm_aload_n hC 2 (by decide) dX12_works_155 rfl ?_
    refine pm_lconst (x := 0) hC dX12_works_156 rfl ?_
    refine pm_putf hC 90 fl_X12_332 rfl rfl rfl (by decide) rfl trivial dX12_works_157 ?_
    refine pm_iconst (v := 0) hC dX12_works_160 ?_
    refine pm_istore (lv' := [(6, (0, 0)), (5, (0, y37)), (4, (0, (4 * (a1 / 100)))), (0, (3, 90)), (1, (0, a1)), (2, (0, a2)), (3, (0, a3))]) hC dX12_works_161 (by decide) rfl ?_
    have hV214 := ((((((((hV0.put 90 48 (x := ((a1 / 10) % 10)) (lo := 0) (hi := 8) rfl ⟨by exact ow_81_47, by exact ow_81_48 h3⟩).put 90 49 (x := (a1 % 10)) (lo := 0) (hi := 8) rfl ⟨by exact ow_81_25, by exact ow_81_49 h3⟩).put 90 42 (x := y17) (lo := 0) (hi := 171) rfl ⟨by exact ow_81_50 b18, by exact ow_81_51 b18⟩).put 90 43 (x := y31) (lo := 0) (hi := 171) rfl ⟨by exact ow_81_50 b32, by exact ow_81_51 b32⟩).put 90 47 (x := y209) (lo := 0) (hi := 16) rfl ⟨by exact ow_81_52 b210, by exact ow_81_53 b210⟩).put 90 44 (x := 0) (lo := 0) (hi := 13851) rfl ⟨by decide, by decide⟩).put 90 45 (x := 0) (lo := 0) (hi := 1539) rfl ⟨by decide, by decide⟩).put 90 46 (x := 0) (lo := 0) (hi := 2368521) rfl ⟨by decide, by decide⟩)
    have hF215 := (((((((((pm_fs.rf (cs := [110, 111]) (fs := [42, 43, 44, 45, 46, 47, 48, 49]) (V := V0)).upf 48 ((a1 / 10) % 10) rfl).upf 49 (a1 % 10) rfl).upf 42 y17 rfl).upf 43 y31 rfl).upf 47 y209 rfl).upf 44 0 rfl).upf 45 0 rfl).upf 46 0 rfl)
    obtain ⟨V212, hv213⟩ : ∃ V, V = (pm_up (pm_up (pm_up (pm_up (pm_up (pm_up (pm_up (pm_up V0 90 48 ((a1 / 10) % 10)) 90 49 (a1 % 10)) 90 42 y17) 90 43 y31) 90 47 y209) 90 44 0) 90 45 0) 90 46 0) := ⟨_, rfl⟩
    rw [← hv213] at hV214 hF215
    rw [← hv213]
    replace hT := hT.trans (pf_let_eq hv213.symm)
    have e216 : V212 90 16 = y1 := by rw [hv213]; exact e2
    have e217 : V212 90 18 = 98 := by rw [hv213]; exact e4
    have e218 : V212 90 24 = 100 := by rw [hv213]; exact e8
    have e219 : V212 90 20 = y34 := by rw [hv213]; exact e35
    have e220 : V212 90 48 = ((a1 / 10) % 10) := by rw [hv213]; rfl
    have e221 : V212 90 49 = (a1 % 10) := by rw [hv213]; rfl
    have e222 : V212 90 42 = y17 := by rw [hv213]; rfl
    have e223 : V212 90 43 = y31 := by rw [hv213]; rfl
    have e224 : V212 90 47 = y209 := by rw [hv213]; rfl
    have e225 : V212 90 44 = 0 := by rw [hv213]; rfl
    have e226 : V212 90 45 = 0 := by rw [hv213]; rfl
    have e227 : V212 90 46 = 0 := by rw [hv213]; rfl
    have hp228 : pm_h1 V212 := by rw [hv213]; exact (pm_h1.fr hn_pm_h1 rfl rfl)
    obtain ⟨B251, hB252, hT⟩ := pf_loop hT
    have L254 : ∀ (N256 : Nat) (x229 : Int) (V231 : pm_M), (0 ≤ x229 ∧ x229 ≤ 9) → pm_oq pm_qB V231 → pm_fs [110, 111] [42, 43, 44, 45, 46, 47, 48, 49] V0 V231 → V231 90 16 = y1 → V231 90 18 = 98 → V231 90 24 = 100 → V231 90 20 = y34 → V231 90 48 = ((a1 / 10) % 10) → V231 90 49 = (a1 % 10) → V231 90 42 = y17 → V231 90 43 = y31 → V231 90 47 = y209 → pm_h1 V231 → (V231 90 44 ≤ 1539 * x229) → (V231 90 45 ≤ 171 * x229) → (V231 90 46 ≤ 263169 * x229) → (((a1 / 10) % 10) < x229 → 1 ≤ V231 110 (((a1 / 10) % 10)).toNat) → ((a1 % 10) < x229 → 1 ≤ V231 111 ((a1 % 10)).toNat) → (1 ≤ V231 90 46 → ∃ q : Nat, (q : Int) < x229 ∧ 1 ≤ V231 110 q ∧ 1 ≤ V231 111 q) → (x229 ≤ V231 90 16) → F_X12_works a1 a2 a3 V0 = pf_val ((0 : Int), V0) B251 (x229, V231) → (Int.toNat (9 - x229)) = N256 → pm_J X 163 [(0, (3, 90)), (1, (0, a1)), (2, (0, a2)), (3, (0, a3)), (4, (0, (4 * (a1 / 100)))), (5, (0, y37)), (6, (0, x229))] [] 118 V231 := by
      intro N256
      induction N256 using Nat.strongRecOn with
      | _ N256 ih257 =>
      intro x229 V231 b230 hV232 hF233 e234 e235 e236 e237 e238 e239 e240 e241 e242 hp243 hm244 hm245 hm246 hx247 hx248 hx249 hx250 hT hm255
      have hb253 := congrFun hB252 (x229, V231)
      refine pm_iload hC 6 dX12_works_163 rfl ?_
      refine pm_aload_n hC 0 (by decide) dX12_works_165 rfl ?_
      refine pm_getf (v := y1) hC 90 fl_X12_220 rfl rfl (by decide) rfl e234 dX12_works_166 ?_
      refine pm_icmp_ge (tgt := 337) hC ⟨by exact ow_81_54 b230, by exact ow_81_55 b230⟩ ⟨by exact ow_81_56 b3, by exact ow_81_57 b3⟩ dX12_works_169 (by decide) (fun c258 => ?_) (fun c258 => ?_)
      · skip
        replace hb253 := hb253.trans (if_pos c258)
        have q259 : 1 ≤ V231 90 42 ∧ V231 90 42 ≤ 171 := by (have e : V231 90 42 = y17 := e240); rw [e]; exact ⟨by exact ow_81_58 b18, by exact ow_81_51 b18⟩
        have q260 : 1 ≤ V231 90 43 ∧ V231 90 43 ≤ 171 := by (have e : V231 90 43 = y31 := e241); rw [e]; exact ⟨by exact ow_81_58 b32, by exact ow_81_51 b32⟩
        replace hT := hT.trans (pf_val_inr hb253)
        exact pm_vret hC hR ⟨rfl, hV232, hF233, q259, q260, (by unfold pm_w1; rw [e238, e239, e234]; exact ⟨by exact ow_81_47, by exact ow_81_59 hmp1 e2, by exact ow_81_25, by exact ow_81_60 hmp0 e2, hx247 (by exact ow_81_61 hmp1 e2 c258), hx248 (by exact ow_81_62 hmp0 e2 c258)⟩), (by have hle := hx250; rw [e234] at hle; unfold pm_w3; rw [e234]; intro h; obtain ⟨q, q1, q2, q3⟩ := hx249 h; exact ⟨q, by exact ow_81_63 hle q1, q2, q3⟩), hT⟩ dX12_works_337
      · skip
        replace hb253 := hb253.trans (if_neg (Int.not_le.mpr c258))
        obtain ⟨y261, e262⟩ : ∃ y, V231 90 44 = y := ⟨_, rfl⟩
        have b263 := hV232.get 90 44 (lo := 0) (hi := 13851) (by decide) (by decide) rfl
        rw [e262] at b263
        replace hb253 := hb253.trans (pf_let_eq e262)
        obtain ⟨y264, e265⟩ : ∃ y, V231 90 45 = y := ⟨_, rfl⟩
        have b266 := hV232.get 90 45 (lo := 0) (hi := 1539) (by decide) (by decide) rfl
        rw [e265] at b266
        replace hb253 := hb253.trans (pf_let_eq e265)
        obtain ⟨y267, e268⟩ : ∃ y, V231 90 46 = y := ⟨_, rfl⟩
        have b269 := hV232.get 90 46 (lo := 0) (hi := 2368521) (by decide) (by decide) rfl
        rw [e268] at b269
        replace hb253 := hb253.trans (pf_let_eq e268)
        refine pm_aload_n hC 0 (by decide) dX12_works_172 rfl ?_
        have e270 : V231 90 40 = 110 := hV232.one 90 40 (by decide) (by decide) rfl
        refine pm_getf (v := 110) hC 90 fl_X12_70 rfl rfl (by decide) rfl e270 dX12_works_173 ?_
        refine pm_iload hC 6 dX12_works_176 rfl ?_
        refine pm_iconst (v := 0) hC dX12_works_178 ?_
        refine pm_aload_n hC 0 (by decide) dX12_works_179 rfl ?_
        have e271 : V231 90 17 = 97 := hV232.one 90 17 (by decide) (by decide) rfl
        refine pm_getf (v := 97) hC 90 fl_X12_31 rfl rfl (by decide) rfl e271 dX12_works_180 ?_
        refine pm_iconst (v := 3) hC dX12_works_183 ?_
        refine pm_iload hC 6 dX12_works_184 rfl ?_
        refine pm_imul hC dX12_works_186 ?_
        refine pm_iconst (v := 2) hC dX12_works_187 ?_
        refine pm_iadd hC dX12_works_188 ?_
        obtain ⟨y272, e273⟩ : ∃ y, V231 97 (((3 * x229) + 2) : Int).toNat = y := ⟨_, rfl⟩
        replace hb253 := hb253.trans (pf_let_eq e273)
        have b274 := hV232.get 97 (((3 * x229) + 2) : Int).toNat (lo := 0) (hi := 9) (t := 0) (by decide) (show _ < 27 by exact ow_81_64 b3 c258) ((pm_qe_r (tb := pm_qB) (k := 97) (i := (((3 * x229) + 2) : Int).toNat) (m := 3) (r := 2) (l := [(0, 99, 0), (0, 99, 0), (0, 9, 0)]) rfl rfl (by omega)).trans rfl)
        rw [e273] at b274
        refine pm_iaload (len := 27) (v := y272) hC 97 rfl rfl (by decide) ⟨by exact ow_81_65 hm246 e268 b269, by exact ow_81_66 b3 c258⟩ (by decide) e273 dX12_works_189 ?_
        refine pm_aload_n hC 0 (by decide) dX12_works_190 rfl ?_
        refine pm_getf (v := y17) hC 90 fl_X12_317 rfl rfl (by decide) rfl e240 dX12_works_191 ?_
        refine pm_aload_n hC 0 (by decide) dX12_works_194 rfl ?_
        refine pm_iload hC 6 dX12_works_195 rfl ?_
        refine pm_callV (ci := 12) (as := [(0, x229)]) (st := [(0, y17), (0, y272), (0, 0), (0, x229), (3, 110)]) hC 90 (fB_X12_x x229 ⟨by exact ow_81_67 hm246 e268 b269, by exact ow_81_68 b3 c258⟩) lm_X12_335 li_X12_x (by decide) (by decide) rfl rfl rfl (by decide) rfl rfl (Nat.le_of_ble_eq_true rfl) ⟨Nat.le_refl _, Or.inl rfl⟩ dX12_works_197 ⟨rfl, hV232⟩ (fun r275 V276 hp277 => ?_)
        obtain ⟨y278, rfl, b279, rfl, hE280⟩ := hp277
        replace hb253 := hb253.trans (pf_call_eq hE280)
        change pm_J X 200 [(0, (3, 90)), (1, (0, a1)), (2, (0, a2)), (3, (0, a3)), (4, (0, (4 * (a1 / 100)))), (5, (0, y37)), (6, (0, x229))] [(0, y278), (0, y17), (0, y272), (0, 0), (0, x229), (3, 110)] 118 V231
        refine pm_aload_n hC 0 (by decide) dX12_works_200 rfl ?_
        refine pm_aload_n hC 0 (by decide) dX12_works_201 rfl ?_
        refine pm_getf (v := ((a1 / 10) % 10)) hC 90 fl_X12_305 rfl rfl (by decide) rfl e238 dX12_works_202 ?_
        refine pm_callV (ci := 12) (as := [(0, ((a1 / 10) % 10))]) (st := [(0, y278), (0, y17), (0, y272), (0, 0), (0, x229), (3, 110)]) hC 90 (fB_X12_x ((a1 / 10) % 10) ⟨by exact ow_81_47, by exact ow_81_48 h3⟩) lm_X12_335 li_X12_x (by decide) (by decide) rfl rfl rfl (by decide) rfl rfl (Nat.le_of_ble_eq_true rfl) ⟨Nat.le_refl _, Or.inl rfl⟩ dX12_works_205 ⟨rfl, hV232⟩ (fun r281 V282 hp283 => ?_)
        obtain ⟨y284, rfl, b285, rfl, hE286⟩ := hp283
        replace hb253 := hb253.trans (pf_call_eq hE286)
        change pm_J X 208 [(0, (3, 90)), (1, (0, a1)), (2, (0, a2)), (3, (0, a3)), (4, (0, (4 * (a1 / 100)))), (5, (0, y37)), (6, (0, x229))] [(0, y284), (0, y278), (0, y17), (0, y272), (0, 0), (0, x229), (3, 110)] 118 V231
        refine pm_isub hC dX12_works_208 ?_
        refine pm_callS (as := [(0, (y278 - y284))]) (st := [(0, y17), (0, y272), (0, 0), (0, x229), (3, 110)]) hC (fB_X12_far (y278 - y284) ⟨by exact ow_81_69 b279 b285, by exact ow_81_70 b279 b285⟩) lm_X12_338 ls_X12_far (by decide) (by decide) rfl rfl (Nat.le_of_ble_eq_true rfl) ⟨Nat.le_refl _, Or.inl rfl⟩ dX12_works_209 ⟨rfl, hV232⟩ (fun r287 V288 hp289 => ?_)
        obtain ⟨y290, rfl, b291, rfl, hE292⟩ := hp289
        replace hb253 := hb253.trans (pf_call_eq hE292)
        change pm_J X 212 [(0, (3, 90)), (1, (0, a1)), (2, (0, a2)), (3, (0, a3)), (4, (0, (4 * (a1 / 100)))), (5, (0, y37)), (6, (0, x229))] [(0, y290), (0, y17), (0, y272), (0, 0), (0, x229), (3, 110)] 118 V231
        refine pm_isub hC dX12_works_212 ?_
        refine pm_aload_n hC 0 (by decide) dX12_works_213 rfl ?_
        refine pm_iload hC 6 dX12_works_214 rfl ?_
        refine pm_callV (ci := 12) (as := [(0, x229)]) (st := [(0, (y17 - y290)), (0, y272), (0, 0), (0, x229), (3, 110)]) hC 90 (fB_X12_y x229 ⟨by exact ow_81_67 hm246 e268 b269, by exact ow_81_68 b3 c258⟩) lm_X12_341 li_X12_y (by decide) (by decide) rfl rfl rfl (by decide) rfl rfl (Nat.le_of_ble_eq_true rfl) ⟨Nat.le_refl _, Or.inl rfl⟩ dX12_works_216 ⟨rfl, hV232⟩ (fun r293 V294 hp295 => ?_)
        obtain ⟨y296, rfl, b297, rfl, hE298⟩ := hp295
        replace hb253 := hb253.trans (pf_call_eq hE298)
        change pm_J X 219 [(0, (3, 90)), (1, (0, a1)), (2, (0, a2)), (3, (0, a3)), (4, (0, (4 * (a1 / 100)))), (5, (0, y37)), (6, (0, x229))] [(0, y296), (0, (y17 - y290)), (0, y272), (0, 0), (0, x229), (3, 110)] 118 V231
        refine pm_aload_n hC 0 (by decide) dX12_works_219 rfl ?_
        refine pm_aload_n hC 0 (by decide) dX12_works_220 rfl ?_
        refine pm_getf (v := ((a1 / 10) % 10)) hC 90 fl_X12_305 rfl rfl (by decide) rfl e238 dX12_works_221 ?_
        refine pm_callV (ci := 12) (as := [(0, ((a1 / 10) % 10))]) (st := [(0, y296), (0, (y17 - y290)), (0, y272), (0, 0), (0, x229), (3, 110)]) hC 90 (fB_X12_y ((a1 / 10) % 10) ⟨by exact ow_81_47, by exact ow_81_48 h3⟩) lm_X12_341 li_X12_y (by decide) (by decide) rfl rfl rfl (by decide) rfl rfl (Nat.le_of_ble_eq_true rfl) ⟨Nat.le_refl _, Or.inl rfl⟩ dX12_works_224 ⟨rfl, hV232⟩ (fun r299 V300 hp301 => ?_)
        obtain ⟨y302, rfl, b303, rfl, hE304⟩ := hp301
        replace hb253 := hb253.trans (pf_call_eq hE304)
        change pm_J X 227 [(0, (3, 90)), (1, (0, a1)), (2, (0, a2)), (3, (0, a3)), (4, (0, (4 * (a1 / 100)))), (5, (0, y37)), (6, (0, x229))] [(0, y302), (0, y296), (0, (y17 - y290)), (0, y272), (0, 0), (0, x229), (3, 110)] 118 V231
        refine pm_isub hC dX12_works_227 ?_
        refine pm_callS (as := [(0, (y296 - y302))]) (st := [(0, (y17 - y290)), (0, y272), (0, 0), (0, x229), (3, 110)]) hC (fB_X12_far (y296 - y302) ⟨by exact ow_81_69 b297 b303, by exact ow_81_70 b297 b303⟩) lm_X12_338 ls_X12_far (by decide) (by decide) rfl rfl (Nat.le_of_ble_eq_true rfl) ⟨Nat.le_refl _, Or.inl rfl⟩ dX12_works_228 ⟨rfl, hV232⟩ (fun r305 V306 hp307 => ?_)
        obtain ⟨y308, rfl, b309, rfl, hE310⟩ := hp307
        replace hb253 := hb253.trans (pf_call_eq hE310)
        change pm_J X 231 [(0, (3, 90)), (1, (0, a1)), (2, (0, a2)), (3, (0, a3)), (4, (0, (4 * (a1 / 100)))), (5, (0, y37)), (6, (0, x229))] [(0, y308), (0, (y17 - y290)), (0, y272), (0, 0), (0, x229), (3, 110)] 118 V231
        refine pm_isub hC dX12_works_231 ?_
        refine pm_imul hC dX12_works_232 ?_
        have b312 : (-1773) ≤ (y272 * ((y17 - y290) - y308)) ∧ (y272 * ((y17 - y290) - y308)) ≤ 1539 := pm_mulg (a := 0) (b := 9) (c := (-197)) (d := 171) ⟨by exact ow_81_14 b274, by exact ow_81_16 b274⟩ ⟨by exact ow_81_71 b18 b279 b285 b291 b297 b303 b309, by exact ow_81_72 b18 b291 b309⟩ (by decide) (by decide)
        obtain ⟨y311, hey311⟩ : ∃ z, (y272 * ((y17 - y290) - y308)) = z := ⟨_, rfl⟩
        rw [hey311] at b312 ⊢
        replace hb253 := hb253.trans (pf_let_eq hey311)
        refine pm_mmax hC 7047 4012 1018 4013 ⟨by decide, by decide⟩ ⟨by exact ow_81_73 b312, by exact ow_81_74 b312⟩ (by decide) wL_X12_311 wS_mmax wI_math wC_mmax (Nat.le_of_ble_eq_true rfl) dX12_works_233 (fun y313 b314 => ?_)
        have he315 : pm_mx 0 y311 = y313 := pm_mx_of b314
        replace b314 : 0 ≤ y313 ∧ y313 ≤ 1539 ∧ 0 ≤ y313 ∧ y311 ≤ y313 := ⟨by exact ow_81_75 b314, by exact ow_81_76 b312 b314, b314.1, b314.2.1⟩
        replace hb253 := hb253.trans (pf_let_eq he315)
        have hv316 : ((a1 / 10) % 10) = x229 → 1 ≤ y313 := by
          intro hq
          have q1 : V231 97 (3 * x229).toNat = V231 97 (3 * ((a1 / 10) % 10)).toNat := by rw [hq]
          have q2 : V231 97 (3 * x229 + 1).toNat = V231 97 (3 * ((a1 / 10) % 10) + 1).toNat := by rw [hq]
          have hh := hp243 x229 (by exact ow_81_67 hm246 e268 b269) (by exact ow_81_77 e234 c258)
          have hfz0 : y290 = 0 := pm_far0 b291 (by exact ow_81_78 b279 b285 q1)
          have hfz1 : y308 = 0 := pm_far0 b309 (by exact ow_81_78 b297 b303 q2)
          have hp : 1 ≤ y272 * ((y17 - y290) - y308) := pm_mul1 (by exact ow_81_79 e273 hh) (by exact ow_81_80 b18 hfz0 hfz1)
          omega
        refine pm_iastore (len := 9) hC 110 rfl rfl (by decide) ⟨by exact ow_81_67 hm246 e268 b269, by exact ow_81_81 b3 c258⟩ (by decide) dX12_works_236 ?_
        refine pm_aload_n hC 0 (by decide) dX12_works_237 rfl ?_
        have e317 : V231 90 41 = 111 := hV232.one 90 41 (by decide) (by decide) rfl
        refine pm_getf (v := 111) hC 90 fl_X12_73 rfl rfl (by decide) rfl e317 dX12_works_238 ?_
        refine pm_iload hC 6 dX12_works_241 rfl ?_
        refine pm_iconst (v := 0) hC dX12_works_243 ?_
        refine pm_aload_n hC 0 (by decide) dX12_works_244 rfl ?_
        refine pm_getf (v := y31) hC 90 fl_X12_320 rfl rfl (by decide) rfl e241 dX12_works_245 ?_
        refine pm_aload_n hC 0 (by decide) dX12_works_248 rfl ?_
        refine pm_iload hC 6 dX12_works_249 rfl ?_
        refine pm_callV (ci := 12) (as := [(0, x229)]) (st := [(0, y31), (0, 0), (0, x229), (3, 111)]) hC 90 (fB_X12_x x229 ⟨by exact ow_81_67 hm246 e268 b269, by exact ow_81_68 b3 c258⟩) lm_X12_335 li_X12_x (by decide) (by decide) rfl rfl rfl (by decide) rfl rfl (Nat.le_of_ble_eq_true rfl) ⟨Nat.le_refl _, Or.inl rfl⟩ dX12_works_251 ⟨rfl, (hV232.put 110 (x229 : Int).toNat (x := y313) (lo := 0) (hi := 1539) rfl ⟨by exact ow_81_82 b314, by exact ow_81_83 b314⟩)⟩ (fun r318 V319 hp320 => ?_)
        obtain ⟨y321, rfl, b322, rfl, hE323⟩ := hp320
        replace hb253 := hb253.trans (pf_call_eq hE323)
        change pm_J X 254 [(0, (3, 90)), (1, (0, a1)), (2, (0, a2)), (3, (0, a3)), (4, (0, (4 * (a1 / 100)))), (5, (0, y37)), (6, (0, x229))] [(0, y321), (0, y31), (0, 0), (0, x229), (3, 111)] 118 (pm_up V231 110 (x229 : Int).toNat y313)
        refine pm_aload_n hC 0 (by decide) dX12_works_254 rfl ?_
        refine pm_aload_n hC 0 (by decide) dX12_works_255 rfl ?_
        refine pm_getf (v := (a1 % 10)) hC 90 fl_X12_308 rfl rfl (by decide) rfl e239 dX12_works_256 ?_
        refine pm_callV (ci := 12) (as := [(0, (a1 % 10))]) (st := [(0, y321), (0, y31), (0, 0), (0, x229), (3, 111)]) hC 90 (fB_X12_x (a1 % 10) ⟨by exact ow_81_25, by exact ow_81_49 h3⟩) lm_X12_335 li_X12_x (by decide) (by decide) rfl rfl rfl (by decide) rfl rfl (Nat.le_of_ble_eq_true rfl) ⟨Nat.le_refl _, Or.inl rfl⟩ dX12_works_259 ⟨rfl, (hV232.put 110 (x229 : Int).toNat (x := y313) (lo := 0) (hi := 1539) rfl ⟨by exact ow_81_82 b314, by exact ow_81_83 b314⟩)⟩ (fun r324 V325 hp326 => ?_)
        obtain ⟨y327, rfl, b328, rfl, hE329⟩ := hp326
        replace hb253 := hb253.trans (pf_call_eq hE329)
        change pm_J X 262 [(0, (3, 90)), (1, (0, a1)), (2, (0, a2)), (3, (0, a3)), (4, (0, (4 * (a1 / 100)))), (5, (0, y37)), (6, (0, x229))] [(0, y327), (0, y321), (0, y31), (0, 0), (0, x229), (3, 111)] 118 (pm_up V231 110 (x229 : Int).toNat y313)
        refine pm_isub hC dX12_works_262 ?_
        refine pm_callS (as := [(0, (y321 - y327))]) (st := [(0, y31), (0, 0), (0, x229), (3, 111)]) hC (fB_X12_far (y321 - y327) ⟨by exact ow_81_69 b322 b328, by exact ow_81_70 b322 b328⟩) lm_X12_338 ls_X12_far (by decide) (by decide) rfl rfl (Nat.le_of_ble_eq_true rfl) ⟨Nat.le_refl _, Or.inl rfl⟩ dX12_works_263 ⟨rfl, (hV232.put 110 (x229 : Int).toNat (x := y313) (lo := 0) (hi := 1539) rfl ⟨by exact ow_81_82 b314, by exact ow_81_83 b314⟩)⟩ (fun r330 V331 hp332 => ?_)
        obtain ⟨y333, rfl, b334, rfl, hE335⟩ := hp332
        replace hb253 := hb253.trans (pf_call_eq hE335)
        change pm_J X 266 [(0, (3, 90)), (1, (0, a1)), (2, (0, a2)), (3, (0, a3)), (4, (0, (4 * (a1 / 100)))), (5, (0, y37)), (6, (0, x229))] [(0, y333), (0, y31), (0, 0), (0, x229), (3, 111)] 118 (pm_up V231 110 (x229 : Int).toNat y313)
        refine pm_isub hC dX12_works_266 ?_
        refine pm_mmax hC 7047 4012 1018 4013 ⟨by decide, by decide⟩ ⟨by exact ow_81_84 b32 b334, by exact ow_81_85 b32 b334⟩ (by decide) wL_X12_311 wS_mmax wI_math wC_mmax (Nat.le_of_ble_eq_true rfl) dX12_works_267 (fun y336 b337 => ?_)
        have he338 : pm_mx 0 (y31 - y333) = y336 := pm_mx_of b337
        replace b337 : 0 ≤ y336 ∧ y336 ≤ 171 ∧ 0 ≤ y336 ∧ (y31 - y333) ≤ y336 := ⟨by exact ow_81_45 b337, by exact ow_81_86 b32 b334 b337, b337.1, b337.2.1⟩
        replace hb253 := hb253.trans (pf_let_eq he338)
        have hv339 : (a1 % 10) = x229 → 1 ≤ y336 := by
          intro hq
          have q1 : (pm_up V231 110 (x229 : Int).toNat y313) 97 (3 * x229).toNat = (pm_up V231 110 (x229 : Int).toNat y313) 97 (3 * (a1 % 10)).toNat := by rw [hq]
          have hfz0 : y333 = 0 := pm_far0 b334 (by omega)
          exact ow_81_87 b32 b337 hfz0
        refine pm_iastore (len := 9) hC 111 rfl rfl (by decide) ⟨by exact ow_81_67 hm246 e268 b269, by exact ow_81_81 b3 c258⟩ (by decide) dX12_works_270 ?_
        refine pm_aload_n hC 0 (by decide) dX12_works_271 rfl ?_
        refine pm_dup hC rfl dX12_works_272 ?_
        refine pm_getf (v := y261) hC 90 fl_X12_326 rfl rfl (by decide) rfl e262 dX12_works_273 ?_
        refine pm_aload_n hC 0 (by decide) dX12_works_276 rfl ?_
        refine pm_getf (v := 110) hC 90 fl_X12_70 rfl rfl (by decide) rfl e270 dX12_works_277 ?_
        refine pm_iload hC 6 dX12_works_280 rfl ?_
        have hV342 := ((hV232.put 110 (x229 : Int).toNat (x := y313) (lo := 0) (hi := 1539) rfl ⟨by exact ow_81_82 b314, by exact ow_81_83 b314⟩).put 111 (x229 : Int).toNat (x := y336) (lo := 0) (hi := 171) rfl ⟨by exact ow_81_88 b337, by exact ow_81_89 b337⟩)
        have hF343 := ((hF233.up 110 (x229 : Int).toNat y313 (by decide) rfl).up 111 (x229 : Int).toNat y336 (by decide) rfl)
        obtain ⟨V340, hv341⟩ : ∃ V, V = (pm_up (pm_up V231 110 (x229 : Int).toNat y313) 111 (x229 : Int).toNat y336) := ⟨_, rfl⟩
        rw [← hv341] at hV342 hF343
        rw [← hv341]
        replace hb253 := hb253.trans (pf_let_eq hv341.symm)
        have e344 : V340 90 16 = y1 := by rw [hv341]; exact e234
        have e345 : V340 90 18 = 98 := by rw [hv341]; exact e235
        have e346 : V340 90 24 = 100 := by rw [hv341]; exact e236
        have e347 : V340 90 20 = y34 := by rw [hv341]; exact e237
        have e348 : V340 90 48 = ((a1 / 10) % 10) := by rw [hv341]; exact e238
        have e349 : V340 90 49 = (a1 % 10) := by rw [hv341]; exact e239
        have e350 : V340 90 42 = y17 := by rw [hv341]; exact e240
        have e351 : V340 90 43 = y31 := by rw [hv341]; exact e241
        have e352 : V340 90 47 = y209 := by rw [hv341]; exact e242
        have e353 : V340 90 44 = y261 := by rw [hv341]; exact e262
        have e354 : V340 90 45 = y264 := by rw [hv341]; exact e265
        have e355 : V340 90 46 = y267 := by rw [hv341]; exact e268
        have e356 : V340 90 40 = 110 := by rw [hv341]; exact e270
        have e357 : V340 90 17 = 97 := by rw [hv341]; exact e271
        have e358 : V340 90 41 = 111 := by rw [hv341]; exact e317
        have hp359 : pm_h1 V340 := by rw [hv341]; exact (pm_h1.fr hp243 rfl rfl)
        obtain ⟨y360, e361⟩ : ∃ y, V340 110 (x229 : Int).toNat = y := ⟨_, rfl⟩
        replace hb253 := hb253.trans (pf_let_eq e361)
        have b362 := hV342.get 110 (x229 : Int).toNat (lo := 0) (hi := 1539) (t := 0) (by decide) (show _ < 9 by exact ow_81_90 b3 c258) rfl
        rw [e361] at b362
        refine pm_iaload (len := 9) (v := y360) hC 110 rfl rfl (by decide) ⟨by exact ow_81_67 hm246 e268 b269, by exact ow_81_81 b3 c258⟩ (by decide) e361 dX12_works_282 ?_
        refine pm_i2l hC ⟨by exact ow_81_91 b362, by exact ow_81_92 b362⟩ dX12_works_283 ?_
        refine pm_ladd hC dX12_works_284 ?_
        refine pm_putf hC 90 fl_X12_326 rfl rfl rfl (by decide) rfl trivial dX12_works_285 ?_
        refine pm_aload_n hC 0 (by decide) dX12_works_288 rfl ?_
        refine pm_dup hC rfl dX12_works_289 ?_
        refine pm_getf (v := y264) hC 90 fl_X12_329 rfl rfl (by decide) rfl e354 dX12_works_290 ?_
        refine pm_aload_n hC 0 (by decide) dX12_works_293 rfl ?_
        refine pm_getf (v := 111) hC 90 fl_X12_73 rfl rfl (by decide) rfl e358 dX12_works_294 ?_
        refine pm_iload hC 6 dX12_works_297 rfl ?_
        obtain ⟨y363, e364⟩ : ∃ y, V340 111 (x229 : Int).toNat = y := ⟨_, rfl⟩
        replace hb253 := hb253.trans (pf_let_eq e364)
        have b365 := hV342.get 111 (x229 : Int).toNat (lo := 0) (hi := 171) (t := 0) (by decide) (show _ < 9 by exact ow_81_90 b3 c258) rfl
        rw [e364] at b365
        refine pm_iaload (len := 9) (v := y363) hC 111 rfl rfl (by decide) ⟨by exact ow_81_67 hm246 e268 b269, by exact ow_81_81 b3 c258⟩ (by decide) e364 dX12_works_299 ?_
        refine pm_i2l hC ⟨by exact ow_81_93 b365, by exact ow_81_94 b365⟩ dX12_works_300 ?_
        refine pm_ladd hC dX12_works_301 ?_
        refine pm_putf hC 90 fl_X12_329 rfl rfl rfl (by decide) rfl trivial dX12_works_302 ?_
        refine pm_aload_n hC 0 (by decide) dX12_works_305 rfl ?_
        refine pm_dup hC rfl dX12_works_306 ?_
        refine pm_getf (v := y267) hC 90 fl_X12_332 rfl rfl (by decide) rfl e355 dX12_works_307 ?_
        refine pm_aload_n hC 0 (by decide) dX12_works_310 rfl ?_
        refine pm_getf (v := 110) hC 90 fl_X12_70 rfl rfl (by decide) rfl e356 dX12_works_311 ?_
        refine pm_iload hC 6 dX12_works_314 rfl ?_
        refine pm_iaload (len := 9) (v := y360) hC 110 rfl rfl (by decide) ⟨by exact ow_81_67 hm246 e268 b269, by exact ow_81_81 b3 c258⟩ (by decide) e361 dX12_works_316 ?_
        refine pm_i2l hC ⟨by exact ow_81_91 b362, by exact ow_81_92 b362⟩ dX12_works_317 ?_
        refine pm_aload_n hC 0 (by decide) dX12_works_318 rfl ?_
        refine pm_getf (v := 111) hC 90 fl_X12_73 rfl rfl (by decide) rfl e358 dX12_works_319 ?_
        refine pm_iload hC 6 dX12_works_322 rfl ?_
        refine pm_iaload (len := 9) (v := y363) hC 111 rfl rfl (by decide) ⟨by exact ow_81_67 hm246 e268 b269, by exact ow_81_81 b3 c258⟩ (by decide) e364 dX12_works_324 ?_
        refine pm_i2l hC ⟨by exact ow_81_93 b365, by exact ow_81_94 b365⟩ dX12_works_325 ?_
        refine pm_lmul hC dX12_works_326 ?_
        have b367 : 0 ≤ (y360 * y363) ∧ (y360 * y363) ≤ 263169 := pm_mulb (by exact ow_81_95 b362) (by exact ow_81_96 b365) (show y360 ≤ 1539 by exact ow_81_97 b362) (show y363 ≤ 171 by exact ow_81_98 b365) (by decide)
        obtain ⟨y366, hey366⟩ : ∃ z, (y360 * y363) = z := ⟨_, rfl⟩
        rw [hey366] at b367 ⊢
        replace hb253 := hb253.trans (pf_let_eq hey366)
        refine pm_ladd hC dX12_works_327 ?_
        refine pm_putf hC 90 fl_X12_332 rfl rfl rfl (by decide) rfl trivial dX12_works_328 ?_
        obtain ⟨x368, ei369⟩ : ∃ y : Int, x229 + 1 = y := ⟨_, rfl⟩
        replace hb253 := hb253.trans (pf_let_eq ei369)
        refine pm_iinc (y := x368) (lv' := [(6, (0, x368)), (0, (3, 90)), (1, (0, a1)), (2, (0, a2)), (3, (0, a3)), (4, (0, (4 * (a1 / 100)))), (5, (0, y37))]) hC 6 dX12_works_331 (by decide) rfl ei369 rfl ?_
        refine pm_goto (tgt := 163) hC dX12_works_334 (by decide) ?_
        refine pm_lvsub [1, 2, 3, 4, 5, 6, 0] (lv' := [(0, (3, 90)), (1, (0, a1)), (2, (0, a2)), (3, (0, a3)), (4, (0, (4 * (a1 / 100)))), (5, (0, y37)), (6, (0, x368))]) rfl ?_
        exact ih257 _ (by (exact ow_81_99 b3 hm255 c258 ei369)) x368 (pm_up (pm_up (pm_up V340 90 44 (y261 + y360)) 90 45 (y264 + y363)) 90 46 (y267 + y366)) ⟨by exact ow_81_100 hm246 e268 b269 ei369, by exact ow_81_101 b3 c258 ei369⟩ (((hV342.put 90 44 (x := (y261 + y360)) (lo := 0) (hi := 13851) rfl ⟨by exact ow_81_102 b263 b362, by exact ow_81_103 b3 hm244 c258 e262 b362⟩).put 90 45 (x := (y264 + y363)) (lo := 0) (hi := 1539) rfl ⟨by exact ow_81_104 b266 b365, by exact ow_81_105 b3 hm245 c258 e265 b365⟩).put 90 46 (x := (y267 + y366)) (lo := 0) (hi := 2368521) rfl ⟨by exact ow_81_106 b269 b367, by omega⟩) (((hF343.upf 44 (y261 + y360) rfl).upf 45 (y264 + y363) rfl).upf 46 (y267 + y366) rfl) e344 e345 e346 e347 e348 e349 e350 e351 e352 (pm_h1.fr hp359 rfl rfl) (show (y261 + y360) ≤ 1539 * x368 by exact ow_81_107 hm244 e262 b362 ei369) (show (y264 + y363) ≤ 171 * x368 by exact ow_81_108 hm245 e265 b365 ei369) (show (y267 + y366) ≤ 263169 * x368 by omega) (fun h => by show 1 ≤ V340 110 (((a1 / 10) % 10)).toNat; rw [hv341]; exact pm_up_get (V := V231) (k := 110) (i := x229) (a := ((a1 / 10) % 10)) (x := y313) (p := fun z => 1 ≤ z) (by exact ow_81_67 hm246 e268 b269) (by exact ow_81_47) hv316 (fun hne => hx247 (by exact ow_81_109 ei369 h hne))) (fun h => by show 1 ≤ V340 111 ((a1 % 10)).toNat; rw [hv341]; exact pm_up_get (V := V231) (k := 111) (i := x229) (a := (a1 % 10)) (x := y336) (p := fun z => 1 ≤ z) (by exact ow_81_67 hm246 e268 b269) (by exact ow_81_25) hv339 (fun hne => hx248 (by exact ow_81_110 ei369 h hne))) (fun h => by have h9 : 1 ≤ (y267 + y366) := h; (by_cases hy : 1 ≤ y366); (have hm : y360 * y363 = y366 := hey366; obtain ⟨m1, m2⟩ := pm_mulpos (x := y360) (y := y363) (by exact ow_81_95 b362) (by exact ow_81_96 b365) (by rw [hm]; exact hy); exact ⟨((x229) : Int).toNat, by exact ow_81_111 hm246 e268 b269 ei369, by (show 1 ≤ V340 110 ((x229) : Int).toNat; rw [e361]; exact m1), by (show 1 ≤ V340 111 ((x229) : Int).toNat; rw [e364]; exact m2)⟩); (obtain ⟨q, q1, q2, q3⟩ := hx249 (by (have h46 : V231 90 46 = V340 90 46 := by rw [hv341]; rfl); rw [h46, e355]; exact ow_81_112 h9 hy); exact ⟨q, by exact ow_81_113 ei369 q1, by (show 1 ≤ V340 110 q; rw [hv341, pm_up_c (by decide), pm_up_i (by exact ow_81_114 q1)]; exact q2), by (show 1 ≤ V340 111 q; rw [hv341, pm_up_i (by exact ow_81_114 q1), pm_up_c (by decide)]; exact q3)⟩)) (by show x368 ≤ V340 90 16; rw [e344]; exact ow_81_115 c258 ei369) (hT.trans (pf_val_inl hb253)) rfl
    refine pm_lvsub [3, 4, 5, 6, 2, 1, 0] (lv' := [(0, (3, 90)), (1, (0, a1)), (2, (0, a2)), (3, (0, a3)), (4, (0, (4 * (a1 / 100)))), (5, (0, y37)), (6, (0, 0))]) rfl ?_
    exact L254 _ 0 V212 ⟨by decide, by decide⟩ hV214 hF215 e216 e217 e218 e219 e220 e221 e222 e223 e224 hp228 (by (have e : V212 90 44 = 0 := e225); rw [e]; exact ow_81_116) (by (have e : V212 90 45 = 0 := e226); rw [e]; exact ow_81_117) (by (have e : V212 90 46 = 0 := e227); rw [e]; exact ow_81_118) (fun h => absurd h (by exact ow_81_119 h)) (fun h => absurd h (by exact ow_81_120 h)) (fun h => absurd h (by rw [e227]; decide)) (by rw [e216]; exact ow_81_121 b3) hT rfl
set_option maxHeartbeats 4000000 in
set_option maxRecDepth 100000 in
theorem fB_X12_worksAnswer (a1 : Int) (h0 : 0 ≤ a1 ∧ a1 ≤ 59) : pm_K 3 yX12_worksAnswer cX12_worksAnswer 2 none (fun av V => av = [(3, 90), (0, a1)] ∧ pm_oq pm_qB V ∧ (a1 < V 90 25) ∧ pm_h1 V ∧ pm_h3 V) (fun _ V r V' => r = none ∧ pm_oq pm_qB V' ∧ pm_fs [110, 111] [42, 43, 44, 45, 46, 47, 48, 49] V V' ∧ (1 ≤ V' 90 42 ∧ V' 90 42 ≤ 171) ∧ (1 ≤ V' 90 43 ∧ V' 90 43 ≤ 171) ∧ pm_w1 V' ∧ pm_w3 V' ∧ F_X12_worksAnswer a1 V = (0, V')) := by
  refine pm_MT.of (by decide) ⟨Nat.le_refl _, by decide⟩ (fun av V h => by rw [h.1]; exact (by decide : pm_words [(3, 0), (0, 0)] ≤ 2)) ?_
  rintro X av V0 hC - hR ⟨rfl, hV0, hmp0, hn_pm_h1, hn_pm_h3⟩
  change pm_J X 0 [(0, (3, 90)), (1, (0, a1))] [] 118 V0
  have hT := F_X12_worksAnswer_eq a1 V0
  obtain ⟨y1, e2⟩ : ∃ y, V0 90 25 = y := ⟨_, rfl⟩
  have b3 := hV0.get 90 25 (lo := 0) (hi := 60) (by decide) (by decide) rfl
  rw [e2] at b3
  replace hT := hT.trans (pf_let_eq e2)
  have hh3 := hn_pm_h3 a1 (by exact ow_81_128 h0) (by exact ow_81_129 hmp0)
  refine pm_aload_n hC 0 (by decide) dX12_worksAnswer_0 rfl ?_
  refine pm_aload_n hC 0 (by decide) dX12_worksAnswer_1 rfl ?_
  have e4 : V0 90 26 = 101 := hV0.one 90 26 (by decide) (by decide) rfl
  refine pm_getf (v := 101) hC 90 fl_X12_43 rfl rfl (by decide) rfl e4 dX12_worksAnswer_2 ?_
  refine pm_iconst (v := 5) hC dX12_worksAnswer_5 ?_
  refine pm_iload_n hC 1 dX12_worksAnswer_6 rfl ?_
  refine pm_imul hC dX12_worksAnswer_7 ?_
  obtain ⟨y5, e6⟩ : ∃ y, V0 101 ((5 * a1) : Int).toNat = y := ⟨_, rfl⟩
  replace hT := hT.trans (pf_let_eq e6)
  have b7 := hV0.get1 101 ((5 * a1) : Int).toNat (lo := 0) (hi := 999) (by decide) (show _ < 300 by exact ow_81_130 h0) ((pm_qe_r (tb := pm_qB) (k := 101) (i := ((5 * a1) : Int).toNat) (m := 5) (r := 0) (l := [(0, 999, 1), (0, 99, 0), (-99, 99, 0), (0, 8, 0), (0, 1, 0)]) rfl rfl (by omega)).trans rfl)
  rw [e6] at b7
  refine pm_iaload (len := 300) (v := y5) hC 101 rfl rfl (by decide) ⟨by exact ow_81_131 h0, by exact ow_81_132 h0⟩ (by decide) e6 dX12_worksAnswer_8 ?_
  refine pm_aload_n hC 0 (by decide) dX12_worksAnswer_9 rfl ?_
  refine pm_getf (v := 101) hC 90 fl_X12_43 rfl rfl (by decide) rfl e4 dX12_worksAnswer_10 ?_
  refine pm_iconst (v := 5) hC dX12_worksAnswer_13 ?_
  refine pm_iload_n hC 1 dX12_worksAnswer_14 rfl ?_
  refine pm_imul hC dX12_worksAnswer_15 ?_
  refine pm_iconst (v := 1) hC dX12_worksAnswer_16 ?_
  refine pm_iadd hC dX12_worksAnswer_17 ?_
  obtain ⟨y8, e9⟩ : ∃ y, V0 101 (((5 * a1) + 1) : Int).toNat = y := ⟨_, rfl⟩
  replace hT := hT.trans (pf_let_eq e9)
  have b10 := hV0.get 101 (((5 * a1) + 1) : Int).toNat (lo := 0) (hi := 99) (t := 0) (by decide) (show _ < 300 by exact ow_81_133 h0) ((pm_qe_r (tb := pm_qB) (k := 101) (i := (((5 * a1) + 1) : Int).toNat) (m := 5) (r := 1) (l := [(0, 999, 1), (0, 99, 0), (-99, 99, 0), (0, 8, 0), (0, 1, 0)]) rfl rfl (by omega)).trans rfl)
  rw [e9] at b10
  refine pm_iaload (len := 300) (v := y8) hC 101 rfl rfl (by decide) ⟨by exact ow_81_134 h0, by exact ow_81_135 h0⟩ (by decide) e9 dX12_worksAnswer_18 ?_
  refine pm_aload_n hC 0 (by decide) dX12_worksAnswer_19 rfl ?_
  refine pm_getf (v := 101) hC 90 fl_X12_43 rfl rfl (by decide) rfl e4 dX12_worksAnswer_20 ?_
  refine pm_iconst (v := 5) hC dX12_worksAnswer_23 ?_
  refine pm_iload_n hC 1 dX12_worksAnswer_24 rfl ?_
  refine pm_imul hC dX12_worksAnswer_25 ?_
  refine pm_iconst (v := 2) hC dX12_worksAnswer_26 ?_
  refine pm_iadd hC dX12_worksAnswer_27 ?_
  obtain ⟨y11, e12⟩ : ∃ y, V0 101 (((5 * a1) + 2) : Int).toNat = y := ⟨_, rfl⟩
  replace hT := hT.trans (pf_let_eq e12)
  have b13 := hV0.get 101 (((5 * a1) + 2) : Int).toNat (lo := (-99)) (hi := 99) (t := 0) (by decide) (show _ < 300 by exact ow_81_136 h0) ((pm_qe_r (tb := pm_qB) (k := 101) (i := (((5 * a1) + 2) : Int).toNat) (m := 5) (r := 2) (l := [(0, 999, 1), (0, 99, 0), (-99, 99, 0), (0, 8, 0), (0, 1, 0)]) rfl rfl (by omega)).trans rfl)
  rw [e12] at b13
  refine pm_iaload (len := 300) (v := y11) hC 101 rfl rfl (by decide) ⟨by exact ow_81_137 h0, by exact ow_81_138 h0⟩ (by decide) e12 dX12_worksAnswer_28 ?_
  refine pm_callV (ci := 12) (as := [(0, y5), (0, y8), (0, y11)]) (st := []) hC 90 (fB_X12_works y5 y8 y11 ⟨by exact ow_81_139 b7, by exact ow_81_140 b7⟩ ⟨by exact ow_81_11 b10, by exact ow_81_141 b10⟩ ⟨by exact ow_81_142 b13, by exact ow_81_143 b13⟩ (by exact ow_81_144 b7)) lm_X12_376 li_X12_works (by decide) (by decide) rfl rfl rfl (by decide) rfl rfl (Nat.le_of_ble_eq_true rfl) ⟨Nat.le_refl _, Or.inl rfl⟩ dX12_worksAnswer_29 ⟨rfl, hV0, (show (y5) % 10 < V0 90 16 by omega), (show (y5) / 10 % 10 < V0 90 16 by omega), hn_pm_h1⟩ (fun r14 V15 hp16 => ?_)
  obtain ⟨rfl, hV17, hF18, hq19, hq20, hg21, hg22, hE23⟩ := hp16
  replace hT := hT.trans (pf_call_eq hE23)
  change pm_J X 32 [(0, (3, 90)), (1, (0, a1))] [] 118 V15
  have hF24 := pm_fs.tr (pm_fs.rf (cs := [110, 111]) (fs := [42, 43, 44, 45, 46, 47, 48, 49]) (V := V0)) hF18 (by decide) (by decide)
  have e25 : V15 90 25 = y1 := by rw [hF18.2 25 (by decide)]; exact e2
  have e26 : V15 90 26 = 101 := by rw [hF18.2 26 (by decide)]; exact e4
  have hp27 : pm_h1 V15 := (pm_h1.fr hn_pm_h1 (hF18.2 16 (by decide)) (hF18.1 97 (by decide) (by decide)))
  have hp28 : pm_h3 V15 := (pm_h3.fr hn_pm_h3 (hF18.2 16 (by decide)) (hF18.2 25 (by decide)) (hF18.1 101 (by decide) (by decide)))
  obtain ⟨z29, ez30⟩ : ∃ z, V15 90 42 = z := ⟨_, rfl⟩
  rw [ez30] at hq19
  replace hT := hT.trans (pf_let_eq ez30)
  obtain ⟨z31, ez32⟩ : ∃ z, V15 90 43 = z := ⟨_, rfl⟩
  rw [ez32] at hq20
  replace hT := hT.trans (pf_let_eq ez32)
  have q33 : 1 ≤ V15 90 42 ∧ V15 90 42 ≤ 171 := by (have e : V15 90 42 = z29 := ez30); rw [e]; exact ⟨by exact ow_81_145 hq19, by exact ow_81_146 hq19⟩
  have q34 : 1 ≤ V15 90 43 ∧ V15 90 43 ≤ 171 := by (have e : V15 90 43 = z31 := ez32); rw [e]; exact ⟨by exact ow_81_145 hq20, by exact ow_81_146 hq20⟩
  exact pm_vret hC hR ⟨rfl, hV17, hF24, q33, q34, hg21, hg22, hT⟩ dX12_worksAnswer_32
